theorem dX3_append_67 : decode cX3_append 67 = .ok (.getfield 22, 3) := by decide +kernel
theorem dX3_append_70 : decode cX3_append 70 = .ok (.iconst 1, 1) := by decide +kernel
theorem dX3_append_71 : decode cX3_append 71 = .ok (.iadd, 1) := by decide +kernel
theorem dX3_append_72 : decode cX3_append 72 = .ok (.putfield 22, 3) := by decide +kernel
theorem dX3_append_75 : decode cX3_append 75 = .ok (.return_, 1) := by decide +kernel
theorem dX3_numberAt_0 : decode cX3_numberAt 0 = .ok (.iload_n 1, 1) := by decide +kernel
theorem dX3_numberAt_1 : decode cX3_numberAt 1 = .ok (.iconst 4, 1) := by decide +kernel
theorem dX3_numberAt_2 : decode cX3_numberAt 2 = .ok (.imul, 1) := by decide +kernel
theorem dX3_numberAt_3 : decode cX3_numberAt 3 = .ok (.iload_n 2, 1) := by decide +kernel
theorem dX3_numberAt_4 : decode cX3_numberAt 4 = .ok (.iadd, 1) := by decide +kernel
theorem dX3_numberAt_5 : decode cX3_numberAt 5 = .ok (.istore_n 3, 1) := by decide +kernel
theorem dX3_numberAt_6 : decode cX3_numberAt 6 = .ok (.iload_n 3, 1) := by decide +kernel
theorem dX3_numberAt_7 : decode cX3_numberAt 7 = .ok (.ifCond .lt 21, 3) := by decide +kernel
theorem dX3_numberAt_10 : decode cX3_numberAt 10 = .ok (.iload_n 3, 1) := by decide +kernel
theorem dX3_numberAt_11 : decode cX3_numberAt 11 = .ok (.aload_n 0, 1) := by decide +kernel
theorem dX3_numberAt_12 : decode cX3_numberAt 12 = .ok (.getfield 11, 3) := by decide +kernel
theorem dX3_numberAt_15 : decode cX3_numberAt 15 = .ok (.arraylength, 1) := by decide +kernel
theorem dX3_numberAt_16 : decode cX3_numberAt 16 = .ok (.if_icmp .ge 12, 3) := by decide +kernel
theorem dX3_numberAt_19 : decode cX3_numberAt 19 = .ok (.aload_n 0, 1) := by decide +kernel
theorem dX3_numberAt_20 : decode cX3_numberAt 20 = .ok (.getfield 11, 3) := by decide +kernel
theorem dX3_numberAt_23 : decode cX3_numberAt 23 = .ok (.iload_n 3, 1) := by decide +kernel
theorem dX3_numberAt_24 : decode cX3_numberAt 24 = .ok (.iaload, 1) := by decide +kernel
theorem dX3_numberAt_25 : decode cX3_numberAt 25 = .ok (.goto 4, 3) := by decide +kernel
theorem dX3_numberAt_28 : decode cX3_numberAt 28 = .ok (.iconst 0, 1) := by decide +kernel
theorem dX3_numberAt_29 : decode cX3_numberAt 29 = .ok (.ireturn, 1) := by decide +kernel
theorem dX4_init_0 : decode cX4_init 0 = .ok (.aload_n 0, 1) := by decide +kernel
theorem dX4_init_1 : decode cX4_init 1 = .ok (.invokespecial 3, 3) := by decide +kernel
theorem dX4_init_4 : decode cX4_init 4 = .ok (.aload_n 0, 1) := by decide +kernel
theorem dX4_init_5 : decode cX4_init 5 = .ok (.bipush 32, 2) := by decide +kernel
theorem dX4_init_7 : decode cX4_init 7 = .ok (.anewarray 9, 3) := by decide +kernel
theorem dX4_init_10 : decode cX4_init 10 = .ok (.putfield 11, 3) := by decide +kernel
theorem dX4_init_13 : decode cX4_init 13 = .ok (.aload_n 0, 1) := by decide +kernel
theorem dX4_init_14 : decode cX4_init 14 = .ok (.bipush (-4), 2) := by decide +kernel
theorem dX4_init_16 : decode cX4_init 16 = .ok (.putfield 17, 3) := by decide +kernel
theorem dX4_init_19 : decode cX4_init 19 = .ok (.return_, 1) := by decide +kernel
theorem dX4_at_0 : decode cX4_at 0 = .ok (.iload_n 1, 1) := by decide +kernel
theorem dX4_at_1 : decode cX4_at 1 = .ok (.ifCond .lt 20, 3) := by decide +kernel
theorem dX4_at_4 : decode cX4_at 4 = .ok (.iload_n 1, 1) := by decide +kernel
theorem dX4_at_5 : decode cX4_at 5 = .ok (.aload_n 0, 1) := by decide +kernel
theorem dX4_at_6 : decode cX4_at 6 = .ok (.getfield 21, 3) := by decide +kernel
theorem dX4_at_9 : decode cX4_at 9 = .ok (.if_icmp .ge 12, 3) := by decide +kernel
theorem dX4_at_12 : decode cX4_at 12 = .ok (.aload_n 0, 1) := by decide +kernel
theorem dX4_at_13 : decode cX4_at 13 = .ok (.getfield 11, 3) := by decide +kernel
theorem dX4_at_16 : decode cX4_at 16 = .ok (.iload_n 1, 1) := by decide +kernel
theorem dX4_at_17 : decode cX4_at 17 = .ok (.aaload, 1) := by decide +kernel
theorem dX4_at_18 : decode cX4_at 18 = .ok (.goto 4, 3) := by decide +kernel
theorem dX4_at_21 : decode cX4_at 21 = .ok (.aconst_null, 1) := by decide +kernel
theorem dX4_at_22 : decode cX4_at 22 = .ok (.areturn, 1) := by decide +kernel
theorem dX4_isFull_0 : decode cX4_isFull 0 = .ok (.aload_n 0, 1) := by decide +kernel
theorem dX4_isFull_1 : decode cX4_isFull 1 = .ok (.getfield 21, 3) := by decide +kernel
theorem dX4_isFull_4 : decode cX4_isFull 4 = .ok (.bipush 32, 2) := by decide +kernel
theorem dX4_isFull_6 : decode cX4_isFull 6 = .ok (.if_icmp .lt 7, 3) := by decide +kernel
theorem dX4_isFull_9 : decode cX4_isFull 9 = .ok (.iconst 1, 1) := by decide +kernel
theorem dX4_isFull_10 : decode cX4_isFull 10 = .ok (.goto 4, 3) := by decide +kernel
theorem dX4_isFull_13 : decode cX4_isFull 13 = .ok (.iconst 0, 1) := by decide +kernel
theorem dX4_isFull_14 : decode cX4_isFull 14 = .ok (.ireturn, 1) := by decide +kernel
theorem dX4_make_0 : decode cX4_make 0 = .ok (.aload_n 0, 1) := by decide +kernel
theorem dX4_make_1 : decode cX4_make 1 = .ok (.invokevirtual 24, 3) := by decide +kernel
theorem dX4_make_4 : decode cX4_make 4 = .ok (.ifCond .ne 13, 3) := by decide +kernel
theorem dX4_make_7 : decode cX4_make 7 = .ok (.iload_n 2, 1) := by decide +kernel
theorem dX4_make_8 : decode cX4_make 8 = .ok (.ifCond .lt 9, 3) := by decide +kernel
theorem dX4_make_11 : decode cX4_make 11 = .ok (.iload_n 2, 1) := by decide +kernel
theorem dX4_make_12 : decode cX4_make 12 = .ok (.bipush 12, 2) := by decide +kernel
theorem dX4_make_14 : decode cX4_make 14 = .ok (.if_icmp .le 6, 3) := by decide +kernel
theorem dX4_make_17 : decode cX4_make 17 = .ok (.bipush (-4), 2) := by decide +kernel
theorem dX4_make_19 : decode cX4_make 19 = .ok (.ireturn, 1) := by decide +kernel
theorem dX4_make_20 : decode cX4_make 20 = .ok (.new 9, 3) := by decide +kernel
theorem dX4_make_23 : decode cX4_make 23 = .ok (.dup, 1) := by decide +kernel
theorem dX4_make_24 : decode cX4_make 24 = .ok (.aload_n 0, 1) := by decide +kernel
theorem dX4_make_25 : decode cX4_make 25 = .ok (.getfield 21, 3) := by decide +kernel
theorem dX4_make_28 : decode cX4_make 28 = .ok (.iload_n 1, 1) := by decide +kernel
theorem dX4_make_29 : decode cX4_make 29 = .ok (.iload_n 2, 1) := by decide +kernel
theorem dX4_make_30 : decode cX4_make 30 = .ok (.newarray .int, 2) := by decide +kernel
theorem dX4_make_32 : decode cX4_make 32 = .ok (.invokespecial 28, 3) := by decide +kernel
theorem dX4_make_35 : decode cX4_make 35 = .ok (.astore_n 3, 1) := by decide +kernel
theorem dX4_make_36 : decode cX4_make 36 = .ok (.aload_n 3, 1) := by decide +kernel
theorem dX4_make_37 : decode cX4_make 37 = .ok (.invokevirtual 31, 3) := by decide +kernel
theorem dX4_make_40 : decode cX4_make 40 = .ok (.ifCond .eq 12, 3) := by decide +kernel
theorem dX4_make_43 : decode cX4_make 43 = .ok (.aload_n 3, 1) := by decide +kernel
theorem dX4_make_44 : decode cX4_make 44 = .ok (.getfield 34, 3) := by decide +kernel
theorem dX4_make_47 : decode cX4_make 47 = .ok (.bipush (-4), 2) := by decide +kernel
theorem dX4_make_49 : decode cX4_make 49 = .ok (.invokestatic 38, 3) := by decide +kernel
theorem dX4_make_52 : decode cX4_make 52 = .ok (.aload_n 0, 1) := by decide +kernel
theorem dX4_make_53 : decode cX4_make 53 = .ok (.getfield 11, 3) := by decide +kernel
theorem dX4_make_56 : decode cX4_make 56 = .ok (.aload_n 0, 1) := by decide +kernel
theorem dX4_make_57 : decode cX4_make 57 = .ok (.getfield 21, 3) := by decide +kernel
theorem dX4_make_60 : decode cX4_make 60 = .ok (.aload_n 3, 1) := by decide +kernel
theorem dX4_make_61 : decode cX4_make 61 = .ok (.aastore, 1) := by decide +kernel
theorem dX4_make_62 : decode cX4_make 62 = .ok (.aload_n 0, 1) := by decide +kernel
theorem dX4_make_63 : decode cX4_make 63 = .ok (.dup, 1) := by decide +kernel
theorem dX4_make_64 : decode cX4_make 64 = .ok (.getfield 21, 3) := by decide +kernel
theorem dX4_make_67 : decode cX4_make 67 = .ok (.iconst 1, 1) := by decide +kernel
theorem dX4_make_68 : decode cX4_make 68 = .ok (.iadd, 1) := by decide +kernel
theorem dX4_make_69 : decode cX4_make 69 = .ok (.putfield 21, 3) := by decide +kernel
theorem dX4_make_72 : decode cX4_make 72 = .ok (.aload_n 3, 1) := by decide +kernel
theorem dX4_make_73 : decode cX4_make 73 = .ok (.getfield 44, 3) := by decide +kernel
theorem dX4_make_76 : decode cX4_make 76 = .ok (.ireturn, 1) := by decide +kernel
theorem dX4_weightOf_0 : decode cX4_weightOf 0 = .ok (.aload_n 0, 1) := by decide +kernel
theorem dX4_weightOf_1 : decode cX4_weightOf 1 = .ok (.aload_n 1, 1) := by decide +kernel
theorem dX4_weightOf_2 : decode cX4_weightOf 2 = .ok (.getfield 47, 3) := by decide +kernel
theorem dX4_weightOf_5 : decode cX4_weightOf 5 = .ok (.putfield 17, 3) := by decide +kernel
theorem dX4_weightOf_8 : decode cX4_weightOf 8 = .ok (.aload_n 1, 1) := by decide +kernel
theorem dX4_weightOf_9 : decode cX4_weightOf 9 = .ok (.getfield 47, 3) := by decide +kernel
theorem dX4_weightOf_12 : decode cX4_weightOf 12 = .ok (.tableswitch 68 0 3 #[32, 34, 43, 56], 32) := by decide +kernel
theorem dX4_weightOf_44 : decode cX4_weightOf 44 = .ok (.iconst 1, 1) := by decide +kernel
theorem dX4_weightOf_45 : decode cX4_weightOf 45 = .ok (.ireturn, 1) := by decide +kernel
theorem dX4_weightOf_46 : decode cX4_weightOf 46 = .ok (.aload_n 1, 1) := by decide +kernel
theorem dX4_weightOf_47 : decode cX4_weightOf 47 = .ok (.getfield 50, 3) := by decide +kernel
theorem dX4_weightOf_50 : decode cX4_weightOf 50 = .ok (.iconst 3, 1) := by decide +kernel
theorem dX4_weightOf_51 : decode cX4_weightOf 51 = .ok (.iadd, 1) := by decide +kernel
theorem dX4_weightOf_52 : decode cX4_weightOf 52 = .ok (.iconst 1, 1) := by decide +kernel
theorem dX4_weightOf_53 : decode cX4_weightOf 53 = .ok (.iadd, 1) := by decide +kernel
theorem dX4_weightOf_54 : decode cX4_weightOf 54 = .ok (.ireturn, 1) := by decide +kernel
theorem dX4_weightOf_55 : decode cX4_weightOf 55 = .ok (.iconst 2, 1) := by decide +kernel
theorem dX4_weightOf_56 : decode cX4_weightOf 56 = .ok (.aload_n 1, 1) := by decide +kernel
theorem dX4_weightOf_57 : decode cX4_weightOf 57 = .ok (.getfield 50, 3) := by decide +kernel
theorem dX4_weightOf_60 : decode cX4_weightOf 60 = .ok (.iconst 5, 1) := by decide +kernel
theorem dX4_weightOf_61 : decode cX4_weightOf 61 = .ok (.iadd, 1) := by decide +kernel
theorem dX4_weightOf_62 : decode cX4_weightOf 62 = .ok (.iconst 3, 1) := by decide +kernel
theorem dX4_weightOf_63 : decode cX4_weightOf 63 = .ok (.iadd, 1) := by decide +kernel
theorem dX4_weightOf_64 : decode cX4_weightOf 64 = .ok (.iconst 1, 1) := by decide +kernel
theorem dX4_weightOf_65 : decode cX4_weightOf 65 = .ok (.iadd, 1) := by decide +kernel
theorem dX4_weightOf_66 : decode cX4_weightOf 66 = .ok (.imul, 1) := by decide +kernel
theorem dX4_weightOf_67 : decode cX4_weightOf 67 = .ok (.ireturn, 1) := by decide +kernel
theorem dX4_weightOf_68 : decode cX4_weightOf 68 = .ok (.iconst 2, 1) := by decide +kernel
theorem dX4_weightOf_69 : decode cX4_weightOf 69 = .ok (.aload_n 1, 1) := by decide +kernel
theorem dX4_weightOf_70 : decode cX4_weightOf 70 = .ok (.getfield 50, 3) := by decide +kernel
theorem dX4_weightOf_73 : decode cX4_weightOf 73 = .ok (.bipush 80, 2) := by decide +kernel
theorem dX4_weightOf_75 : decode cX4_weightOf 75 = .ok (.iadd, 1) := by decide +kernel
theorem dX4_weightOf_76 : decode cX4_weightOf 76 = .ok (.imul, 1) := by decide +kernel
theorem dX4_weightOf_77 : decode cX4_weightOf 77 = .ok (.iconst 1, 1) := by decide +kernel
theorem dX4_weightOf_78 : decode cX4_weightOf 78 = .ok (.isub, 1) := by decide +kernel
theorem dX4_weightOf_79 : decode cX4_weightOf 79 = .ok (.ireturn, 1) := by decide +kernel
theorem dX4_weightOf_80 : decode cX4_weightOf 80 = .ok (.aload_n 1, 1) := by decide +kernel
theorem dX4_weightOf_81 : decode cX4_weightOf 81 = .ok (.getfield 34, 3) := by decide +kernel
theorem dX4_weightOf_84 : decode cX4_weightOf 84 = .ok (.arraylength, 1) := by decide +kernel
theorem dX4_weightOf_85 : decode cX4_weightOf 85 = .ok (.ireturn, 1) := by decide +kernel
theorem dX4_bodyThatBegan_0 : decode cX4_bodyThatBegan 0 = .ok (.aload_n 0, 1) := by decide +kernel
theorem dX4_bodyThatBegan_1 : decode cX4_bodyThatBegan 1 = .ok (.getfield 17, 3) := by decide +kernel
theorem dX4_bodyThatBegan_4 : decode cX4_bodyThatBegan 4 = .ok (.bipush (-4), 2) := by decide +kernel
theorem dX4_bodyThatBegan_6 : decode cX4_bodyThatBegan 6 = .ok (.if_icmp .ne 6, 3) := by decide +kernel
theorem dX4_bodyThatBegan_9 : decode cX4_bodyThatBegan 9 = .ok (.bipush (-4), 2) := by decide +kernel
theorem dX4_bodyThatBegan_11 : decode cX4_bodyThatBegan 11 = .ok (.ireturn, 1) := by decide +kernel
theorem dX4_bodyThatBegan_12 : decode cX4_bodyThatBegan 12 = .ok (.aload_n 0, 1) := by decide +kernel
theorem dX4_bodyThatBegan_13 : decode cX4_bodyThatBegan 13 = .ok (.getfield 17, 3) := by decide +kernel
theorem dX4_bodyThatBegan_16 : decode cX4_bodyThatBegan 16 = .ok (.invokestatic 53, 3) := by decide +kernel
theorem dX4_bodyThatBegan_19 : decode cX4_bodyThatBegan 19 = .ok (.astore_n 2, 1) := by decide +kernel
theorem dX4_bodyThatBegan_20 : decode cX4_bodyThatBegan 20 = .ok (.iload_n 1, 1) := by decide +kernel
theorem dX4_bodyThatBegan_21 : decode cX4_bodyThatBegan 21 = .ok (.ifCond .lt 15, 3) := by decide +kernel
theorem dX4_bodyThatBegan_24 : decode cX4_bodyThatBegan 24 = .ok (.iload_n 1, 1) := by decide +kernel
theorem dX4_bodyThatBegan_25 : decode cX4_bodyThatBegan 25 = .ok (.aload_n 2, 1) := by decide +kernel
theorem dX4_bodyThatBegan_26 : decode cX4_bodyThatBegan 26 = .ok (.arraylength, 1) := by decide +kernel
theorem dX4_bodyThatBegan_27 : decode cX4_bodyThatBegan 27 = .ok (.if_icmp .ge 9, 3) := by decide +kernel
theorem dX4_bodyThatBegan_30 : decode cX4_bodyThatBegan 30 = .ok (.aload_n 2, 1) := by decide +kernel
theorem dX4_bodyThatBegan_31 : decode cX4_bodyThatBegan 31 = .ok (.iload_n 1, 1) := by decide +kernel
theorem dX4_bodyThatBegan_32 : decode cX4_bodyThatBegan 32 = .ok (.iaload, 1) := by decide +kernel
theorem dX4_bodyThatBegan_33 : decode cX4_bodyThatBegan 33 = .ok (.goto 5, 3) := by decide +kernel
theorem dX4_bodyThatBegan_36 : decode cX4_bodyThatBegan 36 = .ok (.bipush (-4), 2) := by decide +kernel
theorem dX4_bodyThatBegan_38 : decode cX4_bodyThatBegan 38 = .ok (.ireturn, 1) := by decide +kernel
theorem dX4_bodiesOf_0 : decode cX4_bodiesOf 0 = .ok (.iload_n 0, 1) := by decide +kernel
theorem dX4_bodiesOf_1 : decode cX4_bodiesOf 1 = .ok (.tableswitch 47 0 3 #[31, 35, 39, 43], 31) := by decide +kernel
theorem dX4_bodiesOf_32 : decode cX4_bodiesOf 32 = .ok (.getstatic 57, 3) := by decide +kernel
theorem dX4_bodiesOf_35 : decode cX4_bodiesOf 35 = .ok (.areturn, 1) := by decide +kernel
theorem dX4_bodiesOf_36 : decode cX4_bodiesOf 36 = .ok (.getstatic 60, 3) := by decide +kernel
theorem dX4_bodiesOf_39 : decode cX4_bodiesOf 39 = .ok (.areturn, 1) := by decide +kernel
theorem dX4_bodiesOf_40 : decode cX4_bodiesOf 40 = .ok (.getstatic 63, 3) := by decide +kernel
theorem dX4_bodiesOf_43 : decode cX4_bodiesOf 43 = .ok (.areturn, 1) := by decide +kernel
theorem dX4_bodiesOf_44 : decode cX4_bodiesOf 44 = .ok (.getstatic 66, 3) := by decide +kernel
theorem dX4_bodiesOf_47 : decode cX4_bodiesOf 47 = .ok (.areturn, 1) := by decide +kernel
theorem dX4_bodiesOf_48 : decode cX4_bodiesOf 48 = .ok (.getstatic 69, 3) := by decide +kernel
theorem dX4_bodiesOf_51 : decode cX4_bodiesOf 51 = .ok (.areturn, 1) := by decide +kernel
theorem dX4_fits_0 : decode cX4_fits 0 = .ok (.aload_n 0, 1) := by decide +kernel
theorem dX4_fits_1 : decode cX4_fits 1 = .ok (.iload_n 1, 1) := by decide +kernel
theorem dX4_fits_2 : decode cX4_fits 2 = .ok (.invokevirtual 72, 3) := by decide +kernel
theorem dX4_fits_5 : decode cX4_fits 5 = .ok (.astore_n 3, 1) := by decide +kernel
theorem dX4_fits_6 : decode cX4_fits 6 = .ok (.aload_n 3, 1) := by decide +kernel
theorem dX4_fits_7 : decode cX4_fits 7 = .ok (.ifnull 19, 3) := by decide +kernel
theorem dX4_fits_10 : decode cX4_fits 10 = .ok (.aload_n 2, 1) := by decide +kernel
theorem dX4_fits_11 : decode cX4_fits 11 = .ok (.getfield 47, 3) := by decide +kernel
theorem dX4_fits_14 : decode cX4_fits 14 = .ok (.bipush 6, 2) := by decide +kernel
theorem dX4_fits_16 : decode cX4_fits 16 = .ok (.if_icmp .eq 10, 3) := by decide +kernel
theorem dX4_fits_19 : decode cX4_fits 19 = .ok (.aload_n 3, 1) := by decide +kernel
theorem dX4_fits_20 : decode cX4_fits 20 = .ok (.invokevirtual 76, 3) := by decide +kernel
theorem dX4_fits_23 : decode cX4_fits 23 = .ok (.ifCond .eq 7, 3) := by decide +kernel
theorem dX4_fits_26 : decode cX4_fits 26 = .ok (.iconst 1, 1) := by decide +kernel
theorem dX4_fits_27 : decode cX4_fits 27 = .ok (.goto 4, 3) := by decide +kernel
theorem dX4_fits_30 : decode cX4_fits 30 = .ok (.iconst 0, 1) := by decide +kernel
theorem dX4_fits_31 : decode cX4_fits 31 = .ok (.ireturn, 1) := by decide +kernel
theorem dX5_init_0 : decode cX5_init 0 = .ok (.aload_n 0, 1) := by decide +kernel
theorem dX5_init_1 : decode cX5_init 1 = .ok (.invokespecial 3, 3) := by decide +kernel
theorem dX5_init_4 : decode cX5_init 4 = .ok (.aload_n 0, 1) := by decide +kernel
theorem dX5_init_5 : decode cX5_init 5 = .ok (.bipush 6, 2) := by decide +kernel
theorem dX5_init_7 : decode cX5_init 7 = .ok (.newarray .int, 2) := by decide +kernel
theorem dX5_init_9 : decode cX5_init 9 = .ok (.putfield 9, 3) := by decide +kernel
theorem dX5_init_12 : decode cX5_init 12 = .ok (.aload_n 0, 1) := by decide +kernel
theorem dX5_init_13 : decode cX5_init 13 = .ok (.bipush 6, 2) := by decide +kernel
theorem dX5_init_15 : decode cX5_init 15 = .ok (.newarray .int, 2) := by decide +kernel
theorem dX5_init_17 : decode cX5_init 17 = .ok (.putfield 15, 3) := by decide +kernel
theorem dX5_init_20 : decode cX5_init 20 = .ok (.aload_n 0, 1) := by decide +kernel
theorem dX5_init_21 : decode cX5_init 21 = .ok (.new 18, 3) := by decide +kernel
theorem dX5_init_24 : decode cX5_init 24 = .ok (.dup, 1) := by decide +kernel
theorem dX5_init_25 : decode cX5_init 25 = .ok (.invokespecial 20, 3) := by decide +kernel
theorem dX5_init_28 : decode cX5_init 28 = .ok (.putfield 21, 3) := by decide +kernel
theorem dX5_init_31 : decode cX5_init 31 = .ok (.aload_n 0, 1) := by decide +kernel
theorem dX5_init_32 : decode cX5_init 32 = .ok (.iconst 0, 1) := by decide +kernel
theorem dX5_init_33 : decode cX5_init 33 = .ok (.putfield 25, 3) := by decide +kernel
theorem dX5_init_36 : decode cX5_init 36 = .ok (.aload_n 0, 1) := by decide +kernel
theorem dX5_init_37 : decode cX5_init 37 = .ok (.bipush (-4), 2) := by decide +kernel
theorem dX5_init_39 : decode cX5_init 39 = .ok (.putfield 29, 3) := by decide +kernel
theorem dX5_init_42 : decode cX5_init 42 = .ok (.aload_n 0, 1) := by decide +kernel
theorem dX5_init_43 : decode cX5_init 43 = .ok (.bipush (-4), 2) := by decide +kernel
theorem dX5_init_45 : decode cX5_init 45 = .ok (.putfield 32, 3) := by decide +kernel
theorem dX5_init_48 : decode cX5_init 48 = .ok (.aload_n 0, 1) := by decide +kernel
theorem dX5_init_49 : decode cX5_init 49 = .ok (.iload_n 1, 1) := by decide +kernel
theorem dX5_init_50 : decode cX5_init 50 = .ok (.putfield 35, 3) := by decide +kernel
theorem dX5_init_53 : decode cX5_init 53 = .ok (.aload_n 0, 1) := by decide +kernel
theorem dX5_init_54 : decode cX5_init 54 = .ok (.getfield 15, 3) := by decide +kernel
theorem dX5_init_57 : decode cX5_init 57 = .ok (.bipush (-4), 2) := by decide +kernel
theorem dX5_init_59 : decode cX5_init 59 = .ok (.invokestatic 38, 3) := by decide +kernel
theorem dX5_init_62 : decode cX5_init 62 = .ok (.return_, 1) := by decide +kernel
theorem dX5_renew_0 : decode cX5_renew 0 = .ok (.aload_n 0, 1) := by decide +kernel
theorem dX5_renew_1 : decode cX5_renew 1 = .ok (.iconst 1, 1) := by decide +kernel
theorem dX5_renew_2 : decode cX5_renew 2 = .ok (.bipush (-4), 2) := by decide +kernel
theorem dX5_renew_4 : decode cX5_renew 4 = .ok (.bipush (-4), 2) := by decide +kernel
theorem dX5_renew_6 : decode cX5_renew 6 = .ok (.invokevirtual 44, 3) := by decide +kernel
theorem dX5_renew_9 : decode cX5_renew 9 = .ok (.aload_n 0, 1) := by decide +kernel
theorem dX5_renew_10 : decode cX5_renew 10 = .ok (.aload_n 1, 1) := by decide +kernel
theorem dX5_renew_11 : decode cX5_renew 11 = .ok (.putfield 48, 3) := by decide +kernel
theorem dX5_renew_14 : decode cX5_renew 14 = .ok (.aload_n 0, 1) := by decide +kernel
theorem dX5_renew_15 : decode cX5_renew 15 = .ok (.iload_n 2, 1) := by decide +kernel
theorem dX5_renew_16 : decode cX5_renew 16 = .ok (.putfield 52, 3) := by decide +kernel
theorem dX5_renew_19 : decode cX5_renew 19 = .ok (.aload_n 0, 1) := by decide +kernel
theorem dX5_renew_20 : decode cX5_renew 20 = .ok (.iconst 0, 1) := by decide +kernel
theorem dX5_renew_21 : decode cX5_renew 21 = .ok (.putfield 55, 3) := by decide +kernel
theorem dX5_renew_24 : decode cX5_renew 24 = .ok (.aload_n 0, 1) := by decide +kernel
theorem dX5_renew_25 : decode cX5_renew 25 = .ok (.getfield 9, 3) := by decide +kernel
theorem dX5_renew_28 : decode cX5_renew 28 = .ok (.iconst 0, 1) := by decide +kernel
theorem dX5_renew_29 : decode cX5_renew 29 = .ok (.invokestatic 38, 3) := by decide +kernel
theorem dX5_renew_32 : decode cX5_renew 32 = .ok (.aload_n 0, 1) := by decide +kernel
theorem dX5_renew_33 : decode cX5_renew 33 = .ok (.getfield 15, 3) := by decide +kernel
theorem dX5_renew_36 : decode cX5_renew 36 = .ok (.bipush (-4), 2) := by decide +kernel
theorem dX5_renew_38 : decode cX5_renew 38 = .ok (.invokestatic 38, 3) := by decide +kernel
theorem dX5_renew_41 : decode cX5_renew 41 = .ok (.aload_n 0, 1) := by decide +kernel
theorem dX5_renew_42 : decode cX5_renew 42 = .ok (.getfield 21, 3) := by decide +kernel
theorem dX5_renew_45 : decode cX5_renew 45 = .ok (.iconst 0, 1) := by decide +kernel
theorem dX5_renew_46 : decode cX5_renew 46 = .ok (.putfield 58, 3) := by decide +kernel
theorem dX5_renew_49 : decode cX5_renew 49 = .ok (.aload_n 0, 1) := by decide +kernel
theorem dX5_renew_50 : decode cX5_renew 50 = .ok (.iconst 0, 1) := by decide +kernel
theorem dX5_renew_51 : decode cX5_renew 51 = .ok (.putfield 61, 3) := by decide +kernel
theorem dX5_renew_54 : decode cX5_renew 54 = .ok (.aload_n 0, 1) := by decide +kernel
theorem dX5_renew_55 : decode cX5_renew 55 = .ok (.iconst 0, 1) := by decide +kernel
theorem dX5_renew_56 : decode cX5_renew 56 = .ok (.putfield 65, 3) := by decide +kernel
theorem dX5_renew_59 : decode cX5_renew 59 = .ok (.aload_n 0, 1) := by decide +kernel
theorem dX5_renew_60 : decode cX5_renew 60 = .ok (.iconst 0, 1) := by decide +kernel
theorem dX5_renew_61 : decode cX5_renew 61 = .ok (.putfield 68, 3) := by decide +kernel
theorem dX5_renew_64 : decode cX5_renew 64 = .ok (.aload_n 0, 1) := by decide +kernel
theorem dX5_renew_65 : decode cX5_renew 65 = .ok (.iconst 0, 1) := by decide +kernel
theorem dX5_renew_66 : decode cX5_renew 66 = .ok (.putfield 71, 3) := by decide +kernel
theorem dX5_renew_69 : decode cX5_renew 69 = .ok (.aload_n 0, 1) := by decide +kernel
theorem dX5_renew_70 : decode cX5_renew 70 = .ok (.iconst 0, 1) := by decide +kernel
theorem dX5_renew_71 : decode cX5_renew 71 = .ok (.putfield 74, 3) := by decide +kernel
theorem dX5_renew_74 : decode cX5_renew 74 = .ok (.aload_n 0, 1) := by decide +kernel
theorem dX5_renew_75 : decode cX5_renew 75 = .ok (.iconst 0, 1) := by decide +kernel
theorem dX5_renew_76 : decode cX5_renew 76 = .ok (.putfield 77, 3) := by decide +kernel
theorem dX5_renew_79 : decode cX5_renew 79 = .ok (.aload_n 0, 1) := by decide +kernel
theorem dX5_renew_80 : decode cX5_renew 80 = .ok (.iconst 0, 1) := by decide +kernel
theorem dX5_renew_81 : decode cX5_renew 81 = .ok (.putfield 80, 3) := by decide +kernel
theorem dX5_renew_84 : decode cX5_renew 84 = .ok (.return_, 1) := by decide +kernel
theorem dX5_isUnderWay_0 : decode cX5_isUnderWay 0 = .ok (.aload_n 0, 1) := by decide +kernel
theorem dX5_isUnderWay_1 : decode cX5_isUnderWay 1 = .ok (.getfield 25, 3) := by decide +kernel
theorem dX5_isUnderWay_4 : decode cX5_isUnderWay 4 = .ok (.iconst 2, 1) := by decide +kernel
theorem dX5_isUnderWay_5 : decode cX5_isUnderWay 5 = .ok (.if_icmp .lt 16, 3) := by decide +kernel
theorem dX5_isUnderWay_8 : decode cX5_isUnderWay 8 = .ok (.aload_n 0, 1) := by decide +kernel
theorem dX5_isUnderWay_9 : decode cX5_isUnderWay 9 = .ok (.getfield 25, 3) := by decide +kernel
theorem dX5_isUnderWay_12 : decode cX5_isUnderWay 12 = .ok (.bipush 6, 2) := by decide +kernel
theorem dX5_isUnderWay_14 : decode cX5_isUnderWay 14 = .ok (.if_icmp .gt 7, 3) := by decide +kernel
theorem dX5_isUnderWay_17 : decode cX5_isUnderWay 17 = .ok (.iconst 1, 1) := by decide +kernel
theorem dX5_isUnderWay_18 : decode cX5_isUnderWay 18 = .ok (.goto 4, 3) := by decide +kernel
theorem dX5_isUnderWay_21 : decode cX5_isUnderWay 21 = .ok (.iconst 0, 1) := by decide +kernel
theorem dX5_isUnderWay_22 : decode cX5_isUnderWay 22 = .ok (.ireturn, 1) := by decide +kernel
theorem dX5_isAtEnd_0 : decode cX5_isAtEnd 0 = .ok (.aload_n 0, 1) := by decide +kernel
theorem dX5_isAtEnd_1 : decode cX5_isAtEnd 1 = .ok (.getfield 48, 3) := by decide +kernel
theorem dX5_isAtEnd_4 : decode cX5_isAtEnd 4 = .ok (.ifnull 17, 3) := by decide +kernel
theorem dX5_isAtEnd_7 : decode cX5_isAtEnd 7 = .ok (.aload_n 0, 1) := by decide +kernel
theorem dX5_isAtEnd_8 : decode cX5_isAtEnd 8 = .ok (.getfield 55, 3) := by decide +kernel
theorem dX5_isAtEnd_11 : decode cX5_isAtEnd 11 = .ok (.aload_n 0, 1) := by decide +kernel
theorem dX5_isAtEnd_12 : decode cX5_isAtEnd 12 = .ok (.getfield 48, 3) := by decide +kernel
theorem dX5_isAtEnd_15 : decode cX5_isAtEnd 15 = .ok (.getfield 83, 3) := by decide +kernel
theorem dX5_isAtEnd_18 : decode cX5_isAtEnd 18 = .ok (.if_icmp .lt 7, 3) := by decide +kernel
theorem dX5_isAtEnd_21 : decode cX5_isAtEnd 21 = .ok (.iconst 1, 1) := by decide +kernel
theorem dX5_isAtEnd_22 : decode cX5_isAtEnd 22 = .ok (.goto 4, 3) := by decide +kernel
theorem dX5_isAtEnd_25 : decode cX5_isAtEnd 25 = .ok (.iconst 0, 1) := by decide +kernel
theorem dX5_isAtEnd_26 : decode cX5_isAtEnd 26 = .ok (.ireturn, 1) := by decide +kernel
theorem dX5_jump_0 : decode cX5_jump 0 = .ok (.aload_n 0, 1) := by decide +kernel
theorem dX5_jump_1 : decode cX5_jump 1 = .ok (.aload_n 0, 1) := by decide +kernel
theorem dX5_jump_2 : decode cX5_jump 2 = .ok (.getfield 48, 3) := by decide +kernel
theorem dX5_jump_5 : decode cX5_jump 5 = .ok (.ifnonnull 7, 3) := by decide +kernel
theorem dX5_jump_8 : decode cX5_jump 8 = .ok (.iconst 0, 1) := by decide +kernel
theorem dX5_jump_9 : decode cX5_jump 9 = .ok (.goto 14, 3) := by decide +kernel
theorem dX5_jump_12 : decode cX5_jump 12 = .ok (.iload_n 1, 1) := by decide +kernel
theorem dX5_jump_13 : decode cX5_jump 13 = .ok (.aload_n 0, 1) := by decide +kernel
theorem dX5_jump_14 : decode cX5_jump 14 = .ok (.getfield 48, 3) := by decide +kernel
theorem dX5_jump_17 : decode cX5_jump 17 = .ok (.getfield 83, 3) := by decide +kernel
theorem dX5_jump_20 : decode cX5_jump 20 = .ok (.invokestatic 86, 3) := by decide +kernel
theorem dX5_jump_23 : decode cX5_jump 23 = .ok (.putfield 55, 3) := by decide +kernel
theorem dX5_jump_26 : decode cX5_jump 26 = .ok (.return_, 1) := by decide +kernel
theorem dX5_become_0 : decode cX5_become 0 = .ok (.aload_n 0, 1) := by decide +kernel
theorem dX5_become_1 : decode cX5_become 1 = .ok (.iload_n 1, 1) := by decide +kernel
theorem dX5_become_2 : decode cX5_become 2 = .ok (.putfield 25, 3) := by decide +kernel
theorem dX5_become_5 : decode cX5_become 5 = .ok (.aload_n 0, 1) := by decide +kernel
theorem dX5_become_6 : decode cX5_become 6 = .ok (.iload_n 2, 1) := by decide +kernel
theorem dX5_become_7 : decode cX5_become 7 = .ok (.putfield 29, 3) := by decide +kernel
theorem dX5_become_10 : decode cX5_become 10 = .ok (.aload_n 0, 1) := by decide +kernel
theorem dX5_become_11 : decode cX5_become 11 = .ok (.iload_n 3, 1) := by decide +kernel
theorem dX5_become_12 : decode cX5_become 12 = .ok (.putfield 32, 3) := by decide +kernel
theorem dX5_become_15 : decode cX5_become 15 = .ok (.return_, 1) := by decide +kernel
theorem dX5_takeFlag_0 : decode cX5_takeFlag 0 = .ok (.aload_n 0, 1) := by decide +kernel
theorem dX5_takeFlag_1 : decode cX5_takeFlag 1 = .ok (.getfield 61, 3) := by decide +kernel
theorem dX5_takeFlag_4 : decode cX5_takeFlag 4 = .ok (.istore_n 1, 1) := by decide +kernel
theorem dX5_takeFlag_5 : decode cX5_takeFlag 5 = .ok (.aload_n 0, 1) := by decide +kernel
theorem dX5_takeFlag_6 : decode cX5_takeFlag 6 = .ok (.iconst 0, 1) := by decide +kernel
theorem dX5_takeFlag_7 : decode cX5_takeFlag 7 = .ok (.putfield 61, 3) := by decide +kernel
theorem dX5_takeFlag_10 : decode cX5_takeFlag 10 = .ok (.iload_n 1, 1) := by decide +kernel
theorem dX5_takeFlag_11 : decode cX5_takeFlag 11 = .ok (.ireturn, 1) := by decide +kernel
theorem dX5_kept_0 : decode cX5_kept 0 = .ok (.iload_n 1, 1) := by decide +kernel
theorem dX5_kept_1 : decode cX5_kept 1 = .ok (.invokestatic 92, 3) := by decide +kernel
theorem dX5_kept_4 : decode cX5_kept 4 = .ok (.ifCond .eq 12, 3) := by decide +kernel
theorem dX5_kept_7 : decode cX5_kept 7 = .ok (.aload_n 0, 1) := by decide +kernel
theorem dX5_kept_8 : decode cX5_kept 8 = .ok (.getfield 9, 3) := by decide +kernel
theorem dX5_kept_11 : decode cX5_kept 11 = .ok (.iload_n 1, 1) := by decide +kernel
theorem dX5_kept_12 : decode cX5_kept 12 = .ok (.iaload, 1) := by decide +kernel
theorem dX5_kept_13 : decode cX5_kept 13 = .ok (.goto 4, 3) := by decide +kernel
theorem dX5_kept_16 : decode cX5_kept 16 = .ok (.iconst 0, 1) := by decide +kernel
theorem dX5_kept_17 : decode cX5_kept 17 = .ok (.ireturn, 1) := by decide +kernel
theorem dX5_keep_0 : decode cX5_keep 0 = .ok (.iload_n 1, 1) := by decide +kernel
theorem dX5_keep_1 : decode cX5_keep 1 = .ok (.invokestatic 92, 3) := by decide +kernel
theorem dX5_keep_4 : decode cX5_keep 4 = .ok (.ifCond .eq 10, 3) := by decide +kernel
theorem dX5_keep_7 : decode cX5_keep 7 = .ok (.aload_n 0, 1) := by decide +kernel
theorem dX5_keep_8 : decode cX5_keep 8 = .ok (.getfield 9, 3) := by decide +kernel
theorem dX5_keep_11 : decode cX5_keep 11 = .ok (.iload_n 1, 1) := by decide +kernel
theorem dX5_keep_12 : decode cX5_keep 12 = .ok (.iload_n 2, 1) := by decide +kernel
theorem dX5_keep_13 : decode cX5_keep 13 = .ok (.iastore, 1) := by decide +kernel
theorem dX5_keep_14 : decode cX5_keep 14 = .ok (.return_, 1) := by decide +kernel
theorem dX5_held_0 : decode cX5_held 0 = .ok (.iload_n 1, 1) := by decide +kernel
theorem dX5_held_1 : decode cX5_held 1 = .ok (.invokestatic 92, 3) := by decide +kernel
theorem dX5_held_4 : decode cX5_held 4 = .ok (.ifCond .eq 12, 3) := by decide +kernel
theorem dX5_held_7 : decode cX5_held 7 = .ok (.aload_n 0, 1) := by decide +kernel
theorem dX5_held_8 : decode cX5_held 8 = .ok (.getfield 15, 3) := by decide +kernel
theorem dX5_held_11 : decode cX5_held 11 = .ok (.iload_n 1, 1) := by decide +kernel
theorem dX5_held_12 : decode cX5_held 12 = .ok (.iaload, 1) := by decide +kernel
theorem dX5_held_13 : decode cX5_held 13 = .ok (.goto 5, 3) := by decide +kernel
theorem dX5_held_16 : decode cX5_held 16 = .ok (.bipush (-4), 2) := by decide +kernel
theorem dX5_held_18 : decode cX5_held 18 = .ok (.ireturn, 1) := by decide +kernel
theorem dX5_grasp_0 : decode cX5_grasp 0 = .ok (.iload_n 1, 1) := by decide +kernel
theorem dX5_grasp_1 : decode cX5_grasp 1 = .ok (.invokestatic 92, 3) := by decide +kernel
theorem dX5_grasp_4 : decode cX5_grasp 4 = .ok (.ifCond .eq 10, 3) := by decide +kernel
theorem dX5_grasp_7 : decode cX5_grasp 7 = .ok (.aload_n 0, 1) := by decide +kernel
theorem dX5_grasp_8 : decode cX5_grasp 8 = .ok (.getfield 15, 3) := by decide +kernel
theorem dX5_grasp_11 : decode cX5_grasp 11 = .ok (.iload_n 1, 1) := by decide +kernel
theorem dX5_grasp_12 : decode cX5_grasp 12 = .ok (.iload_n 2, 1) := by decide +kernel
theorem dX5_grasp_13 : decode cX5_grasp 13 = .ok (.iastore, 1) := by decide +kernel
theorem dX5_grasp_14 : decode cX5_grasp 14 = .ok (.return_, 1) := by decide +kernel
theorem dX6_init_0 : decode cX6_init 0 = .ok (.aload_n 0, 1) := by decide +kernel
theorem dX6_init_1 : decode cX6_init 1 = .ok (.invokespecial 3, 3) := by decide +kernel
theorem dX6_init_4 : decode cX6_init 4 = .ok (.aload_n 0, 1) := by decide +kernel
theorem dX6_init_5 : decode cX6_init 5 = .ok (.bipush 12, 2) := by decide +kernel
theorem dX6_init_7 : decode cX6_init 7 = .ok (.newarray .int, 2) := by decide +kernel
theorem dX6_init_9 : decode cX6_init 9 = .ok (.putfield 9, 3) := by decide +kernel
theorem dX6_init_12 : decode cX6_init 12 = .ok (.aload_n 0, 1) := by decide +kernel
theorem dX6_init_13 : decode cX6_init 13 = .ok (.sipush 180, 3) := by decide +kernel
theorem dX6_init_16 : decode cX6_init 16 = .ok (.newarray .int, 2) := by decide +kernel
theorem dX6_init_18 : decode cX6_init 18 = .ok (.putfield 15, 3) := by decide +kernel
theorem dX6_init_21 : decode cX6_init 21 = .ok (.return_, 1) := by decide +kernel
theorem dX6_countFailure_0 : decode cX6_countFailure 0 = .ok (.iload_n 1, 1) := by decide +kernel
theorem dX6_countFailure_1 : decode cX6_countFailure 1 = .ok (.ifCond .lt 22, 3) := by decide +kernel
theorem dX6_countFailure_4 : decode cX6_countFailure 4 = .ok (.iload_n 1, 1) := by decide +kernel
theorem dX6_countFailure_5 : decode cX6_countFailure 5 = .ok (.aload_n 0, 1) := by decide +kernel
theorem dX6_countFailure_6 : decode cX6_countFailure 6 = .ok (.getfield 9, 3) := by decide +kernel
theorem dX6_countFailure_9 : decode cX6_countFailure 9 = .ok (.arraylength, 1) := by decide +kernel
theorem dX6_countFailure_10 : decode cX6_countFailure 10 = .ok (.if_icmp .ge 13, 3) := by decide +kernel
theorem dX6_countFailure_13 : decode cX6_countFailure 13 = .ok (.aload_n 0, 1) := by decide +kernel
theorem dX6_countFailure_14 : decode cX6_countFailure 14 = .ok (.getfield 9, 3) := by decide +kernel
theorem dX6_countFailure_17 : decode cX6_countFailure 17 = .ok (.iload_n 1, 1) := by decide +kernel
theorem dX6_countFailure_18 : decode cX6_countFailure 18 = .ok (.dup2, 1) := by decide +kernel
theorem dX6_countFailure_19 : decode cX6_countFailure 19 = .ok (.iaload, 1) := by decide +kernel
theorem dX6_countFailure_20 : decode cX6_countFailure 20 = .ok (.iconst 1, 1) := by decide +kernel
theorem dX6_countFailure_21 : decode cX6_countFailure 21 = .ok (.iadd, 1) := by decide +kernel
theorem dX6_countFailure_22 : decode cX6_countFailure 22 = .ok (.iastore, 1) := by decide +kernel
theorem dX6_countFailure_23 : decode cX6_countFailure 23 = .ok (.aload_n 0, 1) := by decide +kernel
theorem dX6_countFailure_24 : decode cX6_countFailure 24 = .ok (.dup, 1) := by decide +kernel
theorem dX6_countFailure_25 : decode cX6_countFailure 25 = .ok (.getfield 18, 3) := by decide +kernel
theorem dX6_countFailure_28 : decode cX6_countFailure 28 = .ok (.iconst 1, 1) := by decide +kernel
theorem dX6_countFailure_29 : decode cX6_countFailure 29 = .ok (.iadd, 1) := by decide +kernel
theorem dX6_countFailure_30 : decode cX6_countFailure 30 = .ok (.putfield 18, 3) := by decide +kernel
theorem dX6_countFailure_33 : decode cX6_countFailure 33 = .ok (.iload_n 2, 1) := by decide +kernel
theorem dX6_countFailure_34 : decode cX6_countFailure 34 = .ok (.ifCond .eq 13, 3) := by decide +kernel
theorem dX6_countFailure_37 : decode cX6_countFailure 37 = .ok (.aload_n 0, 1) := by decide +kernel
theorem dX6_countFailure_38 : decode cX6_countFailure 38 = .ok (.dup, 1) := by decide +kernel
theorem dX6_countFailure_39 : decode cX6_countFailure 39 = .ok (.getfield 22, 3) := by decide +kernel
theorem dX6_countFailure_42 : decode cX6_countFailure 42 = .ok (.iconst 1, 1) := by decide +kernel
theorem dX6_countFailure_43 : decode cX6_countFailure 43 = .ok (.iadd, 1) := by decide +kernel
theorem dX6_countFailure_44 : decode cX6_countFailure 44 = .ok (.putfield 22, 3) := by decide +kernel
theorem dX6_countFailure_47 : decode cX6_countFailure 47 = .ok (.return_, 1) := by decide +kernel
theorem dX6_note_0 : decode cX6_note 0 = .ok (.aload_n 0, 1) := by decide +kernel
theorem dX6_note_1 : decode cX6_note 1 = .ok (.getfield 25, 3) := by decide +kernel
theorem dX6_note_4 : decode cX6_note 4 = .ok (.bipush 60, 2) := by decide +kernel
theorem dX6_note_6 : decode cX6_note 6 = .ok (.invokestatic 28, 3) := by decide +kernel
theorem dX6_note_9 : decode cX6_note 9 = .ok (.iconst 3, 1) := by decide +kernel
theorem dX6_note_10 : decode cX6_note 10 = .ok (.imul, 1) := by decide +kernel
theorem dX6_note_11 : decode cX6_note 11 = .ok (.istore 4, 2) := by decide +kernel
theorem dX6_note_13 : decode cX6_note 13 = .ok (.aload_n 0, 1) := by decide +kernel
theorem dX6_note_14 : decode cX6_note 14 = .ok (.getfield 15, 3) := by decide +kernel
theorem dX6_note_17 : decode cX6_note 17 = .ok (.iload 4, 2) := by decide +kernel
theorem dX6_note_19 : decode cX6_note 19 = .ok (.iload_n 1, 1) := by decide +kernel
theorem dX6_note_20 : decode cX6_note 20 = .ok (.iastore, 1) := by decide +kernel
theorem dX6_note_21 : decode cX6_note 21 = .ok (.aload_n 0, 1) := by decide +kernel
theorem dX6_note_22 : decode cX6_note 22 = .ok (.getfield 15, 3) := by decide +kernel
theorem dX6_note_25 : decode cX6_note 25 = .ok (.iload 4, 2) := by decide +kernel
theorem dX6_note_27 : decode cX6_note 27 = .ok (.iconst 1, 1) := by decide +kernel
theorem dX6_note_28 : decode cX6_note 28 = .ok (.iadd, 1) := by decide +kernel
theorem dX6_note_29 : decode cX6_note 29 = .ok (.iload_n 2, 1) := by decide +kernel
theorem dX6_note_30 : decode cX6_note 30 = .ok (.iastore, 1) := by decide +kernel
theorem dX6_note_31 : decode cX6_note 31 = .ok (.aload_n 0, 1) := by decide +kernel
theorem dX6_note_32 : decode cX6_note 32 = .ok (.getfield 15, 3) := by decide +kernel
theorem dX6_note_35 : decode cX6_note 35 = .ok (.iload 4, 2) := by decide +kernel
theorem dX6_note_37 : decode cX6_note 37 = .ok (.iconst 2, 1) := by decide +kernel
theorem dX6_note_38 : decode cX6_note 38 = .ok (.iadd, 1) := by decide +kernel
theorem dX6_note_39 : decode cX6_note 39 = .ok (.iload_n 3, 1) := by decide +kernel
theorem dX6_note_40 : decode cX6_note 40 = .ok (.iastore, 1) := by decide +kernel
theorem dX6_note_41 : decode cX6_note 41 = .ok (.aload_n 0, 1) := by decide +kernel
theorem dX6_note_42 : decode cX6_note 42 = .ok (.dup, 1) := by decide +kernel
theorem dX6_note_43 : decode cX6_note 43 = .ok (.getfield 25, 3) := by decide +kernel
theorem dX6_note_46 : decode cX6_note 46 = .ok (.iconst 1, 1) := by decide +kernel
theorem dX6_note_47 : decode cX6_note 47 = .ok (.iadd, 1) := by decide +kernel
theorem dX6_note_48 : decode cX6_note 48 = .ok (.putfield 25, 3) := by decide +kernel
theorem dX6_note_51 : decode cX6_note 51 = .ok (.return_, 1) := by decide +kernel
theorem dX6_logged_0 : decode cX6_logged 0 = .ok (.iload_n 1, 1) := by decide +kernel
theorem dX6_logged_1 : decode cX6_logged 1 = .ok (.ifCond .lt 26, 3) := by decide +kernel
theorem dX6_logged_4 : decode cX6_logged 4 = .ok (.iload_n 1, 1) := by decide +kernel
theorem dX6_logged_5 : decode cX6_logged 5 = .ok (.bipush 60, 2) := by decide +kernel
theorem dX6_logged_7 : decode cX6_logged 7 = .ok (.if_icmp .ge 20, 3) := by decide +kernel
theorem dX6_logged_10 : decode cX6_logged 10 = .ok (.iload_n 1, 1) := by decide +kernel
theorem dX6_logged_11 : decode cX6_logged 11 = .ok (.aload_n 0, 1) := by decide +kernel
theorem dX6_logged_12 : decode cX6_logged 12 = .ok (.getfield 25, 3) := by decide +kernel
theorem dX6_logged_15 : decode cX6_logged 15 = .ok (.if_icmp .ge 12, 3) := by decide +kernel
theorem dX6_logged_18 : decode cX6_logged 18 = .ok (.iload_n 2, 1) := by decide +kernel
theorem dX6_logged_19 : decode cX6_logged 19 = .ok (.ifCond .lt 8, 3) := by decide +kernel
theorem dX6_logged_22 : decode cX6_logged 22 = .ok (.iload_n 2, 1) := by decide +kernel
theorem dX6_logged_23 : decode cX6_logged 23 = .ok (.iconst 3, 1) := by decide +kernel
theorem dX6_logged_24 : decode cX6_logged 24 = .ok (.if_icmp .lt 6, 3) := by decide +kernel
theorem dX6_logged_27 : decode cX6_logged 27 = .ok (.bipush (-4), 2) := by decide +kernel
theorem dX6_logged_29 : decode cX6_logged 29 = .ok (.ireturn, 1) := by decide +kernel
theorem dX6_logged_30 : decode cX6_logged 30 = .ok (.aload_n 0, 1) := by decide +kernel
theorem dX6_logged_31 : decode cX6_logged 31 = .ok (.getfield 15, 3) := by decide +kernel
theorem dX6_logged_34 : decode cX6_logged 34 = .ok (.aload_n 0, 1) := by decide +kernel
theorem dX6_logged_35 : decode cX6_logged 35 = .ok (.getfield 25, 3) := by decide +kernel
theorem dX6_logged_38 : decode cX6_logged 38 = .ok (.iconst 1, 1) := by decide +kernel
theorem dX6_logged_39 : decode cX6_logged 39 = .ok (.isub, 1) := by decide +kernel
theorem dX6_logged_40 : decode cX6_logged 40 = .ok (.iload_n 1, 1) := by decide +kernel
theorem dX6_logged_41 : decode cX6_logged 41 = .ok (.isub, 1) := by decide +kernel
theorem dX6_logged_42 : decode cX6_logged 42 = .ok (.bipush 60, 2) := by decide +kernel
theorem dX6_logged_44 : decode cX6_logged 44 = .ok (.invokestatic 28, 3) := by decide +kernel
theorem dX6_logged_47 : decode cX6_logged 47 = .ok (.iconst 3, 1) := by decide +kernel
theorem dX6_logged_48 : decode cX6_logged 48 = .ok (.imul, 1) := by decide +kernel
theorem dX6_logged_49 : decode cX6_logged 49 = .ok (.iload_n 2, 1) := by decide +kernel
theorem dX6_logged_50 : decode cX6_logged 50 = .ok (.iadd, 1) := by decide +kernel
theorem dX6_logged_51 : decode cX6_logged 51 = .ok (.iaload, 1) := by decide +kernel
theorem dX6_logged_52 : decode cX6_logged 52 = .ok (.ireturn, 1) := by decide +kernel
theorem dX7_init_0 : decode cX7_init 0 = .ok (.aload_n 0, 1) := by decide +kernel
theorem dX7_init_1 : decode cX7_init 1 = .ok (.invokespecial 3, 3) := by decide +kernel
theorem dX7_init_4 : decode cX7_init 4 = .ok (.aload_n 0, 1) := by decide +kernel
theorem dX7_init_5 : decode cX7_init 5 = .ok (.bipush (-4), 2) := by decide +kernel
theorem dX7_init_7 : decode cX7_init 7 = .ok (.putfield 9, 3) := by decide +kernel
theorem dX7_init_10 : decode cX7_init 10 = .ok (.aload_n 0, 1) := by decide +kernel
theorem dX7_init_11 : decode cX7_init 11 = .ok (.iload_n 1, 1) := by decide +kernel
theorem dX7_init_12 : decode cX7_init 12 = .ok (.putfield 15, 3) := by decide +kernel
theorem dX7_init_15 : decode cX7_init 15 = .ok (.aload_n 0, 1) := by decide +kernel
theorem dX7_init_16 : decode cX7_init 16 = .ok (.iload_n 2, 1) := by decide +kernel
theorem dX7_init_17 : decode cX7_init 17 = .ok (.putfield 18, 3) := by decide +kernel
theorem dX7_init_20 : decode cX7_init 20 = .ok (.aload_n 0, 1) := by decide +kernel
theorem dX7_init_21 : decode cX7_init 21 = .ok (.aload_n 3, 1) := by decide +kernel
theorem dX7_init_22 : decode cX7_init 22 = .ok (.putfield 21, 3) := by decide +kernel
theorem dX7_init_25 : decode cX7_init 25 = .ok (.return_, 1) := by decide +kernel
theorem dX7_letIn_0 : decode cX7_letIn 0 = .ok (.aload_n 0, 1) := by decide +kernel
theorem dX7_letIn_1 : decode cX7_letIn 1 = .ok (.iload_n 1, 1) := by decide +kernel
theorem dX7_letIn_2 : decode cX7_letIn 2 = .ok (.putfield 9, 3) := by decide +kernel
theorem dX7_letIn_5 : decode cX7_letIn 5 = .ok (.aload_n 0, 1) := by decide +kernel
theorem dX7_letIn_6 : decode cX7_letIn 6 = .ok (.iload_n 2, 1) := by decide +kernel
theorem dX7_letIn_7 : decode cX7_letIn 7 = .ok (.putfield 25, 3) := by decide +kernel
theorem dX7_letIn_10 : decode cX7_letIn 10 = .ok (.return_, 1) := by decide +kernel
theorem dX7_isBox_0 : decode cX7_isBox 0 = .ok (.aload_n 0, 1) := by decide +kernel
theorem dX7_isBox_1 : decode cX7_isBox 1 = .ok (.getfield 18, 3) := by decide +kernel
theorem dX7_isBox_4 : decode cX7_isBox 4 = .ok (.iconst 1, 1) := by decide +kernel
theorem dX7_isBox_5 : decode cX7_isBox 5 = .ok (.if_icmp .lt 15, 3) := by decide +kernel
theorem dX7_isBox_8 : decode cX7_isBox 8 = .ok (.aload_n 0, 1) := by decide +kernel
theorem dX7_isBox_9 : decode cX7_isBox 9 = .ok (.getfield 18, 3) := by decide +kernel
theorem dX7_isBox_12 : decode cX7_isBox 12 = .ok (.iconst 3, 1) := by decide +kernel
theorem dX7_isBox_13 : decode cX7_isBox 13 = .ok (.if_icmp .gt 7, 3) := by decide +kernel
theorem dX7_isBox_16 : decode cX7_isBox 16 = .ok (.iconst 1, 1) := by decide +kernel
theorem dX7_isBox_17 : decode cX7_isBox 17 = .ok (.goto 4, 3) := by decide +kernel
theorem dX7_isBox_20 : decode cX7_isBox 20 = .ok (.iconst 0, 1) := by decide +kernel
theorem dX7_isBox_21 : decode cX7_isBox 21 = .ok (.ireturn, 1) := by decide +kernel
theorem dX7_isCrate_0 : decode cX7_isCrate 0 = .ok (.aload_n 0, 1) := by decide +kernel
theorem dX7_isCrate_1 : decode cX7_isCrate 1 = .ok (.getfield 18, 3) := by decide +kernel
theorem dX7_isCrate_4 : decode cX7_isCrate 4 = .ok (.iconst 2, 1) := by decide +kernel
theorem dX7_isCrate_5 : decode cX7_isCrate 5 = .ok (.if_icmp .eq 11, 3) := by decide +kernel
theorem dX7_isCrate_8 : decode cX7_isCrate 8 = .ok (.aload_n 0, 1) := by decide +kernel
theorem dX7_isCrate_9 : decode cX7_isCrate 9 = .ok (.getfield 18, 3) := by decide +kernel
theorem dX7_isCrate_12 : decode cX7_isCrate 12 = .ok (.iconst 3, 1) := by decide +kernel
theorem dX7_isCrate_13 : decode cX7_isCrate 13 = .ok (.if_icmp .ne 7, 3) := by decide +kernel
theorem dX7_isCrate_16 : decode cX7_isCrate 16 = .ok (.iconst 1, 1) := by decide +kernel
theorem dX7_isCrate_17 : decode cX7_isCrate 17 = .ok (.goto 4, 3) := by decide +kernel
theorem dX7_isCrate_20 : decode cX7_isCrate 20 = .ok (.iconst 0, 1) := by decide +kernel
theorem dX7_isCrate_21 : decode cX7_isCrate 21 = .ok (.ireturn, 1) := by decide +kernel
theorem dX7_isRow_0 : decode cX7_isRow 0 = .ok (.aload_n 0, 1) := by decide +kernel
theorem dX7_isRow_1 : decode cX7_isRow 1 = .ok (.getfield 18, 3) := by decide +kernel
theorem dX7_isRow_4 : decode cX7_isRow 4 = .ok (.iconst 4, 1) := by decide +kernel
theorem dX7_isRow_5 : decode cX7_isRow 5 = .ok (.if_icmp .lt 7, 3) := by decide +kernel
theorem dX7_isRow_8 : decode cX7_isRow 8 = .ok (.iconst 1, 1) := by decide +kernel
theorem dX7_isRow_9 : decode cX7_isRow 9 = .ok (.goto 4, 3) := by decide +kernel
theorem dX7_isRow_12 : decode cX7_isRow 12 = .ok (.iconst 0, 1) := by decide +kernel
theorem dX7_isRow_13 : decode cX7_isRow 13 = .ok (.ireturn, 1) := by decide +kernel
theorem dX7_isRowOfNumbers_0 : decode cX7_isRowOfNumbers 0 = .ok (.aload_n 0, 1) := by decide +kernel
theorem dX7_isRowOfNumbers_1 : decode cX7_isRowOfNumbers 1 = .ok (.getfield 18, 3) := by decide +kernel
theorem dX7_isRowOfNumbers_4 : decode cX7_isRowOfNumbers 4 = .ok (.iconst 4, 1) := by decide +kernel
theorem dX7_isRowOfNumbers_5 : decode cX7_isRowOfNumbers 5 = .ok (.if_icmp .eq 11, 3) := by decide +kernel
theorem dX7_isRowOfNumbers_8 : decode cX7_isRowOfNumbers 8 = .ok (.aload_n 0, 1) := by decide +kernel
theorem dX7_isRowOfNumbers_9 : decode cX7_isRowOfNumbers 9 = .ok (.getfield 18, 3) := by decide +kernel
theorem dX7_isRowOfNumbers_12 : decode cX7_isRowOfNumbers 12 = .ok (.iconst 5, 1) := by decide +kernel
theorem dX7_isRowOfNumbers_13 : decode cX7_isRowOfNumbers 13 = .ok (.if_icmp .ne 7, 3) := by decide +kernel
theorem dX7_isRowOfNumbers_16 : decode cX7_isRowOfNumbers 16 = .ok (.iconst 1, 1) := by decide +kernel
theorem dX7_isRowOfNumbers_17 : decode cX7_isRowOfNumbers 17 = .ok (.goto 4, 3) := by decide +kernel
theorem dX7_isRowOfNumbers_20 : decode cX7_isRowOfNumbers 20 = .ok (.iconst 0, 1) := by decide +kernel
theorem dX7_isRowOfNumbers_21 : decode cX7_isRowOfNumbers 21 = .ok (.ireturn, 1) := by decide +kernel
theorem dX7_isRowOfThings_0 : decode cX7_isRowOfThings 0 = .ok (.aload_n 0, 1) := by decide +kernel
theorem dX7_isRowOfThings_1 : decode cX7_isRowOfThings 1 = .ok (.getfield 18, 3) := by decide +kernel
theorem dX7_isRowOfThings_4 : decode cX7_isRowOfThings 4 = .ok (.bipush 6, 2) := by decide +kernel
theorem dX7_isRowOfThings_6 : decode cX7_isRowOfThings 6 = .ok (.if_icmp .eq 12, 3) := by decide +kernel
theorem dX7_isRowOfThings_9 : decode cX7_isRowOfThings 9 = .ok (.aload_n 0, 1) := by decide +kernel
theorem dX7_isRowOfThings_10 : decode cX7_isRowOfThings 10 = .ok (.getfield 18, 3) := by decide +kernel
theorem dX7_isRowOfThings_13 : decode cX7_isRowOfThings 13 = .ok (.bipush 7, 2) := by decide +kernel
theorem dX7_isRowOfThings_15 : decode cX7_isRowOfThings 15 = .ok (.if_icmp .ne 7, 3) := by decide +kernel
theorem dX7_isRowOfThings_18 : decode cX7_isRowOfThings 18 = .ok (.iconst 1, 1) := by decide +kernel
theorem dX7_isRowOfThings_19 : decode cX7_isRowOfThings 19 = .ok (.goto 4, 3) := by decide +kernel
theorem dX7_isRowOfThings_22 : decode cX7_isRowOfThings 22 = .ok (.iconst 0, 1) := by decide +kernel
theorem dX7_isRowOfThings_23 : decode cX7_isRowOfThings 23 = .ok (.ireturn, 1) := by decide +kernel
theorem dX7_takesFrom_0 : decode cX7_takesFrom 0 = .ok (.aload_n 0, 1) := by decide +kernel
theorem dX7_takesFrom_1 : decode cX7_takesFrom 1 = .ok (.getfield 18, 3) := by decide +kernel
theorem dX7_takesFrom_4 : decode cX7_takesFrom 4 = .ok (.iconst 4, 1) := by decide +kernel
theorem dX7_takesFrom_5 : decode cX7_takesFrom 5 = .ok (.if_icmp .ne 25, 3) := by decide +kernel
theorem dX7_takesFrom_8 : decode cX7_takesFrom 8 = .ok (.aload_n 1, 1) := by decide +kernel
theorem dX7_takesFrom_9 : decode cX7_takesFrom 9 = .ok (.getfield 18, 3) := by decide +kernel
theorem dX7_takesFrom_12 : decode cX7_takesFrom 12 = .ok (.iconst 4, 1) := by decide +kernel
theorem dX7_takesFrom_13 : decode cX7_takesFrom 13 = .ok (.if_icmp .eq 11, 3) := by decide +kernel
theorem dX7_takesFrom_16 : decode cX7_takesFrom 16 = .ok (.aload_n 1, 1) := by decide +kernel
theorem dX7_takesFrom_17 : decode cX7_takesFrom 17 = .ok (.getfield 18, 3) := by decide +kernel
theorem dX7_takesFrom_20 : decode cX7_takesFrom 20 = .ok (.iconst 5, 1) := by decide +kernel
theorem dX7_takesFrom_21 : decode cX7_takesFrom 21 = .ok (.if_icmp .ne 7, 3) := by decide +kernel
theorem dX7_takesFrom_24 : decode cX7_takesFrom 24 = .ok (.iconst 1, 1) := by decide +kernel
theorem dX7_takesFrom_25 : decode cX7_takesFrom 25 = .ok (.goto 4, 3) := by decide +kernel
theorem dX7_takesFrom_28 : decode cX7_takesFrom 28 = .ok (.iconst 0, 1) := by decide +kernel
theorem dX7_takesFrom_29 : decode cX7_takesFrom 29 = .ok (.ireturn, 1) := by decide +kernel
theorem dX7_takesFrom_30 : decode cX7_takesFrom 30 = .ok (.aload_n 0, 1) := by decide +kernel
theorem dX7_takesFrom_31 : decode cX7_takesFrom 31 = .ok (.getfield 18, 3) := by decide +kernel
theorem dX7_takesFrom_34 : decode cX7_takesFrom 34 = .ok (.iconst 5, 1) := by decide +kernel
theorem dX7_takesFrom_35 : decode cX7_takesFrom 35 = .ok (.if_icmp .ne 19, 3) := by decide +kernel
theorem dX7_takesFrom_38 : decode cX7_takesFrom 38 = .ok (.aload_n 1, 1) := by decide +kernel
theorem dX7_takesFrom_39 : decode cX7_takesFrom 39 = .ok (.getfield 18, 3) := by decide +kernel
theorem dX7_takesFrom_42 : decode cX7_takesFrom 42 = .ok (.iconst 5, 1) := by decide +kernel
theorem dX7_takesFrom_43 : decode cX7_takesFrom 43 = .ok (.if_icmp .ne 7, 3) := by decide +kernel
theorem dX7_takesFrom_46 : decode cX7_takesFrom 46 = .ok (.iconst 1, 1) := by decide +kernel
theorem dX7_takesFrom_47 : decode cX7_takesFrom 47 = .ok (.goto 21, 3) := by decide +kernel
theorem dX7_takesFrom_50 : decode cX7_takesFrom 50 = .ok (.iconst 0, 1) := by decide +kernel
theorem dX7_takesFrom_51 : decode cX7_takesFrom 51 = .ok (.goto 17, 3) := by decide +kernel
theorem dX7_takesFrom_54 : decode cX7_takesFrom 54 = .ok (.aload_n 1, 1) := by decide +kernel
theorem dX7_takesFrom_55 : decode cX7_takesFrom 55 = .ok (.getfield 18, 3) := by decide +kernel
theorem dX7_takesFrom_58 : decode cX7_takesFrom 58 = .ok (.bipush 6, 2) := by decide +kernel
theorem dX7_takesFrom_60 : decode cX7_takesFrom 60 = .ok (.if_icmp .lt 7, 3) := by decide +kernel
theorem dX7_takesFrom_63 : decode cX7_takesFrom 63 = .ok (.iconst 1, 1) := by decide +kernel
theorem dX7_takesFrom_64 : decode cX7_takesFrom 64 = .ok (.goto 4, 3) := by decide +kernel
theorem dX7_takesFrom_67 : decode cX7_takesFrom 67 = .ok (.iconst 0, 1) := by decide +kernel
theorem dX7_takesFrom_68 : decode cX7_takesFrom 68 = .ok (.ireturn, 1) := by decide +kernel
theorem dX7_hasPlace_0 : decode cX7_hasPlace 0 = .ok (.iload_n 1, 1) := by decide +kernel
theorem dX7_hasPlace_1 : decode cX7_hasPlace 1 = .ok (.ifCond .lt 16, 3) := by decide +kernel
theorem dX7_hasPlace_4 : decode cX7_hasPlace 4 = .ok (.iload_n 1, 1) := by decide +kernel
theorem dX7_hasPlace_5 : decode cX7_hasPlace 5 = .ok (.aload_n 0, 1) := by decide +kernel
theorem dX7_hasPlace_6 : decode cX7_hasPlace 6 = .ok (.getfield 21, 3) := by decide +kernel
theorem dX7_hasPlace_9 : decode cX7_hasPlace 9 = .ok (.arraylength, 1) := by decide +kernel
theorem dX7_hasPlace_10 : decode cX7_hasPlace 10 = .ok (.if_icmp .ge 7, 3) := by decide +kernel
theorem dX7_hasPlace_13 : decode cX7_hasPlace 13 = .ok (.iconst 1, 1) := by decide +kernel
theorem dX7_hasPlace_14 : decode cX7_hasPlace 14 = .ok (.goto 4, 3) := by decide +kernel
theorem dX7_hasPlace_17 : decode cX7_hasPlace 17 = .ok (.iconst 0, 1) := by decide +kernel
theorem dX7_hasPlace_18 : decode cX7_hasPlace 18 = .ok (.ireturn, 1) := by decide +kernel
theorem dX8_init_0 : decode cX8_init 0 = .ok (.aload_n 0, 1) := by decide +kernel
theorem dX8_init_1 : decode cX8_init 1 = .ok (.invokespecial 1, 3) := by decide +kernel
theorem dX8_init_4 : decode cX8_init 4 = .ok (.aload_n 0, 1) := by decide +kernel
theorem dX8_init_5 : decode cX8_init 5 = .ok (.new 7, 3) := by decide +kernel
theorem dX8_init_8 : decode cX8_init 8 = .ok (.dup, 1) := by decide +kernel
theorem dX8_init_9 : decode cX8_init 9 = .ok (.invokespecial 9, 3) := by decide +kernel
theorem dX8_init_12 : decode cX8_init 12 = .ok (.putfield 10, 3) := by decide +kernel
theorem dX8_init_15 : decode cX8_init 15 = .ok (.aload_n 0, 1) := by decide +kernel
theorem dX8_init_16 : decode cX8_init 16 = .ok (.new 16, 3) := by decide +kernel
theorem dX8_init_19 : decode cX8_init 19 = .ok (.dup, 1) := by decide +kernel
theorem dX8_init_20 : decode cX8_init 20 = .ok (.aload_n 0, 1) := by decide +kernel
theorem dX8_init_21 : decode cX8_init 21 = .ok (.getfield 10, 3) := by decide +kernel
theorem dX8_init_24 : decode cX8_init 24 = .ok (.invokespecial 18, 3) := by decide +kernel
theorem dX8_init_27 : decode cX8_init 27 = .ok (.putfield 21, 3) := by decide +kernel
theorem dX8_init_30 : decode cX8_init 30 = .ok (.aload_n 0, 1) := by decide +kernel
theorem dX8_init_31 : decode cX8_init 31 = .ok (.new 25, 3) := by decide +kernel
theorem dX8_init_34 : decode cX8_init 34 = .ok (.dup, 1) := by decide +kernel
theorem dX8_init_35 : decode cX8_init 35 = .ok (.aload_n 0, 1) := by decide +kernel
theorem dX8_init_36 : decode cX8_init 36 = .ok (.getfield 10, 3) := by decide +kernel
theorem dX8_init_39 : decode cX8_init 39 = .ok (.aload_n 0, 1) := by decide +kernel
theorem dX8_init_40 : decode cX8_init 40 = .ok (.getfield 21, 3) := by decide +kernel
theorem dX8_init_43 : decode cX8_init 43 = .ok (.invokespecial 27, 3) := by decide +kernel
theorem dX8_init_46 : decode cX8_init 46 = .ok (.putfield 30, 3) := by decide +kernel
theorem dX8_init_49 : decode cX8_init 49 = .ok (.aload_n 0, 1) := by decide +kernel
theorem dX8_init_50 : decode cX8_init 50 = .ok (.new 34, 3) := by decide +kernel
theorem dX8_init_53 : decode cX8_init 53 = .ok (.dup, 1) := by decide +kernel
theorem dX8_init_54 : decode cX8_init 54 = .ok (.invokespecial 36, 3) := by decide +kernel
theorem dX8_init_57 : decode cX8_init 57 = .ok (.putfield 37, 3) := by decide +kernel
theorem dX8_init_60 : decode cX8_init 60 = .ok (.aload_n 0, 1) := by decide +kernel
theorem dX8_init_61 : decode cX8_init 61 = .ok (.bipush 8, 2) := by decide +kernel
theorem dX8_init_63 : decode cX8_init 63 = .ok (.anewarray 41, 3) := by decide +kernel
theorem dX8_init_66 : decode cX8_init 66 = .ok (.putfield 43, 3) := by decide +kernel
theorem dX8_init_69 : decode cX8_init 69 = .ok (.iconst 0, 1) := by decide +kernel
theorem dX8_init_70 : decode cX8_init 70 = .ok (.istore_n 1, 1) := by decide +kernel
theorem dX8_init_71 : decode cX8_init 71 = .ok (.iload_n 1, 1) := by decide +kernel
theorem dX8_init_72 : decode cX8_init 72 = .ok (.bipush 8, 2) := by decide +kernel
theorem dX8_init_74 : decode cX8_init 74 = .ok (.if_icmp .ge 22, 3) := by decide +kernel
theorem dX8_init_77 : decode cX8_init 77 = .ok (.aload_n 0, 1) := by decide +kernel
theorem dX8_init_78 : decode cX8_init 78 = .ok (.getfield 43, 3) := by decide +kernel
theorem dX8_init_81 : decode cX8_init 81 = .ok (.iload_n 1, 1) := by decide +kernel
theorem dX8_init_82 : decode cX8_init 82 = .ok (.new 41, 3) := by decide +kernel
theorem dX8_init_85 : decode cX8_init 85 = .ok (.dup, 1) := by decide +kernel
theorem dX8_init_86 : decode cX8_init 86 = .ok (.invokespecial 47, 3) := by decide +kernel
theorem dX8_init_89 : decode cX8_init 89 = .ok (.aastore, 1) := by decide +kernel
theorem dX8_init_90 : decode cX8_init 90 = .ok (.iinc 1 1, 3) := by decide +kernel
theorem dX8_init_93 : decode cX8_init 93 = .ok (.goto (-22), 3) := by decide +kernel
theorem dX8_init_96 : decode cX8_init 96 = .ok (.aload_n 0, 1) := by decide +kernel
theorem dX8_init_97 : decode cX8_init 97 = .ok (.iconst 5, 1) := by decide +kernel
theorem dX8_init_98 : decode cX8_init 98 = .ok (.putfield 48, 3) := by decide +kernel
theorem dX8_init_101 : decode cX8_init 101 = .ok (.return_, 1) := by decide +kernel
theorem dX8_thing_0 : decode cX8_thing 0 = .ok (.iload_n 1, 1) := by decide +kernel
theorem dX8_thing_1 : decode cX8_thing 1 = .ok (.ifCond .lt 9, 3) := by decide +kernel
theorem dX8_thing_4 : decode cX8_thing 4 = .ok (.iload_n 1, 1) := by decide +kernel
theorem dX8_thing_5 : decode cX8_thing 5 = .ok (.bipush 7, 2) := by decide +kernel
theorem dX8_thing_7 : decode cX8_thing 7 = .ok (.if_icmp .le 5, 3) := by decide +kernel
theorem dX8_thing_10 : decode cX8_thing 10 = .ok (.iconst (-1), 1) := by decide +kernel
theorem dX8_thing_11 : decode cX8_thing 11 = .ok (.ireturn, 1) := by decide +kernel
theorem dX8_thing_12 : decode cX8_thing 12 = .ok (.iload_n 1, 1) := by decide +kernel
theorem dX8_thing_13 : decode cX8_thing 13 = .ok (.iconst 4, 1) := by decide +kernel
theorem dX8_thing_14 : decode cX8_thing 14 = .ok (.if_icmp .lt 7, 3) := by decide +kernel
theorem dX8_thing_17 : decode cX8_thing 17 = .ok (.iconst 1, 1) := by decide +kernel
theorem dX8_thing_18 : decode cX8_thing 18 = .ok (.goto 4, 3) := by decide +kernel
theorem dX8_thing_21 : decode cX8_thing 21 = .ok (.iconst 0, 1) := by decide +kernel
theorem dX8_thing_22 : decode cX8_thing 22 = .ok (.istore_n 3, 1) := by decide +kernel
theorem dX8_thing_23 : decode cX8_thing 23 = .ok (.iload_n 3, 1) := by decide +kernel
theorem dX8_thing_24 : decode cX8_thing 24 = .ok (.ifCond .eq 15, 3) := by decide +kernel
theorem dX8_thing_27 : decode cX8_thing 27 = .ok (.iload_n 2, 1) := by decide +kernel
theorem dX8_thing_28 : decode cX8_thing 28 = .ok (.ifCond .lt 9, 3) := by decide +kernel
theorem dX8_thing_31 : decode cX8_thing 31 = .ok (.iload_n 2, 1) := by decide +kernel
theorem dX8_thing_32 : decode cX8_thing 32 = .ok (.bipush 12, 2) := by decide +kernel
theorem dX8_thing_34 : decode cX8_thing 34 = .ok (.if_icmp .le 5, 3) := by decide +kernel
theorem dX8_thing_37 : decode cX8_thing 37 = .ok (.iconst (-1), 1) := by decide +kernel
theorem dX8_thing_38 : decode cX8_thing 38 = .ok (.ireturn, 1) := by decide +kernel
theorem dX8_thing_39 : decode cX8_thing 39 = .ok (.aload_n 0, 1) := by decide +kernel
theorem dX8_thing_40 : decode cX8_thing 40 = .ok (.getfield 10, 3) := by decide +kernel
theorem dX8_thing_43 : decode cX8_thing 43 = .ok (.invokevirtual 52, 3) := by decide +kernel
theorem dX8_thing_46 : decode cX8_thing 46 = .ok (.ifCond .eq 8, 3) := by decide +kernel
theorem dX8_thing_49 : decode cX8_thing 49 = .ok (.bipush (-3), 2) := by decide +kernel
theorem dX8_thing_51 : decode cX8_thing 51 = .ok (.goto 20, 3) := by decide +kernel
theorem dX8_thing_54 : decode cX8_thing 54 = .ok (.aload_n 0, 1) := by decide +kernel
theorem dX8_thing_55 : decode cX8_thing 55 = .ok (.getfield 10, 3) := by decide +kernel
theorem dX8_thing_58 : decode cX8_thing 58 = .ok (.iload_n 1, 1) := by decide +kernel
theorem dX8_thing_59 : decode cX8_thing 59 = .ok (.iload_n 3, 1) := by decide +kernel
theorem dX8_thing_60 : decode cX8_thing 60 = .ok (.ifCond .eq 7, 3) := by decide +kernel
theorem dX8_thing_63 : decode cX8_thing 63 = .ok (.iload_n 2, 1) := by decide +kernel
theorem dX8_thing_64 : decode cX8_thing 64 = .ok (.goto 4, 3) := by decide +kernel
theorem dX8_thing_67 : decode cX8_thing 67 = .ok (.iconst 0, 1) := by decide +kernel
theorem dX8_thing_68 : decode cX8_thing 68 = .ok (.invokevirtual 56, 3) := by decide +kernel
theorem dX8_thing_71 : decode cX8_thing 71 = .ok (.ireturn, 1) := by decide +kernel
theorem dX8_of_0 : decode cX8_of 0 = .ok (.aload_n 0, 1) := by decide +kernel
theorem dX8_of_1 : decode cX8_of 1 = .ok (.getfield 10, 3) := by decide +kernel
theorem dX8_of_4 : decode cX8_of 4 = .ok (.iload_n 1, 1) := by decide +kernel
theorem dX8_of_5 : decode cX8_of 5 = .ok (.invokevirtual 60, 3) := by decide +kernel
theorem dX8_of_8 : decode cX8_of 8 = .ok (.astore_n 3, 1) := by decide +kernel
theorem dX8_of_9 : decode cX8_of 9 = .ok (.aload_n 3, 1) := by decide +kernel
theorem dX8_of_10 : decode cX8_of 10 = .ok (.ifnonnull 5, 3) := by decide +kernel
theorem dX8_of_13 : decode cX8_of 13 = .ok (.iconst (-1), 1) := by decide +kernel
theorem dX8_of_14 : decode cX8_of 14 = .ok (.ireturn, 1) := by decide +kernel
theorem dX8_of_15 : decode cX8_of 15 = .ok (.iload_n 2, 1) := by decide +kernel
theorem dX8_of_16 : decode cX8_of 16 = .ok (.tableswitch 101 0 5 #[40, 45, 65, 70, 75, 88], 40) := by decide +kernel
theorem dX8_of_56 : decode cX8_of 56 = .ok (.aload_n 3, 1) := by decide +kernel
theorem dX8_of_57 : decode cX8_of 57 = .ok (.getfield 64, 3) := by decide +kernel
theorem dX8_of_60 : decode cX8_of 60 = .ok (.ireturn, 1) := by decide +kernel
theorem dX8_of_61 : decode cX8_of 61 = .ok (.aload_n 3, 1) := by decide +kernel
theorem dX8_of_62 : decode cX8_of 62 = .ok (.invokevirtual 69, 3) := by decide +kernel
theorem dX8_of_65 : decode cX8_of 65 = .ok (.ifCond .eq 11, 3) := by decide +kernel
theorem dX8_of_68 : decode cX8_of 68 = .ok (.aload_n 3, 1) := by decide +kernel
theorem dX8_of_69 : decode cX8_of 69 = .ok (.getfield 72, 3) := by decide +kernel
theorem dX8_of_72 : decode cX8_of 72 = .ok (.arraylength, 1) := by decide +kernel
theorem dX8_of_73 : decode cX8_of 73 = .ok (.goto 7, 3) := by decide +kernel
theorem dX8_of_76 : decode cX8_of 76 = .ok (.aload_n 3, 1) := by decide +kernel
theorem dX8_of_77 : decode cX8_of 77 = .ok (.getfield 76, 3) := by decide +kernel
theorem dX8_of_80 : decode cX8_of 80 = .ok (.ireturn, 1) := by decide +kernel
theorem dX8_of_81 : decode cX8_of 81 = .ok (.aload_n 3, 1) := by decide +kernel
theorem dX8_of_82 : decode cX8_of 82 = .ok (.getfield 79, 3) := by decide +kernel
theorem dX8_of_85 : decode cX8_of 85 = .ok (.ireturn, 1) := by decide +kernel
theorem dX8_of_86 : decode cX8_of 86 = .ok (.aload_n 3, 1) := by decide +kernel
theorem dX8_of_87 : decode cX8_of 87 = .ok (.getfield 82, 3) := by decide +kernel
theorem dX8_of_90 : decode cX8_of 90 = .ok (.ireturn, 1) := by decide +kernel
theorem dX8_of_91 : decode cX8_of 91 = .ok (.aload_n 0, 1) := by decide +kernel
theorem dX8_of_92 : decode cX8_of 92 = .ok (.getfield 21, 3) := by decide +kernel
theorem dX8_of_95 : decode cX8_of 95 = .ok (.iconst 3, 1) := by decide +kernel
theorem dX8_of_96 : decode cX8_of 96 = .ok (.aload_n 3, 1) := by decide +kernel
theorem dX8_of_97 : decode cX8_of 97 = .ok (.getfield 85, 3) := by decide +kernel
theorem dX8_of_100 : decode cX8_of 100 = .ok (.invokevirtual 88, 3) := by decide +kernel
theorem dX8_of_103 : decode cX8_of 103 = .ok (.ireturn, 1) := by decide +kernel
theorem dX8_of_104 : decode cX8_of 104 = .ok (.aload_n 0, 1) := by decide +kernel
theorem dX8_of_105 : decode cX8_of 105 = .ok (.getfield 21, 3) := by decide +kernel
theorem dX8_of_108 : decode cX8_of 108 = .ok (.iconst 4, 1) := by decide +kernel
theorem dX8_of_109 : decode cX8_of 109 = .ok (.aload_n 3, 1) := by decide +kernel
theorem dX8_of_110 : decode cX8_of 110 = .ok (.getfield 85, 3) := by decide +kernel
theorem dX8_of_113 : decode cX8_of 113 = .ok (.invokevirtual 88, 3) := by decide +kernel
theorem dX8_of_116 : decode cX8_of 116 = .ok (.ireturn, 1) := by decide +kernel
theorem dX8_of_117 : decode cX8_of 117 = .ok (.iconst (-1), 1) := by decide +kernel
theorem dX8_of_118 : decode cX8_of 118 = .ok (.ireturn, 1) := by decide +kernel
theorem dX8_item_0 : decode cX8_item 0 = .ok (.aload_n 0, 1) := by decide +kernel
theorem dX8_item_1 : decode cX8_item 1 = .ok (.getfield 10, 3) := by decide +kernel
theorem dX8_item_4 : decode cX8_item 4 = .ok (.iload_n 1, 1) := by decide +kernel
theorem dX8_item_5 : decode cX8_item 5 = .ok (.invokevirtual 60, 3) := by decide +kernel
theorem dX8_item_8 : decode cX8_item 8 = .ok (.astore_n 3, 1) := by decide +kernel
theorem dX8_item_9 : decode cX8_item 9 = .ok (.aload_n 3, 1) := by decide +kernel
theorem dX8_item_10 : decode cX8_item 10 = .ok (.ifnull 11, 3) := by decide +kernel
theorem dX8_item_13 : decode cX8_item 13 = .ok (.aload_n 3, 1) := by decide +kernel
theorem dX8_item_14 : decode cX8_item 14 = .ok (.iload_n 2, 1) := by decide +kernel
theorem dX8_item_15 : decode cX8_item 15 = .ok (.invokevirtual 91, 3) := by decide +kernel
theorem dX8_item_18 : decode cX8_item 18 = .ok (.ifCond .ne 7, 3) := by decide +kernel
theorem dX8_item_21 : decode cX8_item 21 = .ok (.iconst (-1), 1) := by decide +kernel
theorem dX8_item_22 : decode cX8_item 22 = .ok (.goto 9, 3) := by decide +kernel
theorem dX8_item_25 : decode cX8_item 25 = .ok (.aload_n 3, 1) := by decide +kernel
theorem dX8_item_26 : decode cX8_item 26 = .ok (.getfield 72, 3) := by decide +kernel
theorem dX8_item_29 : decode cX8_item 29 = .ok (.iload_n 2, 1) := by decide +kernel
theorem dX8_item_30 : decode cX8_item 30 = .ok (.iaload, 1) := by decide +kernel
theorem dX8_item_31 : decode cX8_item 31 = .ok (.ireturn, 1) := by decide +kernel
theorem dX8_weigh_0 : decode cX8_weigh 0 = .ok (.aload_n 0, 1) := by decide +kernel
theorem dX8_weigh_1 : decode cX8_weigh 1 = .ok (.getfield 10, 3) := by decide +kernel
theorem dX8_weigh_4 : decode cX8_weigh 4 = .ok (.iload_n 1, 1) := by decide +kernel
theorem dX8_weigh_5 : decode cX8_weigh 5 = .ok (.invokevirtual 60, 3) := by decide +kernel
theorem dX8_weigh_8 : decode cX8_weigh 8 = .ok (.astore_n 2, 1) := by decide +kernel
theorem dX8_weigh_9 : decode cX8_weigh 9 = .ok (.aload_n 2, 1) := by decide +kernel
theorem dX8_weigh_10 : decode cX8_weigh 10 = .ok (.ifnonnull 7, 3) := by decide +kernel
theorem dX8_weigh_13 : decode cX8_weigh 13 = .ok (.iconst (-1), 1) := by decide +kernel
theorem dX8_weigh_14 : decode cX8_weigh 14 = .ok (.goto 11, 3) := by decide +kernel
theorem dX8_weigh_17 : decode cX8_weigh 17 = .ok (.aload_n 0, 1) := by decide +kernel
theorem dX8_weigh_18 : decode cX8_weigh 18 = .ok (.getfield 10, 3) := by decide +kernel
theorem dX8_weigh_21 : decode cX8_weigh 21 = .ok (.aload_n 2, 1) := by decide +kernel
theorem dX8_weigh_22 : decode cX8_weigh 22 = .ok (.invokevirtual 95, 3) := by decide +kernel
theorem dX8_weigh_25 : decode cX8_weigh 25 = .ok (.ireturn, 1) := by decide +kernel
theorem dX8_trace_0 : decode cX8_trace 0 = .ok (.aload_n 0, 1) := by decide +kernel
theorem dX8_trace_1 : decode cX8_trace 1 = .ok (.getfield 10, 3) := by decide +kernel
theorem dX8_trace_4 : decode cX8_trace 4 = .ok (.iload_n 1, 1) := by decide +kernel
theorem dX8_trace_5 : decode cX8_trace 5 = .ok (.invokevirtual 99, 3) := by decide +kernel
theorem dX8_trace_8 : decode cX8_trace 8 = .ok (.ireturn, 1) := by decide +kernel
theorem dX8_act_0 : decode cX8_act 0 = .ok (.aload_n 0, 1) := by decide +kernel
theorem dX8_act_1 : decode cX8_act 1 = .ok (.iload_n 1, 1) := by decide +kernel
theorem dX8_act_2 : decode cX8_act 2 = .ok (.invokevirtual 103, 3) := by decide +kernel
theorem dX8_act_5 : decode cX8_act 5 = .ok (.astore 6, 2) := by decide +kernel
theorem dX8_act_7 : decode cX8_act 7 = .ok (.aload 6, 2) := by decide +kernel
theorem dX8_act_9 : decode cX8_act 9 = .ok (.ifnull 15, 3) := by decide +kernel
theorem dX8_act_12 : decode cX8_act 12 = .ok (.iload_n 2, 1) := by decide +kernel
theorem dX8_act_13 : decode cX8_act 13 = .ok (.iload_n 3, 1) := by decide +kernel
theorem dX8_act_14 : decode cX8_act 14 = .ok (.iload 4, 2) := by decide +kernel
theorem dX8_act_16 : decode cX8_act 16 = .ok (.iload 5, 2) := by decide +kernel
theorem dX8_act_18 : decode cX8_act 18 = .ok (.invokestatic 107, 3) := by decide +kernel
theorem dX8_act_21 : decode cX8_act 21 = .ok (.ifCond .ne 5, 3) := by decide +kernel
theorem dX8_act_24 : decode cX8_act 24 = .ok (.iconst (-1), 1) := by decide +kernel
theorem dX8_act_25 : decode cX8_act 25 = .ok (.ireturn, 1) := by decide +kernel
theorem dX8_act_26 : decode cX8_act 26 = .ok (.aload_n 0, 1) := by decide +kernel
theorem dX8_act_27 : decode cX8_act 27 = .ok (.getfield 21, 3) := by decide +kernel
theorem dX8_act_30 : decode cX8_act 30 = .ok (.aload 6, 2) := by decide +kernel
theorem dX8_act_32 : decode cX8_act 32 = .ok (.invokevirtual 111, 3) := by decide +kernel
theorem dX8_act_35 : decode cX8_act 35 = .ok (.ifCond .eq 6, 3) := by decide +kernel
theorem dX8_act_38 : decode cX8_act 38 = .ok (.bipush (-2), 2) := by decide +kernel
theorem dX8_act_40 : decode cX8_act 40 = .ok (.ireturn, 1) := by decide +kernel
theorem dX8_act_41 : decode cX8_act 41 = .ok (.aload 6, 2) := by decide +kernel
theorem dX8_act_43 : decode cX8_act 43 = .ok (.getfield 115, 3) := by decide +kernel
theorem dX8_act_46 : decode cX8_act 46 = .ok (.bipush 40, 2) := by decide +kernel
theorem dX8_act_48 : decode cX8_act 48 = .ok (.if_icmp .lt 6, 3) := by decide +kernel
theorem dX8_act_51 : decode cX8_act 51 = .ok (.bipush (-3), 2) := by decide +kernel
theorem dX8_act_53 : decode cX8_act 53 = .ok (.ireturn, 1) := by decide +kernel
theorem dX8_act_54 : decode cX8_act 54 = .ok (.aload 6, 2) := by decide +kernel
theorem dX8_act_56 : decode cX8_act 56 = .ok (.iload_n 2, 1) := by decide +kernel
theorem dX8_act_57 : decode cX8_act 57 = .ok (.iload_n 3, 1) := by decide +kernel
theorem dX8_act_58 : decode cX8_act 58 = .ok (.iload 4, 2) := by decide +kernel
theorem dX8_act_60 : decode cX8_act 60 = .ok (.iload 5, 2) := by decide +kernel
theorem dX8_act_62 : decode cX8_act 62 = .ok (.invokevirtual 118, 3) := by decide +kernel
theorem dX8_act_65 : decode cX8_act 65 = .ok (.aload 6, 2) := by decide +kernel
theorem dX8_act_67 : decode cX8_act 67 = .ok (.getfield 115, 3) := by decide +kernel
theorem dX8_act_70 : decode cX8_act 70 = .ok (.ireturn, 1) := by decide +kernel
theorem dX8_wipe_0 : decode cX8_wipe 0 = .ok (.aload_n 0, 1) := by decide +kernel
theorem dX8_wipe_1 : decode cX8_wipe 1 = .ok (.iload_n 1, 1) := by decide +kernel
theorem dX8_wipe_2 : decode cX8_wipe 2 = .ok (.invokevirtual 103, 3) := by decide +kernel
theorem dX8_wipe_5 : decode cX8_wipe 5 = .ok (.astore_n 2, 1) := by decide +kernel
theorem dX8_wipe_6 : decode cX8_wipe 6 = .ok (.aload_n 2, 1) := by decide +kernel
theorem dX8_wipe_7 : decode cX8_wipe 7 = .ok (.ifnonnull 5, 3) := by decide +kernel
theorem dX8_wipe_10 : decode cX8_wipe 10 = .ok (.iconst (-1), 1) := by decide +kernel
theorem dX8_wipe_11 : decode cX8_wipe 11 = .ok (.ireturn, 1) := by decide +kernel
theorem dX8_wipe_12 : decode cX8_wipe 12 = .ok (.aload_n 0, 1) := by decide +kernel
theorem dX8_wipe_13 : decode cX8_wipe 13 = .ok (.getfield 21, 3) := by decide +kernel
theorem dX8_wipe_16 : decode cX8_wipe 16 = .ok (.aload_n 2, 1) := by decide +kernel
theorem dX8_wipe_17 : decode cX8_wipe 17 = .ok (.invokevirtual 111, 3) := by decide +kernel
theorem dX8_wipe_20 : decode cX8_wipe 20 = .ok (.ifCond .eq 6, 3) := by decide +kernel
theorem dX8_wipe_23 : decode cX8_wipe 23 = .ok (.bipush (-2), 2) := by decide +kernel
theorem dX8_wipe_25 : decode cX8_wipe 25 = .ok (.ireturn, 1) := by decide +kernel
theorem dX8_wipe_26 : decode cX8_wipe 26 = .ok (.aload_n 2, 1) := by decide +kernel
theorem dX8_wipe_27 : decode cX8_wipe 27 = .ok (.getfield 115, 3) := by decide +kernel
theorem dX8_wipe_30 : decode cX8_wipe 30 = .ok (.istore_n 3, 1) := by decide +kernel
theorem dX8_wipe_31 : decode cX8_wipe 31 = .ok (.aload_n 2, 1) := by decide +kernel
theorem dX8_wipe_32 : decode cX8_wipe 32 = .ok (.iconst 0, 1) := by decide +kernel
theorem dX8_wipe_33 : decode cX8_wipe 33 = .ok (.putfield 115, 3) := by decide +kernel
theorem dX8_wipe_36 : decode cX8_wipe 36 = .ok (.iload_n 3, 1) := by decide +kernel
theorem dX8_wipe_37 : decode cX8_wipe 37 = .ok (.ireturn, 1) := by decide +kernel
theorem dX8_thread_0 : decode cX8_thread 0 = .ok (.aload_n 0, 1) := by decide +kernel
theorem dX8_thread_1 : decode cX8_thread 1 = .ok (.getfield 21, 3) := by decide +kernel
theorem dX8_thread_4 : decode cX8_thread 4 = .ok (.iload_n 1, 1) := by decide +kernel
theorem dX8_thread_5 : decode cX8_thread 5 = .ok (.invokevirtual 122, 3) := by decide +kernel
theorem dX8_thread_8 : decode cX8_thread 8 = .ok (.astore 4, 2) := by decide +kernel
theorem dX8_thread_10 : decode cX8_thread 10 = .ok (.aload_n 0, 1) := by decide +kernel
theorem dX8_thread_11 : decode cX8_thread 11 = .ok (.iload_n 2, 1) := by decide +kernel
theorem dX8_thread_12 : decode cX8_thread 12 = .ok (.invokevirtual 103, 3) := by decide +kernel
theorem dX8_thread_15 : decode cX8_thread 15 = .ok (.astore 5, 2) := by decide +kernel
theorem dX8_thread_17 : decode cX8_thread 17 = .ok (.aload 4, 2) := by decide +kernel
theorem dX8_thread_19 : decode cX8_thread 19 = .ok (.ifnull 18, 3) := by decide +kernel
theorem dX8_thread_22 : decode cX8_thread 22 = .ok (.aload 5, 2) := by decide +kernel
theorem dX8_thread_24 : decode cX8_thread 24 = .ok (.ifnull 13, 3) := by decide +kernel
theorem dX8_thread_27 : decode cX8_thread 27 = .ok (.iload_n 3, 1) := by decide +kernel
theorem dX8_thread_28 : decode cX8_thread 28 = .ok (.ifCond .lt 9, 3) := by decide +kernel
theorem dX8_thread_31 : decode cX8_thread 31 = .ok (.iload_n 3, 1) := by decide +kernel
theorem dX8_thread_32 : decode cX8_thread 32 = .ok (.bipush 9, 2) := by decide +kernel
theorem dX8_thread_34 : decode cX8_thread 34 = .ok (.if_icmp .le 5, 3) := by decide +kernel
theorem dX8_thread_37 : decode cX8_thread 37 = .ok (.iconst (-1), 1) := by decide +kernel
theorem dX8_thread_38 : decode cX8_thread 38 = .ok (.ireturn, 1) := by decide +kernel
theorem dX8_thread_39 : decode cX8_thread 39 = .ok (.aload 4, 2) := by decide +kernel
theorem dX8_thread_41 : decode cX8_thread 41 = .ok (.invokevirtual 125, 3) := by decide +kernel
theorem dX8_thread_44 : decode cX8_thread 44 = .ok (.ifCond .eq 6, 3) := by decide +kernel
theorem dX8_thread_47 : decode cX8_thread 47 = .ok (.bipush (-2), 2) := by decide +kernel
theorem dX8_thread_49 : decode cX8_thread 49 = .ok (.ireturn, 1) := by decide +kernel
theorem dX8_thread_50 : decode cX8_thread 50 = .ok (.aload 4, 2) := by decide +kernel
theorem dX8_thread_52 : decode cX8_thread 52 = .ok (.aload 5, 2) := by decide +kernel
theorem dX8_thread_54 : decode cX8_thread 54 = .ok (.iload_n 3, 1) := by decide +kernel
theorem dX8_thread_55 : decode cX8_thread 55 = .ok (.invokevirtual 130, 3) := by decide +kernel
theorem dX8_thread_58 : decode cX8_thread 58 = .ok (.iconst 1, 1) := by decide +kernel
theorem dX8_thread_59 : decode cX8_thread 59 = .ok (.ireturn, 1) := by decide +kernel
theorem dX8_set_0 : decode cX8_set 0 = .ok (.aload_n 0, 1) := by decide +kernel
theorem dX8_set_1 : decode cX8_set 1 = .ok (.getfield 21, 3) := by decide +kernel
theorem dX8_set_4 : decode cX8_set 4 = .ok (.iload_n 1, 1) := by decide +kernel
theorem dX8_set_5 : decode cX8_set 5 = .ok (.invokevirtual 122, 3) := by decide +kernel
theorem dX8_set_8 : decode cX8_set 8 = .ok (.astore 4, 2) := by decide +kernel
theorem dX8_set_10 : decode cX8_set 10 = .ok (.aload 4, 2) := by decide +kernel
theorem dX8_set_12 : decode cX8_set 12 = .ok (.ifnull 18, 3) := by decide +kernel
theorem dX8_set_15 : decode cX8_set 15 = .ok (.aload 4, 2) := by decide +kernel
theorem dX8_set_17 : decode cX8_set 17 = .ok (.getfield 134, 3) := by decide +kernel
theorem dX8_set_20 : decode cX8_set 20 = .ok (.ifCond .eq 10, 3) := by decide +kernel
theorem dX8_set_23 : decode cX8_set 23 = .ok (.iload_n 2, 1) := by decide +kernel
theorem dX8_set_24 : decode cX8_set 24 = .ok (.invokestatic 137, 3) := by decide +kernel
theorem dX8_set_27 : decode cX8_set 27 = .ok (.ifCond .ne 5, 3) := by decide +kernel
theorem dX8_set_30 : decode cX8_set 30 = .ok (.iconst (-1), 1) := by decide +kernel
theorem dX8_set_31 : decode cX8_set 31 = .ok (.ireturn, 1) := by decide +kernel
theorem dX8_set_32 : decode cX8_set 32 = .ok (.aload 4, 2) := by decide +kernel
theorem dX8_set_34 : decode cX8_set 34 = .ok (.iload_n 2, 1) := by decide +kernel
theorem dX8_set_35 : decode cX8_set 35 = .ok (.iload_n 3, 1) := by decide +kernel
theorem dX8_set_36 : decode cX8_set 36 = .ok (.invokevirtual 140, 3) := by decide +kernel
theorem dX8_set_39 : decode cX8_set 39 = .ok (.iconst 1, 1) := by decide +kernel
theorem dX8_set_40 : decode cX8_set 40 = .ok (.ireturn, 1) := by decide +kernel
theorem dX8_give_0 : decode cX8_give 0 = .ok (.aload_n 0, 1) := by decide +kernel
theorem dX8_give_1 : decode cX8_give 1 = .ok (.getfield 21, 3) := by decide +kernel
theorem dX8_give_4 : decode cX8_give 4 = .ok (.iload_n 1, 1) := by decide +kernel
theorem dX8_give_5 : decode cX8_give 5 = .ok (.invokevirtual 122, 3) := by decide +kernel
theorem dX8_give_8 : decode cX8_give 8 = .ok (.astore 4, 2) := by decide +kernel
theorem dX8_give_10 : decode cX8_give 10 = .ok (.aload 4, 2) := by decide +kernel
theorem dX8_give_12 : decode cX8_give 12 = .ok (.ifnull 18, 3) := by decide +kernel
theorem dX8_give_15 : decode cX8_give 15 = .ok (.aload 4, 2) := by decide +kernel
theorem dX8_give_17 : decode cX8_give 17 = .ok (.getfield 134, 3) := by decide +kernel
theorem dX8_give_20 : decode cX8_give 20 = .ok (.ifCond .eq 10, 3) := by decide +kernel
theorem dX8_give_23 : decode cX8_give 23 = .ok (.iload_n 2, 1) := by decide +kernel
theorem dX8_give_24 : decode cX8_give 24 = .ok (.invokestatic 137, 3) := by decide +kernel
theorem dX8_give_27 : decode cX8_give 27 = .ok (.ifCond .ne 5, 3) := by decide +kernel
theorem dX8_give_30 : decode cX8_give 30 = .ok (.iconst (-1), 1) := by decide +kernel
theorem dX8_give_31 : decode cX8_give 31 = .ok (.ireturn, 1) := by decide +kernel
theorem dX8_give_32 : decode cX8_give 32 = .ok (.iload_n 3, 1) := by decide +kernel
theorem dX8_give_33 : decode cX8_give 33 = .ok (.bipush (-4), 2) := by decide +kernel
theorem dX8_give_35 : decode cX8_give 35 = .ok (.if_icmp .eq 16, 3) := by decide +kernel
theorem dX8_give_38 : decode cX8_give 38 = .ok (.aload_n 0, 1) := by decide +kernel
theorem dX8_give_39 : decode cX8_give 39 = .ok (.getfield 10, 3) := by decide +kernel
theorem dX8_give_42 : decode cX8_give 42 = .ok (.iload_n 3, 1) := by decide +kernel
theorem dX8_give_43 : decode cX8_give 43 = .ok (.invokevirtual 60, 3) := by decide +kernel
theorem dX8_give_46 : decode cX8_give 46 = .ok (.ifnonnull 5, 3) := by decide +kernel
theorem dX8_give_49 : decode cX8_give 49 = .ok (.iconst (-1), 1) := by decide +kernel
theorem dX8_give_50 : decode cX8_give 50 = .ok (.ireturn, 1) := by decide +kernel
theorem dX8_give_51 : decode cX8_give 51 = .ok (.aload 4, 2) := by decide +kernel
theorem dX8_give_53 : decode cX8_give 53 = .ok (.iload_n 2, 1) := by decide +kernel
theorem dX8_give_54 : decode cX8_give 54 = .ok (.iload_n 3, 1) := by decide +kernel
theorem dX8_give_55 : decode cX8_give 55 = .ok (.invokevirtual 144, 3) := by decide +kernel
theorem dX8_give_58 : decode cX8_give 58 = .ok (.iconst 1, 1) := by decide +kernel
theorem dX8_give_59 : decode cX8_give 59 = .ok (.ireturn, 1) := by decide +kernel
theorem dX8_start_0 : decode cX8_start 0 = .ok (.aload_n 0, 1) := by decide +kernel
theorem dX8_start_1 : decode cX8_start 1 = .ok (.getfield 21, 3) := by decide +kernel
theorem dX8_start_4 : decode cX8_start 4 = .ok (.iload_n 1, 1) := by decide +kernel
theorem dX8_start_5 : decode cX8_start 5 = .ok (.invokevirtual 122, 3) := by decide +kernel
theorem dX8_start_8 : decode cX8_start 8 = .ok (.astore_n 2, 1) := by decide +kernel
theorem dX8_start_9 : decode cX8_start 9 = .ok (.aload_n 2, 1) := by decide +kernel
theorem dX8_start_10 : decode cX8_start 10 = .ok (.ifnonnull 5, 3) := by decide +kernel
theorem dX8_start_13 : decode cX8_start 13 = .ok (.iconst (-1), 1) := by decide +kernel
theorem dX8_start_14 : decode cX8_start 14 = .ok (.ireturn, 1) := by decide +kernel
theorem dX8_start_15 : decode cX8_start 15 = .ok (.aload_n 2, 1) := by decide +kernel
theorem dX8_start_16 : decode cX8_start 16 = .ok (.getfield 134, 3) := by decide +kernel
theorem dX8_start_19 : decode cX8_start 19 = .ok (.iconst 1, 1) := by decide +kernel
theorem dX8_start_20 : decode cX8_start 20 = .ok (.if_icmp .eq 6, 3) := by decide +kernel
theorem dX8_start_23 : decode cX8_start 23 = .ok (.bipush (-2), 2) := by decide +kernel
theorem dX8_start_25 : decode cX8_start 25 = .ok (.ireturn, 1) := by decide +kernel
theorem dX8_start_26 : decode cX8_start 26 = .ok (.aload_n 2, 1) := by decide +kernel
theorem dX8_start_27 : decode cX8_start 27 = .ok (.iconst 2, 1) := by decide +kernel
theorem dX8_start_28 : decode cX8_start 28 = .ok (.bipush (-4), 2) := by decide +kernel
theorem dX8_start_30 : decode cX8_start 30 = .ok (.bipush (-4), 2) := by decide +kernel
theorem dX8_start_32 : decode cX8_start 32 = .ok (.invokevirtual 147, 3) := by decide +kernel
theorem dX8_start_35 : decode cX8_start 35 = .ok (.iconst 1, 1) := by decide +kernel
theorem dX8_start_36 : decode cX8_start 36 = .ok (.ireturn, 1) := by decide +kernel
theorem dX8_broken_0 : decode cX8_broken 0 = .ok (.aload_n 0, 1) := by decide +kernel
theorem dX8_broken_1 : decode cX8_broken 1 = .ok (.getfield 21, 3) := by decide +kernel
theorem dX8_broken_4 : decode cX8_broken 4 = .ok (.iload_n 1, 1) := by decide +kernel
theorem dX8_broken_5 : decode cX8_broken 5 = .ok (.invokevirtual 122, 3) := by decide +kernel
theorem dX8_broken_8 : decode cX8_broken 8 = .ok (.astore_n 2, 1) := by decide +kernel
theorem dX8_broken_9 : decode cX8_broken 9 = .ok (.aload_n 2, 1) := by decide +kernel
theorem dX8_broken_10 : decode cX8_broken 10 = .ok (.ifnonnull 5, 3) := by decide +kernel
theorem dX8_broken_13 : decode cX8_broken 13 = .ok (.iconst (-1), 1) := by decide +kernel
theorem dX8_broken_14 : decode cX8_broken 14 = .ok (.ireturn, 1) := by decide +kernel
theorem dX8_broken_15 : decode cX8_broken 15 = .ok (.aload_n 2, 1) := by decide +kernel
theorem dX8_broken_16 : decode cX8_broken 16 = .ok (.invokevirtual 125, 3) := by decide +kernel
theorem dX8_broken_19 : decode cX8_broken 19 = .ok (.ifCond .ne 5, 3) := by decide +kernel
theorem dX8_broken_22 : decode cX8_broken 22 = .ok (.iconst 0, 1) := by decide +kernel
theorem dX8_broken_23 : decode cX8_broken 23 = .ok (.ireturn, 1) := by decide +kernel
theorem dX8_broken_24 : decode cX8_broken 24 = .ok (.aload_n 0, 1) := by decide +kernel
theorem dX8_broken_25 : decode cX8_broken 25 = .ok (.getfield 21, 3) := by decide +kernel
theorem dX8_broken_28 : decode cX8_broken 28 = .ok (.aload_n 2, 1) := by decide +kernel
theorem dX8_broken_29 : decode cX8_broken 29 = .ok (.invokevirtual 151, 3) := by decide +kernel
theorem dX8_broken_32 : decode cX8_broken 32 = .ok (.iconst 1, 1) := by decide +kernel
theorem dX8_broken_33 : decode cX8_broken 33 = .ok (.ireturn, 1) := by decide +kernel
theorem dX8_rule_0 : decode cX8_rule 0 = .ok (.iload_n 1, 1) := by decide +kernel
theorem dX8_rule_1 : decode cX8_rule 1 = .ok (.ifCond .lt 8, 3) := by decide +kernel
theorem dX8_rule_4 : decode cX8_rule 4 = .ok (.iload_n 1, 1) := by decide +kernel
theorem dX8_rule_5 : decode cX8_rule 5 = .ok (.iconst 1, 1) := by decide +kernel
theorem dX8_rule_6 : decode cX8_rule 6 = .ok (.if_icmp .le 5, 3) := by decide +kernel
theorem dX8_rule_9 : decode cX8_rule 9 = .ok (.iconst (-1), 1) := by decide +kernel
theorem dX8_rule_10 : decode cX8_rule 10 = .ok (.ireturn, 1) := by decide +kernel
theorem dX8_rule_11 : decode cX8_rule 11 = .ok (.aload_n 0, 1) := by decide +kernel
theorem dX8_rule_12 : decode cX8_rule 12 = .ok (.getfield 155, 3) := by decide +kernel
theorem dX8_rule_15 : decode cX8_rule 15 = .ok (.istore_n 2, 1) := by decide +kernel
theorem dX8_rule_16 : decode cX8_rule 16 = .ok (.aload_n 0, 1) := by decide +kernel
theorem dX8_rule_17 : decode cX8_rule 17 = .ok (.iload_n 1, 1) := by decide +kernel
theorem dX8_rule_18 : decode cX8_rule 18 = .ok (.putfield 155, 3) := by decide +kernel
theorem dX8_rule_21 : decode cX8_rule 21 = .ok (.iload_n 2, 1) := by decide +kernel
theorem dX8_rule_22 : decode cX8_rule 22 = .ok (.ireturn, 1) := by decide +kernel
theorem dX8_order_0 : decode cX8_order 0 = .ok (.iload_n 1, 1) := by decide +kernel
theorem dX8_order_1 : decode cX8_order 1 = .ok (.ifCond .lt 8, 3) := by decide +kernel
theorem dX8_order_4 : decode cX8_order 4 = .ok (.iload_n 1, 1) := by decide +kernel
theorem dX8_order_5 : decode cX8_order 5 = .ok (.iconst 2, 1) := by decide +kernel
theorem dX8_order_6 : decode cX8_order 6 = .ok (.if_icmp .le 5, 3) := by decide +kernel
theorem dX8_order_9 : decode cX8_order 9 = .ok (.iconst (-1), 1) := by decide +kernel
theorem dX8_order_10 : decode cX8_order 10 = .ok (.ireturn, 1) := by decide +kernel
theorem dX8_order_11 : decode cX8_order 11 = .ok (.aload_n 0, 1) := by decide +kernel
theorem dX8_order_12 : decode cX8_order 12 = .ok (.getfield 21, 3) := by decide +kernel
theorem dX8_order_15 : decode cX8_order 15 = .ok (.getfield 158, 3) := by decide +kernel
theorem dX8_order_18 : decode cX8_order 18 = .ok (.istore_n 2, 1) := by decide +kernel
theorem dX8_order_19 : decode cX8_order 19 = .ok (.aload_n 0, 1) := by decide +kernel
theorem dX8_order_20 : decode cX8_order 20 = .ok (.getfield 21, 3) := by decide +kernel
theorem dX8_order_23 : decode cX8_order 23 = .ok (.iload_n 1, 1) := by decide +kernel
theorem dX8_order_24 : decode cX8_order 24 = .ok (.putfield 158, 3) := by decide +kernel
theorem dX8_order_27 : decode cX8_order 27 = .ok (.iload_n 2, 1) := by decide +kernel
theorem dX8_order_28 : decode cX8_order 28 = .ok (.ireturn, 1) := by decide +kernel
theorem dX8_turn_0 : decode cX8_turn 0 = .ok (.aload_n 0, 1) := by decide +kernel
theorem dX8_turn_1 : decode cX8_turn 1 = .ok (.getfield 37, 3) := by decide +kernel
theorem dX8_turn_4 : decode cX8_turn 4 = .ok (.getfield 161, 3) := by decide +kernel
theorem dX8_turn_7 : decode cX8_turn 7 = .ok (.sipush 3000, 3) := by decide +kernel
theorem dX8_turn_10 : decode cX8_turn 10 = .ok (.if_icmp .lt 6, 3) := by decide +kernel
theorem dX8_turn_13 : decode cX8_turn 13 = .ok (.bipush (-3), 2) := by decide +kernel
theorem dX8_turn_15 : decode cX8_turn 15 = .ok (.ireturn, 1) := by decide +kernel
theorem dX8_turn_16 : decode cX8_turn 16 = .ok (.aload_n 0, 1) := by decide +kernel
theorem dX8_turn_17 : decode cX8_turn 17 = .ok (.getfield 21, 3) := by decide +kernel
theorem dX8_turn_20 : decode cX8_turn 20 = .ok (.invokevirtual 164, 3) := by decide +kernel
theorem dX8_turn_23 : decode cX8_turn 23 = .ok (.ifCond .eq 6, 3) := by decide +kernel
theorem dX8_turn_26 : decode cX8_turn 26 = .ok (.bipush (-7), 2) := by decide +kernel
theorem dX8_turn_28 : decode cX8_turn 28 = .ok (.ireturn, 1) := by decide +kernel
theorem dX8_turn_29 : decode cX8_turn 29 = .ok (.aload_n 0, 1) := by decide +kernel
theorem dX8_turn_30 : decode cX8_turn 30 = .ok (.getfield 21, 3) := by decide +kernel
theorem dX8_turn_33 : decode cX8_turn 33 = .ok (.invokevirtual 167, 3) := by decide +kernel
theorem dX8_turn_36 : decode cX8_turn 36 = .ok (.ifCond .eq 8, 3) := by decide +kernel
theorem dX8_turn_39 : decode cX8_turn 39 = .ok (.bipush (-6), 2) := by decide +kernel
theorem dX8_turn_41 : decode cX8_turn 41 = .ok (.goto 7, 3) := by decide +kernel
theorem dX8_turn_44 : decode cX8_turn 44 = .ok (.aload_n 0, 1) := by decide +kernel
theorem dX8_turn_45 : decode cX8_turn 45 = .ok (.invokevirtual 170, 3) := by decide +kernel
theorem dX8_turn_48 : decode cX8_turn 48 = .ok (.ireturn, 1) := by decide +kernel
theorem dX8_run_0 : decode cX8_run 0 = .ok (.iload_n 1, 1) := by decide +kernel
theorem dX8_run_1 : decode cX8_run 1 = .ok (.iconst 1, 1) := by decide +kernel
theorem dX8_run_2 : decode cX8_run 2 = .ok (.if_icmp .lt 9, 3) := by decide +kernel
theorem dX8_run_5 : decode cX8_run 5 = .ok (.iload_n 1, 1) := by decide +kernel
theorem dX8_run_6 : decode cX8_run 6 = .ok (.bipush 60, 2) := by decide +kernel
theorem dX8_run_8 : decode cX8_run 8 = .ok (.if_icmp .le 5, 3) := by decide +kernel
theorem dX8_run_11 : decode cX8_run 11 = .ok (.iconst (-1), 1) := by decide +kernel
theorem dX8_run_12 : decode cX8_run 12 = .ok (.ireturn, 1) := by decide +kernel
theorem dX8_run_13 : decode cX8_run 13 = .ok (.aload_n 0, 1) := by decide +kernel
theorem dX8_run_14 : decode cX8_run 14 = .ok (.getfield 37, 3) := by decide +kernel
theorem dX8_run_17 : decode cX8_run 17 = .ok (.getfield 161, 3) := by decide +kernel
theorem dX8_run_20 : decode cX8_run 20 = .ok (.sipush 3000, 3) := by decide +kernel
theorem dX8_run_23 : decode cX8_run 23 = .ok (.if_icmp .lt 6, 3) := by decide +kernel
theorem dX8_run_26 : decode cX8_run 26 = .ok (.bipush (-3), 2) := by decide +kernel
theorem dX8_run_28 : decode cX8_run 28 = .ok (.ireturn, 1) := by decide +kernel
theorem dX8_run_29 : decode cX8_run 29 = .ok (.iconst 0, 1) := by decide +kernel
theorem dX8_run_30 : decode cX8_run 30 = .ok (.istore_n 2, 1) := by decide +kernel
theorem dX8_run_31 : decode cX8_run 31 = .ok (.iload_n 2, 1) := by decide +kernel
theorem dX8_run_32 : decode cX8_run 32 = .ok (.iload_n 1, 1) := by decide +kernel
theorem dX8_run_33 : decode cX8_run 33 = .ok (.if_icmp .ge 34, 3) := by decide +kernel
theorem dX8_run_36 : decode cX8_run 36 = .ok (.aload_n 0, 1) := by decide +kernel
theorem dX8_run_37 : decode cX8_run 37 = .ok (.getfield 21, 3) := by decide +kernel
theorem dX8_run_40 : decode cX8_run 40 = .ok (.invokevirtual 164, 3) := by decide +kernel
theorem dX8_run_43 : decode cX8_run 43 = .ok (.ifCond .ne 24, 3) := by decide +kernel
theorem dX8_run_46 : decode cX8_run 46 = .ok (.aload_n 0, 1) := by decide +kernel
theorem dX8_run_47 : decode cX8_run 47 = .ok (.getfield 21, 3) := by decide +kernel
theorem dX8_run_50 : decode cX8_run 50 = .ok (.invokevirtual 167, 3) := by decide +kernel
theorem dX8_run_53 : decode cX8_run 53 = .ok (.ifCond .ne 14, 3) := by decide +kernel
theorem dX8_run_56 : decode cX8_run 56 = .ok (.aload_n 0, 1) := by decide +kernel
theorem dX8_run_57 : decode cX8_run 57 = .ok (.invokevirtual 170, 3) := by decide +kernel
theorem dX8_run_60 : decode cX8_run 60 = .ok (.pop, 1) := by decide +kernel
theorem dX8_run_61 : decode cX8_run 61 = .ok (.iinc 2 1, 3) := by decide +kernel
theorem dX8_run_64 : decode cX8_run 64 = .ok (.goto (-33), 3) := by decide +kernel
theorem dX8_run_67 : decode cX8_run 67 = .ok (.iload_n 2, 1) := by decide +kernel
theorem dX8_run_68 : decode cX8_run 68 = .ok (.ireturn, 1) := by decide +kernel
theorem dX8_told_0 : decode cX8_told 0 = .ok (.aload_n 0, 1) := by decide +kernel
theorem dX8_told_1 : decode cX8_told 1 = .ok (.getfield 21, 3) := by decide +kernel
theorem dX8_told_4 : decode cX8_told 4 = .ok (.iload_n 1, 1) := by decide +kernel
theorem dX8_told_5 : decode cX8_told 5 = .ok (.invokevirtual 122, 3) := by decide +kernel
theorem dX8_told_8 : decode cX8_told 8 = .ok (.astore_n 3, 1) := by decide +kernel
theorem dX8_told_9 : decode cX8_told 9 = .ok (.aload_n 3, 1) := by decide +kernel
theorem dX8_told_10 : decode cX8_told 10 = .ok (.ifnonnull 5, 3) := by decide +kernel
theorem dX8_told_13 : decode cX8_told 13 = .ok (.iconst (-1), 1) := by decide +kernel
theorem dX8_told_14 : decode cX8_told 14 = .ok (.ireturn, 1) := by decide +kernel
theorem dX8_told_15 : decode cX8_told 15 = .ok (.iload_n 2, 1) := by decide +kernel
theorem dX8_told_16 : decode cX8_told 16 = .ok (.tableswitch 108 0 8 #[52, 57, 62, 67, 72, 85, 90, 95, 103], 52) := by decide +kernel
theorem dX8_told_68 : decode cX8_told 68 = .ok (.aload_n 3, 1) := by decide +kernel
theorem dX8_told_69 : decode cX8_told 69 = .ok (.getfield 134, 3) := by decide +kernel
theorem dX8_told_72 : decode cX8_told 72 = .ok (.ireturn, 1) := by decide +kernel
theorem dX8_told_73 : decode cX8_told 73 = .ok (.aload_n 3, 1) := by decide +kernel
theorem dX8_told_74 : decode cX8_told 74 = .ok (.getfield 174, 3) := by decide +kernel
theorem dX8_told_77 : decode cX8_told 77 = .ok (.ireturn, 1) := by decide +kernel
theorem dX8_told_78 : decode cX8_told 78 = .ok (.aload_n 3, 1) := by decide +kernel
theorem dX8_told_79 : decode cX8_told 79 = .ok (.getfield 177, 3) := by decide +kernel
theorem dX8_told_82 : decode cX8_told 82 = .ok (.ireturn, 1) := by decide +kernel
theorem dX8_told_83 : decode cX8_told 83 = .ok (.aload_n 3, 1) := by decide +kernel
theorem dX8_told_84 : decode cX8_told 84 = .ok (.getfield 180, 3) := by decide +kernel
theorem dX8_told_87 : decode cX8_told 87 = .ok (.ireturn, 1) := by decide +kernel
theorem dX8_told_88 : decode cX8_told 88 = .ok (.aload_n 3, 1) := by decide +kernel
theorem dX8_told_89 : decode cX8_told 89 = .ok (.getfield 183, 3) := by decide +kernel
theorem dX8_told_92 : decode cX8_told 92 = .ok (.ifCond .eq 7, 3) := by decide +kernel
theorem dX8_told_95 : decode cX8_told 95 = .ok (.iconst 1, 1) := by decide +kernel
theorem dX8_told_96 : decode cX8_told 96 = .ok (.goto 4, 3) := by decide +kernel
theorem dX8_told_99 : decode cX8_told 99 = .ok (.iconst 0, 1) := by decide +kernel
theorem dX8_told_100 : decode cX8_told 100 = .ok (.ireturn, 1) := by decide +kernel
theorem dX8_told_101 : decode cX8_told 101 = .ok (.aload_n 3, 1) := by decide +kernel
theorem dX8_told_102 : decode cX8_told 102 = .ok (.getfield 187, 3) := by decide +kernel
theorem dX8_told_105 : decode cX8_told 105 = .ok (.ireturn, 1) := by decide +kernel
theorem dX8_told_106 : decode cX8_told 106 = .ok (.aload_n 3, 1) := by decide +kernel
theorem dX8_told_107 : decode cX8_told 107 = .ok (.getfield 190, 3) := by decide +kernel
theorem dX8_told_110 : decode cX8_told 110 = .ok (.ireturn, 1) := by decide +kernel
theorem dX8_told_111 : decode cX8_told 111 = .ok (.aload_n 3, 1) := by decide +kernel
theorem dX8_told_112 : decode cX8_told 112 = .ok (.getfield 193, 3) := by decide +kernel
theorem dX8_told_115 : decode cX8_told 115 = .ok (.getfield 197, 3) := by decide +kernel
theorem dX8_told_118 : decode cX8_told 118 = .ok (.ireturn, 1) := by decide +kernel
theorem dX8_told_119 : decode cX8_told 119 = .ok (.aload_n 3, 1) := by decide +kernel
theorem dX8_told_120 : decode cX8_told 120 = .ok (.getfield 200, 3) := by decide +kernel
theorem dX8_told_123 : decode cX8_told 123 = .ok (.ireturn, 1) := by decide +kernel
theorem dX8_told_124 : decode cX8_told 124 = .ok (.iconst (-1), 1) := by decide +kernel
theorem dX8_told_125 : decode cX8_told 125 = .ok (.ireturn, 1) := by decide +kernel
theorem dX8_register_0 : decode cX8_register 0 = .ok (.aload_n 0, 1) := by decide +kernel
theorem dX8_register_1 : decode cX8_register 1 = .ok (.getfield 21, 3) := by decide +kernel
theorem dX8_register_4 : decode cX8_register 4 = .ok (.iload_n 1, 1) := by decide +kernel
theorem dX8_register_5 : decode cX8_register 5 = .ok (.invokevirtual 122, 3) := by decide +kernel
theorem dX8_register_8 : decode cX8_register 8 = .ok (.astore_n 3, 1) := by decide +kernel
theorem dX8_register_9 : decode cX8_register 9 = .ok (.aload_n 3, 1) := by decide +kernel
theorem dX8_register_10 : decode cX8_register 10 = .ok (.ifnull 10, 3) := by decide +kernel
theorem dX8_register_13 : decode cX8_register 13 = .ok (.iload_n 2, 1) := by decide +kernel
theorem dX8_register_14 : decode cX8_register 14 = .ok (.invokestatic 137, 3) := by decide +kernel
theorem dX8_register_17 : decode cX8_register 17 = .ok (.ifCond .ne 7, 3) := by decide +kernel
theorem dX8_register_20 : decode cX8_register 20 = .ok (.iconst (-1), 1) := by decide +kernel
theorem dX8_register_21 : decode cX8_register 21 = .ok (.goto 8, 3) := by decide +kernel
theorem dX8_register_24 : decode cX8_register 24 = .ok (.aload_n 3, 1) := by decide +kernel
theorem dX8_register_25 : decode cX8_register 25 = .ok (.iload_n 2, 1) := by decide +kernel
theorem dX8_register_26 : decode cX8_register 26 = .ok (.invokevirtual 203, 3) := by decide +kernel
theorem dX8_register_29 : decode cX8_register 29 = .ok (.ireturn, 1) := by decide +kernel
theorem dX8_hand_0 : decode cX8_hand 0 = .ok (.aload_n 0, 1) := by decide +kernel
theorem dX8_hand_1 : decode cX8_hand 1 = .ok (.getfield 21, 3) := by decide +kernel
theorem dX8_hand_4 : decode cX8_hand 4 = .ok (.iload_n 1, 1) := by decide +kernel
theorem dX8_hand_5 : decode cX8_hand 5 = .ok (.invokevirtual 122, 3) := by decide +kernel
theorem dX8_hand_8 : decode cX8_hand 8 = .ok (.astore_n 3, 1) := by decide +kernel
theorem dX8_hand_9 : decode cX8_hand 9 = .ok (.aload_n 3, 1) := by decide +kernel
theorem dX8_hand_10 : decode cX8_hand 10 = .ok (.ifnull 10, 3) := by decide +kernel
theorem dX8_hand_13 : decode cX8_hand 13 = .ok (.iload_n 2, 1) := by decide +kernel
theorem dX8_hand_14 : decode cX8_hand 14 = .ok (.invokestatic 137, 3) := by decide +kernel
theorem dX8_hand_17 : decode cX8_hand 17 = .ok (.ifCond .ne 7, 3) := by decide +kernel
theorem dX8_hand_20 : decode cX8_hand 20 = .ok (.iconst (-1), 1) := by decide +kernel
theorem dX8_hand_21 : decode cX8_hand 21 = .ok (.goto 8, 3) := by decide +kernel
theorem dX8_hand_24 : decode cX8_hand 24 = .ok (.aload_n 3, 1) := by decide +kernel
theorem dX8_hand_25 : decode cX8_hand 25 = .ok (.iload_n 2, 1) := by decide +kernel
theorem dX8_hand_26 : decode cX8_hand 26 = .ok (.invokevirtual 206, 3) := by decide +kernel
theorem dX8_hand_29 : decode cX8_hand 29 = .ok (.ireturn, 1) := by decide +kernel
theorem dX8_ring_0 : decode cX8_ring 0 = .ok (.iload_n 1, 1) := by decide +kernel
theorem dX8_ring_1 : decode cX8_ring 1 = .ok (.ifCond .ge 7, 3) := by decide +kernel
theorem dX8_ring_4 : decode cX8_ring 4 = .ok (.iconst (-1), 1) := by decide +kernel
theorem dX8_ring_5 : decode cX8_ring 5 = .ok (.goto 11, 3) := by decide +kernel
theorem dX8_ring_8 : decode cX8_ring 8 = .ok (.aload_n 0, 1) := by decide +kernel
theorem dX8_ring_9 : decode cX8_ring 9 = .ok (.getfield 21, 3) := by decide +kernel
theorem dX8_ring_12 : decode cX8_ring 12 = .ok (.iload_n 1, 1) := by decide +kernel
theorem dX8_ring_13 : decode cX8_ring 13 = .ok (.invokevirtual 209, 3) := by decide +kernel
theorem dX8_ring_16 : decode cX8_ring 16 = .ok (.ireturn, 1) := by decide +kernel
theorem dX8_log_0 : decode cX8_log 0 = .ok (.iload_n 1, 1) := by decide +kernel
theorem dX8_log_1 : decode cX8_log 1 = .ok (.ifCond .lt 12, 3) := by decide +kernel
theorem dX8_log_4 : decode cX8_log 4 = .ok (.iload_n 2, 1) := by decide +kernel
theorem dX8_log_5 : decode cX8_log 5 = .ok (.ifCond .lt 8, 3) := by decide +kernel
theorem dX8_log_8 : decode cX8_log 8 = .ok (.iload_n 2, 1) := by decide +kernel
theorem dX8_log_9 : decode cX8_log 9 = .ok (.iconst 2, 1) := by decide +kernel
theorem dX8_log_10 : decode cX8_log 10 = .ok (.if_icmp .le 7, 3) := by decide +kernel
theorem dX8_log_13 : decode cX8_log 13 = .ok (.iconst (-1), 1) := by decide +kernel
theorem dX8_log_14 : decode cX8_log 14 = .ok (.goto 12, 3) := by decide +kernel
theorem dX8_log_17 : decode cX8_log 17 = .ok (.aload_n 0, 1) := by decide +kernel
theorem dX8_log_18 : decode cX8_log 18 = .ok (.getfield 37, 3) := by decide +kernel
theorem dX8_log_21 : decode cX8_log 21 = .ok (.iload_n 1, 1) := by decide +kernel
theorem dX8_log_22 : decode cX8_log 22 = .ok (.iload_n 2, 1) := by decide +kernel
theorem dX8_log_23 : decode cX8_log 23 = .ok (.invokevirtual 212, 3) := by decide +kernel
theorem dX8_log_26 : decode cX8_log 26 = .ok (.ireturn, 1) := by decide +kernel
theorem dX8_count_0 : decode cX8_count 0 = .ok (.iload_n 1, 1) := by decide +kernel
theorem dX8_count_1 : decode cX8_count 1 = .ok (.iconst 1, 1) := by decide +kernel
theorem dX8_count_2 : decode cX8_count 2 = .ok (.if_icmp .lt 19, 3) := by decide +kernel
theorem dX8_count_5 : decode cX8_count 5 = .ok (.iload_n 1, 1) := by decide +kernel
theorem dX8_count_6 : decode cX8_count 6 = .ok (.bipush 11, 2) := by decide +kernel
theorem dX8_count_8 : decode cX8_count 8 = .ok (.if_icmp .gt 13, 3) := by decide +kernel
theorem dX8_count_11 : decode cX8_count 11 = .ok (.aload_n 0, 1) := by decide +kernel
theorem dX8_count_12 : decode cX8_count 12 = .ok (.getfield 37, 3) := by decide +kernel
theorem dX8_count_15 : decode cX8_count 15 = .ok (.getfield 215, 3) := by decide +kernel
theorem dX8_count_18 : decode cX8_count 18 = .ok (.iload_n 1, 1) := by decide +kernel
theorem dX8_count_19 : decode cX8_count 19 = .ok (.iaload, 1) := by decide +kernel
theorem dX8_count_20 : decode cX8_count 20 = .ok (.ireturn, 1) := by decide +kernel
theorem dX8_count_21 : decode cX8_count 21 = .ok (.iload_n 1, 1) := by decide +kernel
theorem dX8_count_22 : decode cX8_count 22 = .ok (.tableswitch 130 0 16 #[82, 130, 130, 130, 130, 130, 130, 130, 130, 130, 130, 130, 90, 98, 106, 114, 122], 82) := by decide +kernel
theorem dX8_count_104 : decode cX8_count 104 = .ok (.aload_n 0, 1) := by decide +kernel
theorem dX8_count_105 : decode cX8_count 105 = .ok (.getfield 21, 3) := by decide +kernel
theorem dX8_count_108 : decode cX8_count 108 = .ok (.getfield 218, 3) := by decide +kernel
theorem dX8_count_111 : decode cX8_count 111 = .ok (.ireturn, 1) := by decide +kernel
theorem dX8_count_112 : decode cX8_count 112 = .ok (.aload_n 0, 1) := by decide +kernel
theorem dX8_count_113 : decode cX8_count 113 = .ok (.getfield 37, 3) := by decide +kernel
theorem dX8_count_116 : decode cX8_count 116 = .ok (.getfield 161, 3) := by decide +kernel
theorem dX8_count_119 : decode cX8_count 119 = .ok (.ireturn, 1) := by decide +kernel
theorem dX8_count_120 : decode cX8_count 120 = .ok (.aload_n 0, 1) := by decide +kernel
theorem dX8_count_121 : decode cX8_count 121 = .ok (.getfield 10, 3) := by decide +kernel
theorem dX8_count_124 : decode cX8_count 124 = .ok (.getfield 221, 3) := by decide +kernel
theorem dX8_count_127 : decode cX8_count 127 = .ok (.ireturn, 1) := by decide +kernel
theorem dX8_count_128 : decode cX8_count 128 = .ok (.aload_n 0, 1) := by decide +kernel
theorem dX8_count_129 : decode cX8_count 129 = .ok (.getfield 21, 3) := by decide +kernel
theorem dX8_count_132 : decode cX8_count 132 = .ok (.invokevirtual 222, 3) := by decide +kernel
theorem dX8_count_135 : decode cX8_count 135 = .ok (.ireturn, 1) := by decide +kernel
theorem dX8_count_136 : decode cX8_count 136 = .ok (.aload_n 0, 1) := by decide +kernel
theorem dX8_count_137 : decode cX8_count 137 = .ok (.getfield 30, 3) := by decide +kernel
theorem dX8_count_140 : decode cX8_count 140 = .ok (.getfield 225, 3) := by decide +kernel
theorem dX8_count_143 : decode cX8_count 143 = .ok (.ireturn, 1) := by decide +kernel
theorem dX8_count_144 : decode cX8_count 144 = .ok (.aload_n 0, 1) := by decide +kernel
theorem dX8_count_145 : decode cX8_count 145 = .ok (.getfield 37, 3) := by decide +kernel
theorem dX8_count_148 : decode cX8_count 148 = .ok (.getfield 226, 3) := by decide +kernel
theorem dX8_count_151 : decode cX8_count 151 = .ok (.ireturn, 1) := by decide +kernel
theorem dX8_count_152 : decode cX8_count 152 = .ok (.iconst (-1), 1) := by decide +kernel
theorem dX8_count_153 : decode cX8_count 153 = .ok (.ireturn, 1) := by decide +kernel
theorem dX8_isSlot_0 : decode cX8_isSlot 0 = .ok (.iload_n 0, 1) := by decide +kernel
theorem dX8_isSlot_1 : decode cX8_isSlot 1 = .ok (.ifCond .lt 13, 3) := by decide +kernel
theorem dX8_isSlot_4 : decode cX8_isSlot 4 = .ok (.iload_n 0, 1) := by decide +kernel
theorem dX8_isSlot_5 : decode cX8_isSlot 5 = .ok (.bipush 6, 2) := by decide +kernel
theorem dX8_isSlot_7 : decode cX8_isSlot 7 = .ok (.if_icmp .ge 7, 3) := by decide +kernel
theorem dX8_isSlot_10 : decode cX8_isSlot 10 = .ok (.iconst 1, 1) := by decide +kernel
theorem dX8_isSlot_11 : decode cX8_isSlot 11 = .ok (.goto 4, 3) := by decide +kernel
theorem dX8_isSlot_14 : decode cX8_isSlot 14 = .ok (.iconst 0, 1) := by decide +kernel
theorem dX8_isSlot_15 : decode cX8_isSlot 15 = .ok (.ireturn, 1) := by decide +kernel
theorem dX8_programAt_0 : decode cX8_programAt 0 = .ok (.iload_n 1, 1) := by decide +kernel
theorem dX8_programAt_1 : decode cX8_programAt 1 = .ok (.ifCond .lt 18, 3) := by decide +kernel
theorem dX8_programAt_4 : decode cX8_programAt 4 = .ok (.iload_n 1, 1) := by decide +kernel
theorem dX8_programAt_5 : decode cX8_programAt 5 = .ok (.bipush 8, 2) := by decide +kernel
theorem dX8_programAt_7 : decode cX8_programAt 7 = .ok (.if_icmp .ge 12, 3) := by decide +kernel
theorem dX8_programAt_10 : decode cX8_programAt 10 = .ok (.aload_n 0, 1) := by decide +kernel
theorem dX8_programAt_11 : decode cX8_programAt 11 = .ok (.getfield 43, 3) := by decide +kernel
theorem dX8_programAt_14 : decode cX8_programAt 14 = .ok (.iload_n 1, 1) := by decide +kernel
theorem dX8_programAt_15 : decode cX8_programAt 15 = .ok (.aaload, 1) := by decide +kernel
theorem dX8_programAt_16 : decode cX8_programAt 16 = .ok (.goto 4, 3) := by decide +kernel
theorem dX8_programAt_19 : decode cX8_programAt 19 = .ok (.aconst_null, 1) := by decide +kernel
theorem dX8_programAt_20 : decode cX8_programAt 20 = .ok (.areturn, 1) := by decide +kernel
theorem dX8_takeTurn_0 : decode cX8_takeTurn 0 = .ok (.aload_n 0, 1) := by decide +kernel
theorem dX8_takeTurn_1 : decode cX8_takeTurn 1 = .ok (.getfield 21, 3) := by decide +kernel
theorem dX8_takeTurn_4 : decode cX8_takeTurn 4 = .ok (.invokevirtual 229, 3) := by decide +kernel
theorem dX8_takeTurn_7 : decode cX8_takeTurn 7 = .ok (.aload_n 0, 1) := by decide +kernel
theorem dX8_takeTurn_8 : decode cX8_takeTurn 8 = .ok (.getfield 155, 3) := by decide +kernel
theorem dX8_takeTurn_11 : decode cX8_takeTurn 11 = .ok (.ifCond .ne 17, 3) := by decide +kernel
theorem dX8_takeTurn_14 : decode cX8_takeTurn 14 = .ok (.aload_n 0, 1) := by decide +kernel
theorem dX8_takeTurn_15 : decode cX8_takeTurn 15 = .ok (.getfield 21, 3) := by decide +kernel
theorem dX8_takeTurn_18 : decode cX8_takeTurn 18 = .ok (.aload_n 0, 1) := by decide +kernel
theorem dX8_takeTurn_19 : decode cX8_takeTurn 19 = .ok (.getfield 48, 3) := by decide +kernel
theorem dX8_takeTurn_22 : decode cX8_takeTurn 22 = .ok (.invokevirtual 232, 3) := by decide +kernel
theorem dX8_takeTurn_25 : decode cX8_takeTurn 25 = .ok (.goto 10, 3) := by decide +kernel
theorem dX8_takeTurn_28 : decode cX8_takeTurn 28 = .ok (.aload_n 0, 1) := by decide +kernel
theorem dX8_takeTurn_29 : decode cX8_takeTurn 29 = .ok (.getfield 21, 3) := by decide +kernel
theorem dX8_takeTurn_32 : decode cX8_takeTurn 32 = .ok (.invokevirtual 235, 3) := by decide +kernel
theorem dX8_takeTurn_35 : decode cX8_takeTurn 35 = .ok (.astore_n 1, 1) := by decide +kernel
theorem dX8_takeTurn_36 : decode cX8_takeTurn 36 = .ok (.aload_n 1, 1) := by decide +kernel
theorem dX8_takeTurn_37 : decode cX8_takeTurn 37 = .ok (.ifnonnull 6, 3) := by decide +kernel
theorem dX8_takeTurn_40 : decode cX8_takeTurn 40 = .ok (.bipush (-5), 2) := by decide +kernel
theorem dX8_takeTurn_42 : decode cX8_takeTurn 42 = .ok (.ireturn, 1) := by decide +kernel
theorem dX8_takeTurn_43 : decode cX8_takeTurn 43 = .ok (.aload_n 0, 1) := by decide +kernel
theorem dX8_takeTurn_44 : decode cX8_takeTurn 44 = .ok (.aload_n 1, 1) := by decide +kernel
theorem dX8_takeTurn_45 : decode cX8_takeTurn 45 = .ok (.getfield 239, 3) := by decide +kernel
theorem dX8_takeTurn_48 : decode cX8_takeTurn 48 = .ok (.putfield 48, 3) := by decide +kernel
theorem dX8_takeTurn_51 : decode cX8_takeTurn 51 = .ok (.aload_n 1, 1) := by decide +kernel
theorem dX8_takeTurn_52 : decode cX8_takeTurn 52 = .ok (.getfield 174, 3) := by decide +kernel
theorem dX8_takeTurn_55 : decode cX8_takeTurn 55 = .ok (.istore_n 2, 1) := by decide +kernel
theorem dX8_takeTurn_56 : decode cX8_takeTurn 56 = .ok (.aload_n 0, 1) := by decide +kernel
theorem dX8_takeTurn_57 : decode cX8_takeTurn 57 = .ok (.getfield 30, 3) := by decide +kernel
theorem dX8_takeTurn_60 : decode cX8_takeTurn 60 = .ok (.aload_n 1, 1) := by decide +kernel
theorem dX8_takeTurn_61 : decode cX8_takeTurn 61 = .ok (.invokevirtual 240, 3) := by decide +kernel
theorem dX8_takeTurn_64 : decode cX8_takeTurn 64 = .ok (.istore_n 3, 1) := by decide +kernel
theorem dX8_takeTurn_65 : decode cX8_takeTurn 65 = .ok (.aload_n 0, 1) := by decide +kernel
theorem dX8_takeTurn_66 : decode cX8_takeTurn 66 = .ok (.getfield 37, 3) := by decide +kernel
theorem dX8_takeTurn_69 : decode cX8_takeTurn 69 = .ok (.aload_n 1, 1) := by decide +kernel
theorem dX8_takeTurn_70 : decode cX8_takeTurn 70 = .ok (.getfield 239, 3) := by decide +kernel
theorem dX8_takeTurn_73 : decode cX8_takeTurn 73 = .ok (.iload_n 2, 1) := by decide +kernel
theorem dX8_takeTurn_74 : decode cX8_takeTurn 74 = .ok (.iload_n 3, 1) := by decide +kernel
theorem dX8_takeTurn_75 : decode cX8_takeTurn 75 = .ok (.invokevirtual 244, 3) := by decide +kernel
theorem dX8_takeTurn_78 : decode cX8_takeTurn 78 = .ok (.iload_n 3, 1) := by decide +kernel
theorem dX8_takeTurn_79 : decode cX8_takeTurn 79 = .ok (.ifCond .eq 14, 3) := by decide +kernel
theorem dX8_takeTurn_82 : decode cX8_takeTurn 82 = .ok (.aload_n 1, 1) := by decide +kernel
theorem dX8_takeTurn_83 : decode cX8_takeTurn 83 = .ok (.iload_n 2, 1) := by decide +kernel
theorem dX8_takeTurn_84 : decode cX8_takeTurn 84 = .ok (.putfield 174, 3) := by decide +kernel
theorem dX8_takeTurn_87 : decode cX8_takeTurn 87 = .ok (.aload_n 0, 1) := by decide +kernel
theorem dX8_takeTurn_88 : decode cX8_takeTurn 88 = .ok (.aload_n 1, 1) := by decide +kernel
theorem dX8_takeTurn_89 : decode cX8_takeTurn 89 = .ok (.iload_n 3, 1) := by decide +kernel
theorem dX8_takeTurn_90 : decode cX8_takeTurn 90 = .ok (.invokevirtual 247, 3) := by decide +kernel
theorem dX8_takeTurn_93 : decode cX8_takeTurn 93 = .ok (.aload_n 1, 1) := by decide +kernel
theorem dX8_takeTurn_94 : decode cX8_takeTurn 94 = .ok (.getfield 134, 3) := by decide +kernel
theorem dX8_takeTurn_97 : decode cX8_takeTurn 97 = .ok (.iconst 2, 1) := by decide +kernel
theorem dX8_takeTurn_98 : decode cX8_takeTurn 98 = .ok (.if_icmp .ne 20, 3) := by decide +kernel
theorem dX8_takeTurn_101 : decode cX8_takeTurn 101 = .ok (.aload_n 1, 1) := by decide +kernel
theorem dX8_takeTurn_102 : decode cX8_takeTurn 102 = .ok (.invokevirtual 251, 3) := by decide +kernel
theorem dX8_takeTurn_105 : decode cX8_takeTurn 105 = .ok (.ifCond .eq 13, 3) := by decide +kernel
theorem dX8_takeTurn_108 : decode cX8_takeTurn 108 = .ok (.aload_n 0, 1) := by decide +kernel
theorem dX8_takeTurn_109 : decode cX8_takeTurn 109 = .ok (.getfield 21, 3) := by decide +kernel
theorem dX8_takeTurn_112 : decode cX8_takeTurn 112 = .ok (.aload_n 1, 1) := by decide +kernel
theorem dX8_takeTurn_113 : decode cX8_takeTurn 113 = .ok (.iconst 0, 1) := by decide +kernel
theorem dX8_takeTurn_114 : decode cX8_takeTurn 114 = .ok (.iconst 0, 1) := by decide +kernel
theorem dX8_takeTurn_115 : decode cX8_takeTurn 115 = .ok (.invokevirtual 254, 3) := by decide +kernel
theorem dX8_takeTurn_118 : decode cX8_takeTurn 118 = .ok (.aload_n 1, 1) := by decide +kernel
theorem dX8_takeTurn_119 : decode cX8_takeTurn 119 = .ok (.getfield 239, 3) := by decide +kernel
theorem dX8_takeTurn_122 : decode cX8_takeTurn 122 = .ok (.ireturn, 1) := by decide +kernel
theorem dX8_fail_0 : decode cX8_fail 0 = .ok (.iload_n 2, 1) := by decide +kernel
theorem dX8_fail_1 : decode cX8_fail 1 = .ok (.bipush 7, 2) := by decide +kernel
theorem dX8_fail_3 : decode cX8_fail 3 = .ok (.if_icmp .ne 10, 3) := by decide +kernel
theorem dX8_fail_6 : decode cX8_fail 6 = .ok (.aload_n 1, 1) := by decide +kernel
theorem dX8_fail_7 : decode cX8_fail 7 = .ok (.getfield 258, 3) := by decide +kernel
theorem dX8_fail_10 : decode cX8_fail 10 = .ok (.goto 4, 3) := by decide +kernel
theorem dX8_fail_13 : decode cX8_fail 13 = .ok (.iconst 0, 1) := by decide +kernel
theorem dX8_fail_14 : decode cX8_fail 14 = .ok (.istore_n 3, 1) := by decide +kernel
theorem dX8_fail_15 : decode cX8_fail 15 = .ok (.aload_n 1, 1) := by decide +kernel
theorem dX8_fail_16 : decode cX8_fail 16 = .ok (.getfield 193, 3) := by decide +kernel
theorem dX8_fail_19 : decode cX8_fail 19 = .ok (.iload_n 2, 1) := by decide +kernel
theorem dX8_fail_20 : decode cX8_fail 20 = .ok (.invokevirtual 261, 3) := by decide +kernel
theorem dX8_fail_23 : decode cX8_fail 23 = .ok (.istore 4, 2) := by decide +kernel
theorem dX8_fail_25 : decode cX8_fail 25 = .ok (.aload_n 0, 1) := by decide +kernel
theorem dX8_fail_26 : decode cX8_fail 26 = .ok (.getfield 37, 3) := by decide +kernel
theorem dX8_fail_29 : decode cX8_fail 29 = .ok (.iload_n 2, 1) := by decide +kernel
theorem dX8_fail_30 : decode cX8_fail 30 = .ok (.iload 4, 2) := by decide +kernel
theorem dX8_fail_32 : decode cX8_fail 32 = .ok (.bipush (-4), 2) := by decide +kernel
theorem dX8_fail_34 : decode cX8_fail 34 = .ok (.if_icmp .eq 7, 3) := by decide +kernel
theorem dX8_fail_37 : decode cX8_fail 37 = .ok (.iconst 1, 1) := by decide +kernel
theorem dX8_fail_38 : decode cX8_fail 38 = .ok (.goto 4, 3) := by decide +kernel
theorem dX8_fail_41 : decode cX8_fail 41 = .ok (.iconst 0, 1) := by decide +kernel
theorem dX8_fail_42 : decode cX8_fail 42 = .ok (.invokevirtual 264, 3) := by decide +kernel
theorem dX8_fail_45 : decode cX8_fail 45 = .ok (.iload 4, 2) := by decide +kernel
theorem dX8_fail_47 : decode cX8_fail 47 = .ok (.bipush (-4), 2) := by decide +kernel
theorem dX8_fail_49 : decode cX8_fail 49 = .ok (.if_icmp .ne 14, 3) := by decide +kernel
theorem dX8_fail_52 : decode cX8_fail 52 = .ok (.aload_n 0, 1) := by decide +kernel
theorem dX8_fail_53 : decode cX8_fail 53 = .ok (.getfield 21, 3) := by decide +kernel
theorem dX8_fail_56 : decode cX8_fail 56 = .ok (.aload_n 1, 1) := by decide +kernel
theorem dX8_fail_57 : decode cX8_fail 57 = .ok (.iload_n 2, 1) := by decide +kernel
theorem dX8_fail_58 : decode cX8_fail 58 = .ok (.iload_n 3, 1) := by decide +kernel
theorem dX8_fail_59 : decode cX8_fail 59 = .ok (.invokevirtual 254, 3) := by decide +kernel
theorem dX8_fail_62 : decode cX8_fail 62 = .ok (.return_, 1) := by decide +kernel
theorem dX8_fail_63 : decode cX8_fail 63 = .ok (.aload_n 1, 1) := by decide +kernel
theorem dX8_fail_64 : decode cX8_fail 64 = .ok (.iload_n 2, 1) := by decide +kernel
theorem dX8_fail_65 : decode cX8_fail 65 = .ok (.putfield 268, 3) := by decide +kernel
theorem dX8_fail_68 : decode cX8_fail 68 = .ok (.aload_n 1, 1) := by decide +kernel
theorem dX8_fail_69 : decode cX8_fail 69 = .ok (.iload_n 3, 1) := by decide +kernel
theorem dX8_fail_70 : decode cX8_fail 70 = .ok (.putfield 271, 3) := by decide +kernel
theorem dX8_fail_73 : decode cX8_fail 73 = .ok (.aload_n 1, 1) := by decide +kernel
theorem dX8_fail_74 : decode cX8_fail 74 = .ok (.aload_n 1, 1) := by decide +kernel
theorem dX8_fail_75 : decode cX8_fail 75 = .ok (.getfield 193, 3) := by decide +kernel
theorem dX8_fail_78 : decode cX8_fail 78 = .ok (.iload 4, 2) := by decide +kernel
theorem dX8_fail_80 : decode cX8_fail 80 = .ok (.invokevirtual 274, 3) := by decide +kernel
theorem dX8_fail_83 : decode cX8_fail 83 = .ok (.invokevirtual 277, 3) := by decide +kernel
theorem dX8_fail_86 : decode cX8_fail 86 = .ok (.aload_n 1, 1) := by decide +kernel
theorem dX8_fail_87 : decode cX8_fail 87 = .ok (.getfield 193, 3) := by decide +kernel
theorem dX8_fail_90 : decode cX8_fail 90 = .ok (.iload 4, 2) := by decide +kernel
theorem dX8_fail_92 : decode cX8_fail 92 = .ok (.putfield 197, 3) := by decide +kernel
theorem dX8_fail_95 : decode cX8_fail 95 = .ok (.return_, 1) := by decide +kernel
theorem dX9_init_0 : decode cX9_init 0 = .ok (.aload_n 0, 1) := by decide +kernel
theorem dX9_init_1 : decode cX9_init 1 = .ok (.invokespecial 1, 3) := by decide +kernel
theorem dX9_init_4 : decode cX9_init 4 = .ok (.aload_n 0, 1) := by decide +kernel
theorem dX9_init_5 : decode cX9_init 5 = .ok (.bipush 32, 2) := by decide +kernel
theorem dX9_init_7 : decode cX9_init 7 = .ok (.newarray .int, 2) := by decide +kernel
theorem dX9_init_9 : decode cX9_init 9 = .ok (.putfield 7, 3) := by decide +kernel
theorem dX9_init_12 : decode cX9_init 12 = .ok (.aload_n 0, 1) := by decide +kernel
theorem dX9_init_13 : decode cX9_init 13 = .ok (.bipush 32, 2) := by decide +kernel
theorem dX9_init_15 : decode cX9_init 15 = .ok (.newarray .int, 2) := by decide +kernel
theorem dX9_init_17 : decode cX9_init 17 = .ok (.putfield 13, 3) := by decide +kernel
theorem dX9_init_20 : decode cX9_init 20 = .ok (.aload_n 0, 1) := by decide +kernel
theorem dX9_init_21 : decode cX9_init 21 = .ok (.bipush 32, 2) := by decide +kernel
theorem dX9_init_23 : decode cX9_init 23 = .ok (.newarray .int, 2) := by decide +kernel
theorem dX9_init_25 : decode cX9_init 25 = .ok (.putfield 16, 3) := by decide +kernel
theorem dX9_init_28 : decode cX9_init 28 = .ok (.aload_n 0, 1) := by decide +kernel
theorem dX9_init_29 : decode cX9_init 29 = .ok (.sipush 384, 3) := by decide +kernel
theorem dX9_init_32 : decode cX9_init 32 = .ok (.newarray .int, 2) := by decide +kernel
theorem dX9_init_34 : decode cX9_init 34 = .ok (.putfield 19, 3) := by decide +kernel
theorem dX9_init_37 : decode cX9_init 37 = .ok (.aload_n 0, 1) := by decide +kernel
theorem dX9_init_38 : decode cX9_init 38 = .ok (.bipush 32, 2) := by decide +kernel
theorem dX9_init_40 : decode cX9_init 40 = .ok (.newarray .int, 2) := by decide +kernel
theorem dX9_init_42 : decode cX9_init 42 = .ok (.putfield 22, 3) := by decide +kernel
theorem dX9_init_45 : decode cX9_init 45 = .ok (.aload_n 0, 1) := by decide +kernel
theorem dX9_init_46 : decode cX9_init 46 = .ok (.bipush 32, 2) := by decide +kernel
theorem dX9_init_48 : decode cX9_init 48 = .ok (.newarray .int, 2) := by decide +kernel
theorem dX9_init_50 : decode cX9_init 50 = .ok (.putfield 25, 3) := by decide +kernel
theorem dX9_init_53 : decode cX9_init 53 = .ok (.aload_n 0, 1) := by decide +kernel
theorem dX9_init_54 : decode cX9_init 54 = .ok (.bipush 40, 2) := by decide +kernel
theorem dX9_init_56 : decode cX9_init 56 = .ok (.newarray .int, 2) := by decide +kernel
theorem dX9_init_58 : decode cX9_init 58 = .ok (.putfield 28, 3) := by decide +kernel
theorem dX9_init_61 : decode cX9_init 61 = .ok (.aload_n 0, 1) := by decide +kernel
theorem dX9_init_62 : decode cX9_init 62 = .ok (.sipush 1280, 3) := by decide +kernel
theorem dX9_init_65 : decode cX9_init 65 = .ok (.newarray .int, 2) := by decide +kernel
theorem dX9_init_67 : decode cX9_init 67 = .ok (.putfield 31, 3) := by decide +kernel
theorem dX9_init_70 : decode cX9_init 70 = .ok (.aload_n 0, 1) := by decide +kernel
theorem dX9_init_71 : decode cX9_init 71 = .ok (.bipush 8, 2) := by decide +kernel
theorem dX9_init_73 : decode cX9_init 73 = .ok (.newarray .int, 2) := by decide +kernel
theorem dX9_init_75 : decode cX9_init 75 = .ok (.putfield 34, 3) := by decide +kernel
theorem dX9_init_78 : decode cX9_init 78 = .ok (.aload_n 0, 1) := by decide +kernel
theorem dX9_init_79 : decode cX9_init 79 = .ok (.bipush 37, 2) := by decide +kernel
theorem dX9_init_81 : decode cX9_init 81 = .ok (.newarray .int, 2) := by decide +kernel
theorem dX9_init_83 : decode cX9_init 83 = .ok (.dup, 1) := by decide +kernel
theorem dX9_init_84 : decode cX9_init 84 = .ok (.iconst 0, 1) := by decide +kernel
theorem dX9_init_85 : decode cX9_init 85 = .ok (.bipush 100, 2) := by decide +kernel
theorem dX9_init_87 : decode cX9_init 87 = .ok (.iastore, 1) := by decide +kernel
theorem dX9_init_88 : decode cX9_init 88 = .ok (.dup, 1) := by decide +kernel
theorem dX9_init_89 : decode cX9_init 89 = .ok (.iconst 1, 1) := by decide +kernel
theorem dX9_init_90 : decode cX9_init 90 = .ok (.bipush 110, 2) := by decide +kernel
theorem dX9_init_92 : decode cX9_init 92 = .ok (.iastore, 1) := by decide +kernel
theorem dX9_init_93 : decode cX9_init 93 = .ok (.dup, 1) := by decide +kernel
theorem dX9_init_94 : decode cX9_init 94 = .ok (.iconst 2, 1) := by decide +kernel
theorem dX9_init_95 : decode cX9_init 95 = .ok (.bipush 110, 2) := by decide +kernel
theorem dX9_init_97 : decode cX9_init 97 = .ok (.iastore, 1) := by decide +kernel
theorem dX9_init_98 : decode cX9_init 98 = .ok (.dup, 1) := by decide +kernel
theorem dX9_init_99 : decode cX9_init 99 = .ok (.iconst 3, 1) := by decide +kernel
theorem dX9_init_100 : decode cX9_init 100 = .ok (.bipush 110, 2) := by decide +kernel
theorem dX9_init_102 : decode cX9_init 102 = .ok (.iastore, 1) := by decide +kernel
theorem dX9_init_103 : decode cX9_init 103 = .ok (.dup, 1) := by decide +kernel
theorem dX9_init_104 : decode cX9_init 104 = .ok (.iconst 4, 1) := by decide +kernel
theorem dX9_init_105 : decode cX9_init 105 = .ok (.bipush 110, 2) := by decide +kernel
theorem dX9_init_107 : decode cX9_init 107 = .ok (.iastore, 1) := by decide +kernel
theorem dX9_init_108 : decode cX9_init 108 = .ok (.dup, 1) := by decide +kernel
theorem dX9_init_109 : decode cX9_init 109 = .ok (.iconst 5, 1) := by decide +kernel
theorem dX9_init_110 : decode cX9_init 110 = .ok (.bipush 111, 2) := by decide +kernel
theorem dX9_init_112 : decode cX9_init 112 = .ok (.iastore, 1) := by decide +kernel
theorem dX9_init_113 : decode cX9_init 113 = .ok (.dup, 1) := by decide +kernel
theorem dX9_init_114 : decode cX9_init 114 = .ok (.bipush 6, 2) := by decide +kernel
theorem dX9_init_116 : decode cX9_init 116 = .ok (.sipush 200, 3) := by decide +kernel
theorem dX9_init_119 : decode cX9_init 119 = .ok (.iastore, 1) := by decide +kernel
theorem dX9_init_120 : decode cX9_init 120 = .ok (.dup, 1) := by decide +kernel
theorem dX9_init_121 : decode cX9_init 121 = .ok (.bipush 7, 2) := by decide +kernel
theorem dX9_init_123 : decode cX9_init 123 = .ok (.sipush 210, 3) := by decide +kernel
theorem dX9_init_126 : decode cX9_init 126 = .ok (.iastore, 1) := by decide +kernel
theorem dX9_init_127 : decode cX9_init 127 = .ok (.dup, 1) := by decide +kernel
theorem dX9_init_128 : decode cX9_init 128 = .ok (.bipush 8, 2) := by decide +kernel
theorem dX9_init_130 : decode cX9_init 130 = .ok (.bipush 110, 2) := by decide +kernel
theorem dX9_init_132 : decode cX9_init 132 = .ok (.iastore, 1) := by decide +kernel
theorem dX9_init_133 : decode cX9_init 133 = .ok (.dup, 1) := by decide +kernel
theorem dX9_init_134 : decode cX9_init 134 = .ok (.bipush 9, 2) := by decide +kernel
theorem dX9_init_136 : decode cX9_init 136 = .ok (.sipush 131, 3) := by decide +kernel
theorem dX9_init_139 : decode cX9_init 139 = .ok (.iastore, 1) := by decide +kernel
theorem dX9_init_140 : decode cX9_init 140 = .ok (.dup, 1) := by decide +kernel
theorem dX9_init_141 : decode cX9_init 141 = .ok (.bipush 10, 2) := by decide +kernel
theorem dX9_init_143 : decode cX9_init 143 = .ok (.bipush 111, 2) := by decide +kernel
theorem dX9_init_145 : decode cX9_init 145 = .ok (.iastore, 1) := by decide +kernel
theorem dX9_init_146 : decode cX9_init 146 = .ok (.dup, 1) := by decide +kernel
theorem dX9_init_147 : decode cX9_init 147 = .ok (.bipush 11, 2) := by decide +kernel
theorem dX9_init_149 : decode cX9_init 149 = .ok (.bipush 110, 2) := by decide +kernel
theorem dX9_init_151 : decode cX9_init 151 = .ok (.iastore, 1) := by decide +kernel
theorem dX9_init_152 : decode cX9_init 152 = .ok (.dup, 1) := by decide +kernel
theorem dX9_init_153 : decode cX9_init 153 = .ok (.bipush 12, 2) := by decide +kernel
theorem dX9_init_155 : decode cX9_init 155 = .ok (.bipush 110, 2) := by decide +kernel
theorem dX9_init_157 : decode cX9_init 157 = .ok (.iastore, 1) := by decide +kernel
theorem dX9_init_158 : decode cX9_init 158 = .ok (.dup, 1) := by decide +kernel
theorem dX9_init_159 : decode cX9_init 159 = .ok (.bipush 13, 2) := by decide +kernel
theorem dX9_init_161 : decode cX9_init 161 = .ok (.bipush 110, 2) := by decide +kernel
theorem dX9_init_163 : decode cX9_init 163 = .ok (.iastore, 1) := by decide +kernel
theorem dX9_init_164 : decode cX9_init 164 = .ok (.dup, 1) := by decide +kernel
theorem dX9_init_165 : decode cX9_init 165 = .ok (.bipush 14, 2) := by decide +kernel
theorem dX9_init_167 : decode cX9_init 167 = .ok (.bipush 110, 2) := by decide +kernel
theorem dX9_init_169 : decode cX9_init 169 = .ok (.iastore, 1) := by decide +kernel
theorem dX9_init_170 : decode cX9_init 170 = .ok (.dup, 1) := by decide +kernel
theorem dX9_init_171 : decode cX9_init 171 = .ok (.bipush 15, 2) := by decide +kernel
theorem dX9_init_173 : decode cX9_init 173 = .ok (.bipush 110, 2) := by decide +kernel
theorem dX9_init_175 : decode cX9_init 175 = .ok (.iastore, 1) := by decide +kernel
theorem dX9_init_176 : decode cX9_init 176 = .ok (.dup, 1) := by decide +kernel
theorem dX9_init_177 : decode cX9_init 177 = .ok (.bipush 16, 2) := by decide +kernel
theorem dX9_init_179 : decode cX9_init 179 = .ok (.bipush 110, 2) := by decide +kernel
theorem dX9_init_181 : decode cX9_init 181 = .ok (.iastore, 1) := by decide +kernel
theorem dX9_init_182 : decode cX9_init 182 = .ok (.dup, 1) := by decide +kernel
theorem dX9_init_183 : decode cX9_init 183 = .ok (.bipush 17, 2) := by decide +kernel
theorem dX9_init_185 : decode cX9_init 185 = .ok (.bipush 111, 2) := by decide +kernel
theorem dX9_init_187 : decode cX9_init 187 = .ok (.iastore, 1) := by decide +kernel
theorem dX9_init_188 : decode cX9_init 188 = .ok (.dup, 1) := by decide +kernel
theorem dX9_init_189 : decode cX9_init 189 = .ok (.bipush 18, 2) := by decide +kernel
theorem dX9_init_191 : decode cX9_init 191 = .ok (.bipush 111, 2) := by decide +kernel
theorem dX9_init_193 : decode cX9_init 193 = .ok (.iastore, 1) := by decide +kernel
theorem dX9_init_194 : decode cX9_init 194 = .ok (.dup, 1) := by decide +kernel
theorem dX9_init_195 : decode cX9_init 195 = .ok (.bipush 19, 2) := by decide +kernel
theorem dX9_init_197 : decode cX9_init 197 = .ok (.bipush 111, 2) := by decide +kernel
theorem dX9_init_199 : decode cX9_init 199 = .ok (.iastore, 1) := by decide +kernel
theorem dX9_init_200 : decode cX9_init 200 = .ok (.dup, 1) := by decide +kernel
theorem dX9_init_201 : decode cX9_init 201 = .ok (.bipush 20, 2) := by decide +kernel
theorem dX9_init_203 : decode cX9_init 203 = .ok (.bipush 111, 2) := by decide +kernel
theorem dX9_init_205 : decode cX9_init 205 = .ok (.iastore, 1) := by decide +kernel
theorem dX9_init_206 : decode cX9_init 206 = .ok (.dup, 1) := by decide +kernel
theorem dX9_init_207 : decode cX9_init 207 = .ok (.bipush 21, 2) := by decide +kernel
theorem dX9_init_209 : decode cX9_init 209 = .ok (.bipush 111, 2) := by decide +kernel
theorem dX9_init_211 : decode cX9_init 211 = .ok (.iastore, 1) := by decide +kernel
theorem dX9_init_212 : decode cX9_init 212 = .ok (.dup, 1) := by decide +kernel
theorem dX9_init_213 : decode cX9_init 213 = .ok (.bipush 22, 2) := by decide +kernel
theorem dX9_init_215 : decode cX9_init 215 = .ok (.bipush 100, 2) := by decide +kernel
theorem dX9_init_217 : decode cX9_init 217 = .ok (.iastore, 1) := by decide +kernel
theorem dX9_init_218 : decode cX9_init 218 = .ok (.dup, 1) := by decide +kernel
theorem dX9_init_219 : decode cX9_init 219 = .ok (.bipush 23, 2) := by decide +kernel
theorem dX9_init_221 : decode cX9_init 221 = .ok (.bipush 100, 2) := by decide +kernel
theorem dX9_init_223 : decode cX9_init 223 = .ok (.iastore, 1) := by decide +kernel
theorem dX9_init_224 : decode cX9_init 224 = .ok (.dup, 1) := by decide +kernel
theorem dX9_init_225 : decode cX9_init 225 = .ok (.bipush 24, 2) := by decide +kernel
theorem dX9_init_227 : decode cX9_init 227 = .ok (.bipush 110, 2) := by decide +kernel
theorem dX9_init_229 : decode cX9_init 229 = .ok (.iastore, 1) := by decide +kernel
theorem dX9_init_230 : decode cX9_init 230 = .ok (.dup, 1) := by decide +kernel
theorem dX9_init_231 : decode cX9_init 231 = .ok (.bipush 25, 2) := by decide +kernel
theorem dX9_init_233 : decode cX9_init 233 = .ok (.bipush 100, 2) := by decide +kernel
theorem dX9_init_235 : decode cX9_init 235 = .ok (.iastore, 1) := by decide +kernel
theorem dX9_init_236 : decode cX9_init 236 = .ok (.dup, 1) := by decide +kernel
theorem dX9_init_237 : decode cX9_init 237 = .ok (.bipush 26, 2) := by decide +kernel
theorem dX9_init_239 : decode cX9_init 239 = .ok (.bipush 100, 2) := by decide +kernel
theorem dX9_init_241 : decode cX9_init 241 = .ok (.iastore, 1) := by decide +kernel
theorem dX9_init_242 : decode cX9_init 242 = .ok (.dup, 1) := by decide +kernel
theorem dX9_init_243 : decode cX9_init 243 = .ok (.bipush 27, 2) := by decide +kernel
theorem dX9_init_245 : decode cX9_init 245 = .ok (.bipush 100, 2) := by decide +kernel
theorem dX9_init_247 : decode cX9_init 247 = .ok (.iastore, 1) := by decide +kernel
theorem dX9_init_248 : decode cX9_init 248 = .ok (.dup, 1) := by decide +kernel
theorem dX9_init_249 : decode cX9_init 249 = .ok (.bipush 28, 2) := by decide +kernel
theorem dX9_init_251 : decode cX9_init 251 = .ok (.bipush 100, 2) := by decide +kernel
theorem dX9_init_253 : decode cX9_init 253 = .ok (.iastore, 1) := by decide +kernel
theorem dX9_init_254 : decode cX9_init 254 = .ok (.dup, 1) := by decide +kernel
theorem dX9_init_255 : decode cX9_init 255 = .ok (.bipush 29, 2) := by decide +kernel
theorem dX9_init_257 : decode cX9_init 257 = .ok (.bipush 100, 2) := by decide +kernel
theorem dX9_init_259 : decode cX9_init 259 = .ok (.iastore, 1) := by decide +kernel
theorem dX9_init_260 : decode cX9_init 260 = .ok (.dup, 1) := by decide +kernel
theorem dX9_init_261 : decode cX9_init 261 = .ok (.bipush 30, 2) := by decide +kernel
theorem dX9_init_263 : decode cX9_init 263 = .ok (.bipush 100, 2) := by decide +kernel
theorem dX9_init_265 : decode cX9_init 265 = .ok (.iastore, 1) := by decide +kernel
theorem dX9_init_266 : decode cX9_init 266 = .ok (.dup, 1) := by decide +kernel
theorem dX9_init_267 : decode cX9_init 267 = .ok (.bipush 31, 2) := by decide +kernel
theorem dX9_init_269 : decode cX9_init 269 = .ok (.bipush 100, 2) := by decide +kernel
theorem dX9_init_271 : decode cX9_init 271 = .ok (.iastore, 1) := by decide +kernel
theorem dX9_init_272 : decode cX9_init 272 = .ok (.dup, 1) := by decide +kernel
theorem dX9_init_273 : decode cX9_init 273 = .ok (.bipush 32, 2) := by decide +kernel
theorem dX9_init_275 : decode cX9_init 275 = .ok (.bipush 100, 2) := by decide +kernel
theorem dX9_init_277 : decode cX9_init 277 = .ok (.iastore, 1) := by decide +kernel
theorem dX9_init_278 : decode cX9_init 278 = .ok (.dup, 1) := by decide +kernel
theorem dX9_init_279 : decode cX9_init 279 = .ok (.bipush 33, 2) := by decide +kernel
theorem dX9_init_281 : decode cX9_init 281 = .ok (.sipush 240, 3) := by decide +kernel
theorem dX9_init_284 : decode cX9_init 284 = .ok (.iastore, 1) := by decide +kernel
theorem dX9_init_285 : decode cX9_init 285 = .ok (.dup, 1) := by decide +kernel
theorem dX9_init_286 : decode cX9_init 286 = .ok (.bipush 34, 2) := by decide +kernel
theorem dX9_init_288 : decode cX9_init 288 = .ok (.iconst 0, 1) := by decide +kernel
theorem dX9_init_289 : decode cX9_init 289 = .ok (.iastore, 1) := by decide +kernel
theorem dX9_init_290 : decode cX9_init 290 = .ok (.dup, 1) := by decide +kernel
theorem dX9_init_291 : decode cX9_init 291 = .ok (.bipush 35, 2) := by decide +kernel
theorem dX9_init_293 : decode cX9_init 293 = .ok (.bipush 110, 2) := by decide +kernel
theorem dX9_init_295 : decode cX9_init 295 = .ok (.iastore, 1) := by decide +kernel
theorem dX9_init_296 : decode cX9_init 296 = .ok (.dup, 1) := by decide +kernel
theorem dX9_init_297 : decode cX9_init 297 = .ok (.bipush 36, 2) := by decide +kernel
theorem dX9_init_299 : decode cX9_init 299 = .ok (.iconst 0, 1) := by decide +kernel
theorem dX9_init_300 : decode cX9_init 300 = .ok (.iastore, 1) := by decide +kernel
theorem dX9_init_301 : decode cX9_init 301 = .ok (.putfield 37, 3) := by decide +kernel
theorem dX9_init_304 : decode cX9_init 304 = .ok (.aload_n 0, 1) := by decide +kernel
theorem dX9_init_305 : decode cX9_init 305 = .ok (.bipush 6, 2) := by decide +kernel
theorem dX9_init_307 : decode cX9_init 307 = .ok (.newarray .int, 2) := by decide +kernel
theorem dX9_init_309 : decode cX9_init 309 = .ok (.putfield 40, 3) := by decide +kernel
theorem dX9_init_312 : decode cX9_init 312 = .ok (.aload_n 0, 1) := by decide +kernel
theorem dX9_init_313 : decode cX9_init 313 = .ok (.bipush 6, 2) := by decide +kernel
theorem dX9_init_315 : decode cX9_init 315 = .ok (.newarray .int, 2) := by decide +kernel
theorem dX9_init_317 : decode cX9_init 317 = .ok (.putfield 43, 3) := by decide +kernel
theorem dX9_init_320 : decode cX9_init 320 = .ok (.aload_n 0, 1) := by decide +kernel
theorem dX9_init_321 : decode cX9_init 321 = .ok (.bipush 6, 2) := by decide +kernel
theorem dX9_init_323 : decode cX9_init 323 = .ok (.newarray .int, 2) := by decide +kernel
theorem dX9_init_325 : decode cX9_init 325 = .ok (.putfield 46, 3) := by decide +kernel
theorem dX9_init_328 : decode cX9_init 328 = .ok (.aload_n 0, 1) := by decide +kernel
theorem dX9_init_329 : decode cX9_init 329 = .ok (.bipush 6, 2) := by decide +kernel
theorem dX9_init_331 : decode cX9_init 331 = .ok (.newarray .int, 2) := by decide +kernel
theorem dX9_init_333 : decode cX9_init 333 = .ok (.putfield 49, 3) := by decide +kernel
theorem dX9_init_336 : decode cX9_init 336 = .ok (.aload_n 0, 1) := by decide +kernel
theorem dX9_init_337 : decode cX9_init 337 = .ok (.bipush 6, 2) := by decide +kernel
theorem dX9_init_339 : decode cX9_init 339 = .ok (.newarray .boolean, 2) := by decide +kernel
theorem dX9_init_341 : decode cX9_init 341 = .ok (.putfield 52, 3) := by decide +kernel
theorem dX9_init_344 : decode cX9_init 344 = .ok (.aload_n 0, 1) := by decide +kernel
theorem dX9_init_345 : decode cX9_init 345 = .ok (.bipush 6, 2) := by decide +kernel
theorem dX9_init_347 : decode cX9_init 347 = .ok (.newarray .boolean, 2) := by decide +kernel
theorem dX9_init_349 : decode cX9_init 349 = .ok (.putfield 56, 3) := by decide +kernel
theorem dX9_init_352 : decode cX9_init 352 = .ok (.aload_n 0, 1) := by decide +kernel
theorem dX9_init_353 : decode cX9_init 353 = .ok (.bipush 6, 2) := by decide +kernel
theorem dX9_init_355 : decode cX9_init 355 = .ok (.newarray .int, 2) := by decide +kernel
theorem dX9_init_357 : decode cX9_init 357 = .ok (.putfield 59, 3) := by decide +kernel
theorem dX9_init_360 : decode cX9_init 360 = .ok (.aload_n 0, 1) := by decide +kernel
theorem dX9_init_361 : decode cX9_init 361 = .ok (.bipush 6, 2) := by decide +kernel
theorem dX9_init_363 : decode cX9_init 363 = .ok (.newarray .int, 2) := by decide +kernel
theorem dX9_init_365 : decode cX9_init 365 = .ok (.putfield 62, 3) := by decide +kernel
theorem dX9_init_368 : decode cX9_init 368 = .ok (.aload_n 0, 1) := by decide +kernel
theorem dX9_init_369 : decode cX9_init 369 = .ok (.bipush 6, 2) := by decide +kernel
theorem dX9_init_371 : decode cX9_init 371 = .ok (.newarray .int, 2) := by decide +kernel
theorem dX9_init_373 : decode cX9_init 373 = .ok (.putfield 65, 3) := by decide +kernel
theorem dX9_init_376 : decode cX9_init 376 = .ok (.aload_n 0, 1) := by decide +kernel
theorem dX9_init_377 : decode cX9_init 377 = .ok (.bipush 6, 2) := by decide +kernel
theorem dX9_init_379 : decode cX9_init 379 = .ok (.newarray .int, 2) := by decide +kernel
theorem dX9_init_381 : decode cX9_init 381 = .ok (.putfield 68, 3) := by decide +kernel
theorem dX9_init_384 : decode cX9_init 384 = .ok (.aload_n 0, 1) := by decide +kernel
theorem dX9_init_385 : decode cX9_init 385 = .ok (.bipush 6, 2) := by decide +kernel
theorem dX9_init_387 : decode cX9_init 387 = .ok (.newarray .int, 2) := by decide +kernel
theorem dX9_init_389 : decode cX9_init 389 = .ok (.putfield 71, 3) := by decide +kernel
theorem dX9_init_392 : decode cX9_init 392 = .ok (.aload_n 0, 1) := by decide +kernel
theorem dX9_init_393 : decode cX9_init 393 = .ok (.bipush 6, 2) := by decide +kernel
theorem dX9_init_395 : decode cX9_init 395 = .ok (.newarray .int, 2) := by decide +kernel
theorem dX9_init_397 : decode cX9_init 397 = .ok (.putfield 74, 3) := by decide +kernel
theorem dX9_init_400 : decode cX9_init 400 = .ok (.aload_n 0, 1) := by decide +kernel
theorem dX9_init_401 : decode cX9_init 401 = .ok (.bipush 6, 2) := by decide +kernel
theorem dX9_init_403 : decode cX9_init 403 = .ok (.newarray .int, 2) := by decide +kernel
theorem dX9_init_405 : decode cX9_init 405 = .ok (.putfield 77, 3) := by decide +kernel
theorem dX9_init_408 : decode cX9_init 408 = .ok (.aload_n 0, 1) := by decide +kernel
theorem dX9_init_409 : decode cX9_init 409 = .ok (.bipush 6, 2) := by decide +kernel
theorem dX9_init_411 : decode cX9_init 411 = .ok (.newarray .int, 2) := by decide +kernel
theorem dX9_init_413 : decode cX9_init 413 = .ok (.putfield 80, 3) := by decide +kernel
theorem dX9_init_416 : decode cX9_init 416 = .ok (.aload_n 0, 1) := by decide +kernel
theorem dX9_init_417 : decode cX9_init 417 = .ok (.bipush 6, 2) := by decide +kernel
theorem dX9_init_419 : decode cX9_init 419 = .ok (.newarray .int, 2) := by decide +kernel
theorem dX9_init_421 : decode cX9_init 421 = .ok (.putfield 83, 3) := by decide +kernel
theorem dX9_init_424 : decode cX9_init 424 = .ok (.aload_n 0, 1) := by decide +kernel
theorem dX9_init_425 : decode cX9_init 425 = .ok (.bipush 6, 2) := by decide +kernel
theorem dX9_init_427 : decode cX9_init 427 = .ok (.newarray .int, 2) := by decide +kernel
theorem dX9_init_429 : decode cX9_init 429 = .ok (.putfield 86, 3) := by decide +kernel
theorem dX9_init_432 : decode cX9_init 432 = .ok (.aload_n 0, 1) := by decide +kernel
theorem dX9_init_433 : decode cX9_init 433 = .ok (.bipush 48, 2) := by decide +kernel
theorem dX9_init_435 : decode cX9_init 435 = .ok (.newarray .int, 2) := by decide +kernel
theorem dX9_init_437 : decode cX9_init 437 = .ok (.putfield 89, 3) := by decide +kernel
theorem dX9_init_440 : decode cX9_init 440 = .ok (.aload_n 0, 1) := by decide +kernel
theorem dX9_init_441 : decode cX9_init 441 = .ok (.bipush 48, 2) := by decide +kernel
theorem dX9_init_443 : decode cX9_init 443 = .ok (.newarray .int, 2) := by decide +kernel
theorem dX9_init_445 : decode cX9_init 445 = .ok (.putfield 92, 3) := by decide +kernel
theorem dX9_init_448 : decode cX9_init 448 = .ok (.aload_n 0, 1) := by decide +kernel
theorem dX9_init_449 : decode cX9_init 449 = .ok (.bipush 36, 2) := by decide +kernel
theorem dX9_init_451 : decode cX9_init 451 = .ok (.newarray .int, 2) := by decide +kernel
theorem dX9_init_453 : decode cX9_init 453 = .ok (.putfield 95, 3) := by decide +kernel
theorem dX9_init_456 : decode cX9_init 456 = .ok (.aload_n 0, 1) := by decide +kernel
theorem dX9_init_457 : decode cX9_init 457 = .ok (.bipush 36, 2) := by decide +kernel
theorem dX9_init_459 : decode cX9_init 459 = .ok (.newarray .int, 2) := by decide +kernel
theorem dX9_init_461 : decode cX9_init 461 = .ok (.putfield 98, 3) := by decide +kernel
theorem dX9_init_464 : decode cX9_init 464 = .ok (.aload_n 0, 1) := by decide +kernel
theorem dX9_init_465 : decode cX9_init 465 = .ok (.iconst 5, 1) := by decide +kernel
theorem dX9_init_466 : decode cX9_init 466 = .ok (.putfield 101, 3) := by decide +kernel
theorem dX9_init_469 : decode cX9_init 469 = .ok (.aload_n 0, 1) := by decide +kernel
theorem dX9_init_470 : decode cX9_init 470 = .ok (.bipush 12, 2) := by decide +kernel
theorem dX9_init_472 : decode cX9_init 472 = .ok (.newarray .int, 2) := by decide +kernel
theorem dX9_init_474 : decode cX9_init 474 = .ok (.putfield 105, 3) := by decide +kernel
theorem dX9_init_477 : decode cX9_init 477 = .ok (.aload_n 0, 1) := by decide +kernel
theorem dX9_init_478 : decode cX9_init 478 = .ok (.sipush 180, 3) := by decide +kernel
theorem dX9_init_481 : decode cX9_init 481 = .ok (.newarray .int, 2) := by decide +kernel
theorem dX9_init_483 : decode cX9_init 483 = .ok (.putfield 108, 3) := by decide +kernel
theorem dX9_init_486 : decode cX9_init 486 = .ok (.return_, 1) := by decide +kernel
theorem dX9_in_0 : decode cX9_in 0 = .ok (.iload_n 0, 1) := by decide +kernel
theorem dX9_in_1 : decode cX9_in 1 = .ok (.iload_n 1, 1) := by decide +kernel
theorem dX9_in_2 : decode cX9_in 2 = .ok (.if_icmp .lt 12, 3) := by decide +kernel
theorem dX9_in_5 : decode cX9_in 5 = .ok (.iload_n 0, 1) := by decide +kernel
theorem dX9_in_6 : decode cX9_in 6 = .ok (.iload_n 2, 1) := by decide +kernel
theorem dX9_in_7 : decode cX9_in 7 = .ok (.if_icmp .gt 7, 3) := by decide +kernel
theorem dX9_in_10 : decode cX9_in 10 = .ok (.iconst 1, 1) := by decide +kernel
theorem dX9_in_11 : decode cX9_in 11 = .ok (.goto 4, 3) := by decide +kernel
theorem dX9_in_14 : decode cX9_in 14 = .ok (.iconst 0, 1) := by decide +kernel
theorem dX9_in_15 : decode cX9_in 15 = .ok (.ireturn, 1) := by decide +kernel
theorem dX9_make_0 : decode cX9_make 0 = .ok (.aload_n 0, 1) := by decide +kernel
theorem dX9_make_1 : decode cX9_make 1 = .ok (.getfield 111, 3) := by decide +kernel
theorem dX9_make_4 : decode cX9_make 4 = .ok (.istore_n 3, 1) := by decide +kernel
theorem dX9_make_5 : decode cX9_make 5 = .ok (.aload_n 0, 1) := by decide +kernel
theorem dX9_make_6 : decode cX9_make 6 = .ok (.getfield 7, 3) := by decide +kernel
theorem dX9_make_9 : decode cX9_make 9 = .ok (.iload_n 3, 1) := by decide +kernel
theorem dX9_make_10 : decode cX9_make 10 = .ok (.iload_n 1, 1) := by decide +kernel
theorem dX9_make_11 : decode cX9_make 11 = .ok (.iastore, 1) := by decide +kernel
theorem dX9_make_12 : decode cX9_make 12 = .ok (.aload_n 0, 1) := by decide +kernel
theorem dX9_make_13 : decode cX9_make 13 = .ok (.getfield 13, 3) := by decide +kernel
theorem dX9_make_16 : decode cX9_make 16 = .ok (.iload_n 3, 1) := by decide +kernel
theorem dX9_make_17 : decode cX9_make 17 = .ok (.iconst 0, 1) := by decide +kernel
theorem dX9_make_18 : decode cX9_make 18 = .ok (.iastore, 1) := by decide +kernel
theorem dX9_make_19 : decode cX9_make 19 = .ok (.aload_n 0, 1) := by decide +kernel
theorem dX9_make_20 : decode cX9_make 20 = .ok (.getfield 16, 3) := by decide +kernel
theorem dX9_make_23 : decode cX9_make 23 = .ok (.iload_n 3, 1) := by decide +kernel
theorem dX9_make_24 : decode cX9_make 24 = .ok (.iload_n 1, 1) := by decide +kernel
theorem dX9_make_25 : decode cX9_make 25 = .ok (.iconst 3, 1) := by decide +kernel
theorem dX9_make_26 : decode cX9_make 26 = .ok (.if_icmp .le 7, 3) := by decide +kernel
theorem dX9_make_29 : decode cX9_make 29 = .ok (.iload_n 2, 1) := by decide +kernel
theorem dX9_make_30 : decode cX9_make 30 = .ok (.goto 4, 3) := by decide +kernel
theorem dX9_make_33 : decode cX9_make 33 = .ok (.iconst 0, 1) := by decide +kernel
theorem dX9_make_34 : decode cX9_make 34 = .ok (.iastore, 1) := by decide +kernel
theorem dX9_make_35 : decode cX9_make 35 = .ok (.aload_n 0, 1) := by decide +kernel
theorem dX9_make_36 : decode cX9_make 36 = .ok (.getfield 22, 3) := by decide +kernel
theorem dX9_make_39 : decode cX9_make 39 = .ok (.iload_n 3, 1) := by decide +kernel
theorem dX9_make_40 : decode cX9_make 40 = .ok (.bipush (-4), 2) := by decide +kernel
theorem dX9_make_42 : decode cX9_make 42 = .ok (.iastore, 1) := by decide +kernel
theorem dX9_make_43 : decode cX9_make 43 = .ok (.aload_n 0, 1) := by decide +kernel
theorem dX9_make_44 : decode cX9_make 44 = .ok (.getfield 25, 3) := by decide +kernel
theorem dX9_make_47 : decode cX9_make 47 = .ok (.iload_n 3, 1) := by decide +kernel
theorem dX9_make_48 : decode cX9_make 48 = .ok (.iconst 0, 1) := by decide +kernel
theorem dX9_make_49 : decode cX9_make 49 = .ok (.iastore, 1) := by decide +kernel
theorem dX9_make_50 : decode cX9_make 50 = .ok (.iconst 0, 1) := by decide +kernel
theorem dX9_make_51 : decode cX9_make 51 = .ok (.istore 4, 2) := by decide +kernel
theorem dX9_make_53 : decode cX9_make 53 = .ok (.iload 4, 2) := by decide +kernel
theorem dX9_make_55 : decode cX9_make 55 = .ok (.bipush 12, 2) := by decide +kernel
theorem dX9_make_57 : decode cX9_make 57 = .ok (.if_icmp .ge 32, 3) := by decide +kernel
theorem dX9_make_60 : decode cX9_make 60 = .ok (.aload_n 0, 1) := by decide +kernel
theorem dX9_make_61 : decode cX9_make 61 = .ok (.getfield 19, 3) := by decide +kernel
theorem dX9_make_64 : decode cX9_make 64 = .ok (.bipush 12, 2) := by decide +kernel
theorem dX9_make_66 : decode cX9_make 66 = .ok (.iload_n 3, 1) := by decide +kernel
theorem dX9_make_67 : decode cX9_make 67 = .ok (.imul, 1) := by decide +kernel
theorem dX9_make_68 : decode cX9_make 68 = .ok (.iload 4, 2) := by decide +kernel
theorem dX9_make_70 : decode cX9_make 70 = .ok (.iadd, 1) := by decide +kernel
theorem dX9_make_71 : decode cX9_make 71 = .ok (.iload_n 1, 1) := by decide +kernel
theorem dX9_make_72 : decode cX9_make 72 = .ok (.iconst 5, 1) := by decide +kernel
theorem dX9_make_73 : decode cX9_make 73 = .ok (.if_icmp .le 8, 3) := by decide +kernel
theorem dX9_make_76 : decode cX9_make 76 = .ok (.bipush (-4), 2) := by decide +kernel
theorem dX9_make_78 : decode cX9_make 78 = .ok (.goto 4, 3) := by decide +kernel
theorem dX9_make_81 : decode cX9_make 81 = .ok (.iconst 0, 1) := by decide +kernel
theorem dX9_make_82 : decode cX9_make 82 = .ok (.iastore, 1) := by decide +kernel
theorem dX9_make_83 : decode cX9_make 83 = .ok (.iinc 4 1, 3) := by decide +kernel
theorem dX9_make_86 : decode cX9_make 86 = .ok (.goto (-33), 3) := by decide +kernel
theorem dX9_make_89 : decode cX9_make 89 = .ok (.aload_n 0, 1) := by decide +kernel
theorem dX9_make_90 : decode cX9_make 90 = .ok (.dup, 1) := by decide +kernel
theorem dX9_make_91 : decode cX9_make 91 = .ok (.getfield 111, 3) := by decide +kernel
theorem dX9_make_94 : decode cX9_make 94 = .ok (.iconst 1, 1) := by decide +kernel
theorem dX9_make_95 : decode cX9_make 95 = .ok (.iadd, 1) := by decide +kernel
theorem dX9_make_96 : decode cX9_make 96 = .ok (.putfield 111, 3) := by decide +kernel
theorem dX9_make_99 : decode cX9_make 99 = .ok (.iload_n 3, 1) := by decide +kernel
theorem dX9_make_100 : decode cX9_make 100 = .ok (.ireturn, 1) := by decide +kernel
theorem dX9_thing_0 : decode cX9_thing 0 = .ok (.iload_n 1, 1) := by decide +kernel
theorem dX9_thing_1 : decode cX9_thing 1 = .ok (.iconst 0, 1) := by decide +kernel
theorem dX9_thing_2 : decode cX9_thing 2 = .ok (.bipush 7, 2) := by decide +kernel
theorem dX9_thing_4 : decode cX9_thing 4 = .ok (.invokestatic 114, 3) := by decide +kernel
theorem dX9_thing_7 : decode cX9_thing 7 = .ok (.ifCond .eq 18, 3) := by decide +kernel
theorem dX9_thing_10 : decode cX9_thing 10 = .ok (.iload_n 1, 1) := by decide +kernel
theorem dX9_thing_11 : decode cX9_thing 11 = .ok (.iconst 3, 1) := by decide +kernel
theorem dX9_thing_12 : decode cX9_thing 12 = .ok (.if_icmp .le 15, 3) := by decide +kernel
theorem dX9_thing_15 : decode cX9_thing 15 = .ok (.iload_n 2, 1) := by decide +kernel
theorem dX9_thing_16 : decode cX9_thing 16 = .ok (.iconst 0, 1) := by decide +kernel
theorem dX9_thing_17 : decode cX9_thing 17 = .ok (.bipush 12, 2) := by decide +kernel
theorem dX9_thing_19 : decode cX9_thing 19 = .ok (.invokestatic 114, 3) := by decide +kernel
theorem dX9_thing_22 : decode cX9_thing 22 = .ok (.ifCond .ne 5, 3) := by decide +kernel
theorem dX9_thing_25 : decode cX9_thing 25 = .ok (.iconst (-1), 1) := by decide +kernel
theorem dX9_thing_26 : decode cX9_thing 26 = .ok (.ireturn, 1) := by decide +kernel
theorem dX9_thing_27 : decode cX9_thing 27 = .ok (.aload_n 0, 1) := by decide +kernel
theorem dX9_thing_28 : decode cX9_thing 28 = .ok (.getfield 111, 3) := by decide +kernel
theorem dX9_thing_31 : decode cX9_thing 31 = .ok (.bipush 32, 2) := by decide +kernel
theorem dX9_thing_33 : decode cX9_thing 33 = .ok (.if_icmp .ne 8, 3) := by decide +kernel
theorem dX9_thing_36 : decode cX9_thing 36 = .ok (.bipush (-3), 2) := by decide +kernel
theorem dX9_thing_38 : decode cX9_thing 38 = .ok (.goto 9, 3) := by decide +kernel
theorem dX9_thing_41 : decode cX9_thing 41 = .ok (.aload_n 0, 1) := by decide +kernel
theorem dX9_thing_42 : decode cX9_thing 42 = .ok (.iload_n 1, 1) := by decide +kernel
theorem dX9_thing_43 : decode cX9_thing 43 = .ok (.iload_n 2, 1) := by decide +kernel
theorem dX9_thing_44 : decode cX9_thing 44 = .ok (.invokevirtual 118, 3) := by decide +kernel
theorem dX9_thing_47 : decode cX9_thing 47 = .ok (.ireturn, 1) := by decide +kernel
theorem dX9_isThing_0 : decode cX9_isThing 0 = .ok (.iload_n 1, 1) := by decide +kernel
theorem dX9_isThing_1 : decode cX9_isThing 1 = .ok (.iconst 0, 1) := by decide +kernel
theorem dX9_isThing_2 : decode cX9_isThing 2 = .ok (.aload_n 0, 1) := by decide +kernel
theorem dX9_isThing_3 : decode cX9_isThing 3 = .ok (.getfield 111, 3) := by decide +kernel
theorem dX9_isThing_6 : decode cX9_isThing 6 = .ok (.iconst 1, 1) := by decide +kernel
theorem dX9_isThing_7 : decode cX9_isThing 7 = .ok (.isub, 1) := by decide +kernel
theorem dX9_isThing_8 : decode cX9_isThing 8 = .ok (.invokestatic 114, 3) := by decide +kernel
theorem dX9_isThing_11 : decode cX9_isThing 11 = .ok (.ireturn, 1) := by decide +kernel
theorem dX9_isBox_0 : decode cX9_isBox 0 = .ok (.aload_n 0, 1) := by decide +kernel
theorem dX9_isBox_1 : decode cX9_isBox 1 = .ok (.getfield 7, 3) := by decide +kernel
theorem dX9_isBox_4 : decode cX9_isBox 4 = .ok (.iload_n 1, 1) := by decide +kernel
theorem dX9_isBox_5 : decode cX9_isBox 5 = .ok (.iaload, 1) := by decide +kernel
theorem dX9_isBox_6 : decode cX9_isBox 6 = .ok (.iconst 1, 1) := by decide +kernel
theorem dX9_isBox_7 : decode cX9_isBox 7 = .ok (.iconst 3, 1) := by decide +kernel
theorem dX9_isBox_8 : decode cX9_isBox 8 = .ok (.invokestatic 114, 3) := by decide +kernel
theorem dX9_isBox_11 : decode cX9_isBox 11 = .ok (.ireturn, 1) := by decide +kernel
theorem dX9_howMany_0 : decode cX9_howMany 0 = .ok (.iconst 0, 1) := by decide +kernel
theorem dX9_howMany_1 : decode cX9_howMany 1 = .ok (.istore_n 3, 1) := by decide +kernel
theorem dX9_howMany_2 : decode cX9_howMany 2 = .ok (.iconst 0, 1) := by decide +kernel
theorem dX9_howMany_3 : decode cX9_howMany 3 = .ok (.istore 4, 2) := by decide +kernel
theorem dX9_howMany_5 : decode cX9_howMany 5 = .ok (.iload 4, 2) := by decide +kernel
theorem dX9_howMany_7 : decode cX9_howMany 7 = .ok (.bipush 6, 2) := by decide +kernel
theorem dX9_howMany_9 : decode cX9_howMany 9 = .ok (.if_icmp .ge 39, 3) := by decide +kernel
theorem dX9_howMany_12 : decode cX9_howMany 12 = .ok (.iload_n 3, 1) := by decide +kernel
theorem dX9_howMany_13 : decode cX9_howMany 13 = .ok (.aload_n 0, 1) := by decide +kernel
theorem dX9_howMany_14 : decode cX9_howMany 14 = .ok (.getfield 40, 3) := by decide +kernel
theorem dX9_howMany_17 : decode cX9_howMany 17 = .ok (.iload 4, 2) := by decide +kernel
theorem dX9_howMany_19 : decode cX9_howMany 19 = .ok (.iaload, 1) := by decide +kernel
theorem dX9_howMany_20 : decode cX9_howMany 20 = .ok (.iload_n 2, 1) := by decide +kernel
theorem dX9_howMany_21 : decode cX9_howMany 21 = .ok (.if_icmp .ne 18, 3) := by decide +kernel
theorem dX9_howMany_24 : decode cX9_howMany 24 = .ok (.aload_n 0, 1) := by decide +kernel
theorem dX9_howMany_25 : decode cX9_howMany 25 = .ok (.getfield 65, 3) := by decide +kernel
theorem dX9_howMany_28 : decode cX9_howMany 28 = .ok (.iload 4, 2) := by decide +kernel
theorem dX9_howMany_30 : decode cX9_howMany 30 = .ok (.iaload, 1) := by decide +kernel
theorem dX9_howMany_31 : decode cX9_howMany 31 = .ok (.iload_n 1, 1) := by decide +kernel
theorem dX9_howMany_32 : decode cX9_howMany 32 = .ok (.if_icmp .ne 7, 3) := by decide +kernel
theorem dX9_howMany_35 : decode cX9_howMany 35 = .ok (.iconst 1, 1) := by decide +kernel
theorem dX9_howMany_36 : decode cX9_howMany 36 = .ok (.goto 4, 3) := by decide +kernel
theorem dX9_howMany_39 : decode cX9_howMany 39 = .ok (.iconst 0, 1) := by decide +kernel
theorem dX9_howMany_40 : decode cX9_howMany 40 = .ok (.iadd, 1) := by decide +kernel
theorem dX9_howMany_41 : decode cX9_howMany 41 = .ok (.istore_n 3, 1) := by decide +kernel
theorem dX9_howMany_42 : decode cX9_howMany 42 = .ok (.iinc 4 1, 3) := by decide +kernel
theorem dX9_howMany_45 : decode cX9_howMany 45 = .ok (.goto (-40), 3) := by decide +kernel
theorem dX9_howMany_48 : decode cX9_howMany 48 = .ok (.iload_n 3, 1) := by decide +kernel
theorem dX9_howMany_49 : decode cX9_howMany 49 = .ok (.ireturn, 1) := by decide +kernel
theorem dX9_of_0 : decode cX9_of 0 = .ok (.aload_n 0, 1) := by decide +kernel
theorem dX9_of_1 : decode cX9_of 1 = .ok (.iload_n 1, 1) := by decide +kernel
theorem dX9_of_2 : decode cX9_of 2 = .ok (.invokevirtual 122, 3) := by decide +kernel
theorem dX9_of_5 : decode cX9_of 5 = .ok (.ifCond .eq 12, 3) := by decide +kernel
theorem dX9_of_8 : decode cX9_of 8 = .ok (.iload_n 2, 1) := by decide +kernel
theorem dX9_of_9 : decode cX9_of 9 = .ok (.iconst 0, 1) := by decide +kernel
theorem dX9_of_10 : decode cX9_of 10 = .ok (.iconst 5, 1) := by decide +kernel
theorem dX9_of_11 : decode cX9_of 11 = .ok (.invokestatic 114, 3) := by decide +kernel
theorem dX9_of_14 : decode cX9_of 14 = .ok (.ifCond .ne 5, 3) := by decide +kernel
theorem dX9_of_17 : decode cX9_of 17 = .ok (.iconst (-1), 1) := by decide +kernel
theorem dX9_of_18 : decode cX9_of 18 = .ok (.ireturn, 1) := by decide +kernel
theorem dX9_of_19 : decode cX9_of 19 = .ok (.iload_n 2, 1) := by decide +kernel
theorem dX9_of_20 : decode cX9_of 20 = .ok (.tableswitch 77 0 3 #[32, 39, 63, 70], 32) := by decide +kernel
theorem dX9_of_52 : decode cX9_of 52 = .ok (.aload_n 0, 1) := by decide +kernel
theorem dX9_of_53 : decode cX9_of 53 = .ok (.getfield 7, 3) := by decide +kernel
theorem dX9_of_56 : decode cX9_of 56 = .ok (.iload_n 1, 1) := by decide +kernel
theorem dX9_of_57 : decode cX9_of 57 = .ok (.iaload, 1) := by decide +kernel
theorem dX9_of_58 : decode cX9_of 58 = .ok (.ireturn, 1) := by decide +kernel
theorem dX9_of_59 : decode cX9_of 59 = .ok (.aload_n 0, 1) := by decide +kernel
theorem dX9_of_60 : decode cX9_of 60 = .ok (.iload_n 1, 1) := by decide +kernel
theorem dX9_of_61 : decode cX9_of 61 = .ok (.invokevirtual 126, 3) := by decide +kernel
theorem dX9_of_64 : decode cX9_of 64 = .ok (.ifCond .eq 12, 3) := by decide +kernel
theorem dX9_of_67 : decode cX9_of 67 = .ok (.aload_n 0, 1) := by decide +kernel
theorem dX9_of_68 : decode cX9_of 68 = .ok (.getfield 13, 3) := by decide +kernel
theorem dX9_of_71 : decode cX9_of 71 = .ok (.iload_n 1, 1) := by decide +kernel
theorem dX9_of_72 : decode cX9_of 72 = .ok (.iaload, 1) := by decide +kernel
theorem dX9_of_73 : decode cX9_of 73 = .ok (.goto 9, 3) := by decide +kernel
theorem dX9_of_76 : decode cX9_of 76 = .ok (.aload_n 0, 1) := by decide +kernel
theorem dX9_of_77 : decode cX9_of 77 = .ok (.getfield 16, 3) := by decide +kernel
theorem dX9_of_80 : decode cX9_of 80 = .ok (.iload_n 1, 1) := by decide +kernel
theorem dX9_of_81 : decode cX9_of 81 = .ok (.iaload, 1) := by decide +kernel
theorem dX9_of_82 : decode cX9_of 82 = .ok (.ireturn, 1) := by decide +kernel
theorem dX9_of_83 : decode cX9_of 83 = .ok (.aload_n 0, 1) := by decide +kernel
theorem dX9_of_84 : decode cX9_of 84 = .ok (.getfield 22, 3) := by decide +kernel
theorem dX9_of_87 : decode cX9_of 87 = .ok (.iload_n 1, 1) := by decide +kernel
theorem dX9_of_88 : decode cX9_of 88 = .ok (.iaload, 1) := by decide +kernel
