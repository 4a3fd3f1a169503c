theorem dX0_init_0 : decode cX0_init 0 = .ok (.aload_n 0, 1) := by decide +kernel
theorem dX0_init_1 : decode cX0_init 1 = .ok (.invokespecial 3, 3) := by decide +kernel
theorem dX0_init_4 : decode cX0_init 4 = .ok (.aload_n 0, 1) := by decide +kernel
theorem dX0_init_5 : decode cX0_init 5 = .ok (.iconst 4, 1) := by decide +kernel
theorem dX0_init_6 : decode cX0_init 6 = .ok (.newarray .int, 2) := by decide +kernel
theorem dX0_init_8 : decode cX0_init 8 = .ok (.putfield 9, 3) := by decide +kernel
theorem dX0_init_11 : decode cX0_init 11 = .ok (.aload_n 0, 1) := by decide +kernel
theorem dX0_init_12 : decode cX0_init 12 = .ok (.iconst 0, 1) := by decide +kernel
theorem dX0_init_13 : decode cX0_init 13 = .ok (.putfield 15, 3) := by decide +kernel
theorem dX0_init_16 : decode cX0_init 16 = .ok (.return_, 1) := by decide +kernel
theorem dX0_copyFrom_0 : decode cX0_copyFrom 0 = .ok (.aload_n 1, 1) := by decide +kernel
theorem dX0_copyFrom_1 : decode cX0_copyFrom 1 = .ok (.getfield 9, 3) := by decide +kernel
theorem dX0_copyFrom_4 : decode cX0_copyFrom 4 = .ok (.iconst 0, 1) := by decide +kernel
theorem dX0_copyFrom_5 : decode cX0_copyFrom 5 = .ok (.aload_n 0, 1) := by decide +kernel
theorem dX0_copyFrom_6 : decode cX0_copyFrom 6 = .ok (.getfield 9, 3) := by decide +kernel
theorem dX0_copyFrom_9 : decode cX0_copyFrom 9 = .ok (.iconst 0, 1) := by decide +kernel
theorem dX0_copyFrom_10 : decode cX0_copyFrom 10 = .ok (.iconst 4, 1) := by decide +kernel
theorem dX0_copyFrom_11 : decode cX0_copyFrom 11 = .ok (.invokestatic 19, 3) := by decide +kernel
theorem dX0_copyFrom_14 : decode cX0_copyFrom 14 = .ok (.aload_n 0, 1) := by decide +kernel
theorem dX0_copyFrom_15 : decode cX0_copyFrom 15 = .ok (.aload_n 1, 1) := by decide +kernel
theorem dX0_copyFrom_16 : decode cX0_copyFrom 16 = .ok (.getfield 15, 3) := by decide +kernel
theorem dX0_copyFrom_19 : decode cX0_copyFrom 19 = .ok (.putfield 15, 3) := by decide +kernel
theorem dX0_copyFrom_22 : decode cX0_copyFrom 22 = .ok (.return_, 1) := by decide +kernel
theorem dX0_rankOf_0 : decode cX0_rankOf 0 = .ok (.iconst 0, 1) := by decide +kernel
theorem dX0_rankOf_1 : decode cX0_rankOf 1 = .ok (.istore_n 2, 1) := by decide +kernel
theorem dX0_rankOf_2 : decode cX0_rankOf 2 = .ok (.iload_n 2, 1) := by decide +kernel
theorem dX0_rankOf_3 : decode cX0_rankOf 3 = .ok (.aload_n 0, 1) := by decide +kernel
theorem dX0_rankOf_4 : decode cX0_rankOf 4 = .ok (.getfield 15, 3) := by decide +kernel
theorem dX0_rankOf_7 : decode cX0_rankOf 7 = .ok (.if_icmp .ge 26, 3) := by decide +kernel
theorem dX0_rankOf_10 : decode cX0_rankOf 10 = .ok (.iload_n 2, 1) := by decide +kernel
theorem dX0_rankOf_11 : decode cX0_rankOf 11 = .ok (.iconst 4, 1) := by decide +kernel
theorem dX0_rankOf_12 : decode cX0_rankOf 12 = .ok (.if_icmp .ge 21, 3) := by decide +kernel
theorem dX0_rankOf_15 : decode cX0_rankOf 15 = .ok (.aload_n 0, 1) := by decide +kernel
theorem dX0_rankOf_16 : decode cX0_rankOf 16 = .ok (.getfield 9, 3) := by decide +kernel
theorem dX0_rankOf_19 : decode cX0_rankOf 19 = .ok (.iload_n 2, 1) := by decide +kernel
theorem dX0_rankOf_20 : decode cX0_rankOf 20 = .ok (.iaload, 1) := by decide +kernel
theorem dX0_rankOf_21 : decode cX0_rankOf 21 = .ok (.iload_n 1, 1) := by decide +kernel
theorem dX0_rankOf_22 : decode cX0_rankOf 22 = .ok (.if_icmp .ne 5, 3) := by decide +kernel
theorem dX0_rankOf_25 : decode cX0_rankOf 25 = .ok (.iload_n 2, 1) := by decide +kernel
theorem dX0_rankOf_26 : decode cX0_rankOf 26 = .ok (.ireturn, 1) := by decide +kernel
theorem dX0_rankOf_27 : decode cX0_rankOf 27 = .ok (.iinc 2 1, 3) := by decide +kernel
theorem dX0_rankOf_30 : decode cX0_rankOf 30 = .ok (.goto (-28), 3) := by decide +kernel
theorem dX0_rankOf_33 : decode cX0_rankOf 33 = .ok (.iconst (-1), 1) := by decide +kernel
theorem dX0_rankOf_34 : decode cX0_rankOf 34 = .ok (.ireturn, 1) := by decide +kernel
theorem dX0_putFirst_0 : decode cX0_putFirst 0 = .ok (.aload_n 0, 1) := by decide +kernel
theorem dX0_putFirst_1 : decode cX0_putFirst 1 = .ok (.iload_n 1, 1) := by decide +kernel
theorem dX0_putFirst_2 : decode cX0_putFirst 2 = .ok (.invokevirtual 25, 3) := by decide +kernel
theorem dX0_putFirst_5 : decode cX0_putFirst 5 = .ok (.iload_n 2, 1) := by decide +kernel
theorem dX0_putFirst_6 : decode cX0_putFirst 6 = .ok (.iconst 4, 1) := by decide +kernel
theorem dX0_putFirst_7 : decode cX0_putFirst 7 = .ok (.invokestatic 29, 3) := by decide +kernel
theorem dX0_putFirst_10 : decode cX0_putFirst 10 = .ok (.istore_n 3, 1) := by decide +kernel
theorem dX0_putFirst_11 : decode cX0_putFirst 11 = .ok (.iload_n 3, 1) := by decide +kernel
theorem dX0_putFirst_12 : decode cX0_putFirst 12 = .ok (.iconst 1, 1) := by decide +kernel
theorem dX0_putFirst_13 : decode cX0_putFirst 13 = .ok (.if_icmp .ge 4, 3) := by decide +kernel
theorem dX0_putFirst_16 : decode cX0_putFirst 16 = .ok (.return_, 1) := by decide +kernel
theorem dX0_putFirst_17 : decode cX0_putFirst 17 = .ok (.aload_n 0, 1) := by decide +kernel
theorem dX0_putFirst_18 : decode cX0_putFirst 18 = .ok (.iload_n 3, 1) := by decide +kernel
theorem dX0_putFirst_19 : decode cX0_putFirst 19 = .ok (.iconst 1, 1) := by decide +kernel
theorem dX0_putFirst_20 : decode cX0_putFirst 20 = .ok (.isub, 1) := by decide +kernel
theorem dX0_putFirst_21 : decode cX0_putFirst 21 = .ok (.invokevirtual 35, 3) := by decide +kernel
theorem dX0_putFirst_24 : decode cX0_putFirst 24 = .ok (.aload_n 0, 1) := by decide +kernel
theorem dX0_putFirst_25 : decode cX0_putFirst 25 = .ok (.getfield 15, 3) := by decide +kernel
theorem dX0_putFirst_28 : decode cX0_putFirst 28 = .ok (.istore 4, 2) := by decide +kernel
theorem dX0_putFirst_30 : decode cX0_putFirst 30 = .ok (.iload 4, 2) := by decide +kernel
theorem dX0_putFirst_32 : decode cX0_putFirst 32 = .ok (.ifCond .le 25, 3) := by decide +kernel
theorem dX0_putFirst_35 : decode cX0_putFirst 35 = .ok (.aload_n 0, 1) := by decide +kernel
theorem dX0_putFirst_36 : decode cX0_putFirst 36 = .ok (.getfield 9, 3) := by decide +kernel
theorem dX0_putFirst_39 : decode cX0_putFirst 39 = .ok (.iload 4, 2) := by decide +kernel
theorem dX0_putFirst_41 : decode cX0_putFirst 41 = .ok (.aload_n 0, 1) := by decide +kernel
theorem dX0_putFirst_42 : decode cX0_putFirst 42 = .ok (.getfield 9, 3) := by decide +kernel
theorem dX0_putFirst_45 : decode cX0_putFirst 45 = .ok (.iload 4, 2) := by decide +kernel
theorem dX0_putFirst_47 : decode cX0_putFirst 47 = .ok (.iconst 1, 1) := by decide +kernel
theorem dX0_putFirst_48 : decode cX0_putFirst 48 = .ok (.isub, 1) := by decide +kernel
theorem dX0_putFirst_49 : decode cX0_putFirst 49 = .ok (.iaload, 1) := by decide +kernel
theorem dX0_putFirst_50 : decode cX0_putFirst 50 = .ok (.iastore, 1) := by decide +kernel
theorem dX0_putFirst_51 : decode cX0_putFirst 51 = .ok (.iinc 4 (-1), 3) := by decide +kernel
theorem dX0_putFirst_54 : decode cX0_putFirst 54 = .ok (.goto (-24), 3) := by decide +kernel
theorem dX0_putFirst_57 : decode cX0_putFirst 57 = .ok (.aload_n 0, 1) := by decide +kernel
theorem dX0_putFirst_58 : decode cX0_putFirst 58 = .ok (.getfield 9, 3) := by decide +kernel
theorem dX0_putFirst_61 : decode cX0_putFirst 61 = .ok (.iconst 0, 1) := by decide +kernel
theorem dX0_putFirst_62 : decode cX0_putFirst 62 = .ok (.iload_n 1, 1) := by decide +kernel
theorem dX0_putFirst_63 : decode cX0_putFirst 63 = .ok (.iastore, 1) := by decide +kernel
theorem dX0_putFirst_64 : decode cX0_putFirst 64 = .ok (.aload_n 0, 1) := by decide +kernel
theorem dX0_putFirst_65 : decode cX0_putFirst 65 = .ok (.dup, 1) := by decide +kernel
theorem dX0_putFirst_66 : decode cX0_putFirst 66 = .ok (.getfield 15, 3) := by decide +kernel
theorem dX0_putFirst_69 : decode cX0_putFirst 69 = .ok (.iconst 1, 1) := by decide +kernel
theorem dX0_putFirst_70 : decode cX0_putFirst 70 = .ok (.iadd, 1) := by decide +kernel
theorem dX0_putFirst_71 : decode cX0_putFirst 71 = .ok (.putfield 15, 3) := by decide +kernel
theorem dX0_putFirst_74 : decode cX0_putFirst 74 = .ok (.return_, 1) := by decide +kernel
theorem dX0_drop_0 : decode cX0_drop 0 = .ok (.aload_n 0, 1) := by decide +kernel
theorem dX0_drop_1 : decode cX0_drop 1 = .ok (.iload_n 1, 1) := by decide +kernel
theorem dX0_drop_2 : decode cX0_drop 2 = .ok (.invokevirtual 38, 3) := by decide +kernel
theorem dX0_drop_5 : decode cX0_drop 5 = .ok (.istore_n 2, 1) := by decide +kernel
theorem dX0_drop_6 : decode cX0_drop 6 = .ok (.iload_n 2, 1) := by decide +kernel
theorem dX0_drop_7 : decode cX0_drop 7 = .ok (.iconst (-1), 1) := by decide +kernel
theorem dX0_drop_8 : decode cX0_drop 8 = .ok (.if_icmp .ne 4, 3) := by decide +kernel
theorem dX0_drop_11 : decode cX0_drop 11 = .ok (.return_, 1) := by decide +kernel
theorem dX0_drop_12 : decode cX0_drop 12 = .ok (.iload_n 2, 1) := by decide +kernel
theorem dX0_drop_13 : decode cX0_drop 13 = .ok (.iconst 1, 1) := by decide +kernel
theorem dX0_drop_14 : decode cX0_drop 14 = .ok (.iadd, 1) := by decide +kernel
theorem dX0_drop_15 : decode cX0_drop 15 = .ok (.istore_n 3, 1) := by decide +kernel
theorem dX0_drop_16 : decode cX0_drop 16 = .ok (.iload_n 3, 1) := by decide +kernel
theorem dX0_drop_17 : decode cX0_drop 17 = .ok (.aload_n 0, 1) := by decide +kernel
theorem dX0_drop_18 : decode cX0_drop 18 = .ok (.getfield 15, 3) := by decide +kernel
theorem dX0_drop_21 : decode cX0_drop 21 = .ok (.if_icmp .ge 28, 3) := by decide +kernel
theorem dX0_drop_24 : decode cX0_drop 24 = .ok (.iload_n 3, 1) := by decide +kernel
theorem dX0_drop_25 : decode cX0_drop 25 = .ok (.iconst 4, 1) := by decide +kernel
theorem dX0_drop_26 : decode cX0_drop 26 = .ok (.if_icmp .ge 23, 3) := by decide +kernel
theorem dX0_drop_29 : decode cX0_drop 29 = .ok (.aload_n 0, 1) := by decide +kernel
theorem dX0_drop_30 : decode cX0_drop 30 = .ok (.getfield 9, 3) := by decide +kernel
theorem dX0_drop_33 : decode cX0_drop 33 = .ok (.iload_n 3, 1) := by decide +kernel
theorem dX0_drop_34 : decode cX0_drop 34 = .ok (.iconst 1, 1) := by decide +kernel
theorem dX0_drop_35 : decode cX0_drop 35 = .ok (.isub, 1) := by decide +kernel
theorem dX0_drop_36 : decode cX0_drop 36 = .ok (.aload_n 0, 1) := by decide +kernel
theorem dX0_drop_37 : decode cX0_drop 37 = .ok (.getfield 9, 3) := by decide +kernel
theorem dX0_drop_40 : decode cX0_drop 40 = .ok (.iload_n 3, 1) := by decide +kernel
theorem dX0_drop_41 : decode cX0_drop 41 = .ok (.iaload, 1) := by decide +kernel
theorem dX0_drop_42 : decode cX0_drop 42 = .ok (.iastore, 1) := by decide +kernel
theorem dX0_drop_43 : decode cX0_drop 43 = .ok (.iinc 3 1, 3) := by decide +kernel
theorem dX0_drop_46 : decode cX0_drop 46 = .ok (.goto (-30), 3) := by decide +kernel
theorem dX0_drop_49 : decode cX0_drop 49 = .ok (.aload_n 0, 1) := by decide +kernel
theorem dX0_drop_50 : decode cX0_drop 50 = .ok (.dup, 1) := by decide +kernel
theorem dX0_drop_51 : decode cX0_drop 51 = .ok (.getfield 15, 3) := by decide +kernel
theorem dX0_drop_54 : decode cX0_drop 54 = .ok (.iconst 1, 1) := by decide +kernel
theorem dX0_drop_55 : decode cX0_drop 55 = .ok (.isub, 1) := by decide +kernel
theorem dX0_drop_56 : decode cX0_drop 56 = .ok (.putfield 15, 3) := by decide +kernel
theorem dX0_drop_59 : decode cX0_drop 59 = .ok (.return_, 1) := by decide +kernel
theorem dX0_shrinkTo_0 : decode cX0_shrinkTo 0 = .ok (.aload_n 0, 1) := by decide +kernel
theorem dX0_shrinkTo_1 : decode cX0_shrinkTo 1 = .ok (.aload_n 0, 1) := by decide +kernel
theorem dX0_shrinkTo_2 : decode cX0_shrinkTo 2 = .ok (.getfield 15, 3) := by decide +kernel
theorem dX0_shrinkTo_5 : decode cX0_shrinkTo 5 = .ok (.iload_n 1, 1) := by decide +kernel
theorem dX0_shrinkTo_6 : decode cX0_shrinkTo 6 = .ok (.invokestatic 29, 3) := by decide +kernel
theorem dX0_shrinkTo_9 : decode cX0_shrinkTo 9 = .ok (.putfield 15, 3) := by decide +kernel
theorem dX0_shrinkTo_12 : decode cX0_shrinkTo 12 = .ok (.return_, 1) := by decide +kernel
theorem dX1_init_0 : decode cX1_init 0 = .ok (.aload_n 0, 1) := by decide +kernel
theorem dX1_init_1 : decode cX1_init 1 = .ok (.invokespecial 3, 3) := by decide +kernel
theorem dX1_init_4 : decode cX1_init 4 = .ok (.aload_n 0, 1) := by decide +kernel
theorem dX1_init_5 : decode cX1_init 5 = .ok (.bipush 8, 2) := by decide +kernel
theorem dX1_init_7 : decode cX1_init 7 = .ok (.newarray .int, 2) := by decide +kernel
theorem dX1_init_9 : decode cX1_init 9 = .ok (.putfield 9, 3) := by decide +kernel
theorem dX1_init_12 : decode cX1_init 12 = .ok (.aload_n 0, 1) := by decide +kernel
theorem dX1_init_13 : decode cX1_init 13 = .ok (.bipush 8, 2) := by decide +kernel
theorem dX1_init_15 : decode cX1_init 15 = .ok (.newarray .int, 2) := by decide +kernel
theorem dX1_init_17 : decode cX1_init 17 = .ok (.putfield 15, 3) := by decide +kernel
theorem dX1_init_20 : decode cX1_init 20 = .ok (.aload_n 0, 1) := by decide +kernel
theorem dX1_init_21 : decode cX1_init 21 = .ok (.bipush 8, 2) := by decide +kernel
theorem dX1_init_23 : decode cX1_init 23 = .ok (.newarray .int, 2) := by decide +kernel
theorem dX1_init_25 : decode cX1_init 25 = .ok (.putfield 18, 3) := by decide +kernel
theorem dX1_init_28 : decode cX1_init 28 = .ok (.aload_n 0, 1) := by decide +kernel
theorem dX1_init_29 : decode cX1_init 29 = .ok (.iconst 0, 1) := by decide +kernel
theorem dX1_init_30 : decode cX1_init 30 = .ok (.putfield 21, 3) := by decide +kernel
theorem dX1_init_33 : decode cX1_init 33 = .ok (.return_, 1) := by decide +kernel
theorem dX1_copyFrom_0 : decode cX1_copyFrom 0 = .ok (.aload_n 1, 1) := by decide +kernel
theorem dX1_copyFrom_1 : decode cX1_copyFrom 1 = .ok (.getfield 9, 3) := by decide +kernel
theorem dX1_copyFrom_4 : decode cX1_copyFrom 4 = .ok (.iconst 0, 1) := by decide +kernel
theorem dX1_copyFrom_5 : decode cX1_copyFrom 5 = .ok (.aload_n 0, 1) := by decide +kernel
theorem dX1_copyFrom_6 : decode cX1_copyFrom 6 = .ok (.getfield 9, 3) := by decide +kernel
theorem dX1_copyFrom_9 : decode cX1_copyFrom 9 = .ok (.iconst 0, 1) := by decide +kernel
theorem dX1_copyFrom_10 : decode cX1_copyFrom 10 = .ok (.bipush 8, 2) := by decide +kernel
theorem dX1_copyFrom_12 : decode cX1_copyFrom 12 = .ok (.invokestatic 25, 3) := by decide +kernel
theorem dX1_copyFrom_15 : decode cX1_copyFrom 15 = .ok (.aload_n 1, 1) := by decide +kernel
theorem dX1_copyFrom_16 : decode cX1_copyFrom 16 = .ok (.getfield 15, 3) := by decide +kernel
theorem dX1_copyFrom_19 : decode cX1_copyFrom 19 = .ok (.iconst 0, 1) := by decide +kernel
theorem dX1_copyFrom_20 : decode cX1_copyFrom 20 = .ok (.aload_n 0, 1) := by decide +kernel
theorem dX1_copyFrom_21 : decode cX1_copyFrom 21 = .ok (.getfield 15, 3) := by decide +kernel
theorem dX1_copyFrom_24 : decode cX1_copyFrom 24 = .ok (.iconst 0, 1) := by decide +kernel
theorem dX1_copyFrom_25 : decode cX1_copyFrom 25 = .ok (.bipush 8, 2) := by decide +kernel
theorem dX1_copyFrom_27 : decode cX1_copyFrom 27 = .ok (.invokestatic 25, 3) := by decide +kernel
theorem dX1_copyFrom_30 : decode cX1_copyFrom 30 = .ok (.aload_n 1, 1) := by decide +kernel
theorem dX1_copyFrom_31 : decode cX1_copyFrom 31 = .ok (.getfield 18, 3) := by decide +kernel
theorem dX1_copyFrom_34 : decode cX1_copyFrom 34 = .ok (.iconst 0, 1) := by decide +kernel
theorem dX1_copyFrom_35 : decode cX1_copyFrom 35 = .ok (.aload_n 0, 1) := by decide +kernel
theorem dX1_copyFrom_36 : decode cX1_copyFrom 36 = .ok (.getfield 18, 3) := by decide +kernel
theorem dX1_copyFrom_39 : decode cX1_copyFrom 39 = .ok (.iconst 0, 1) := by decide +kernel
theorem dX1_copyFrom_40 : decode cX1_copyFrom 40 = .ok (.bipush 8, 2) := by decide +kernel
theorem dX1_copyFrom_42 : decode cX1_copyFrom 42 = .ok (.invokestatic 25, 3) := by decide +kernel
theorem dX1_copyFrom_45 : decode cX1_copyFrom 45 = .ok (.aload_n 0, 1) := by decide +kernel
theorem dX1_copyFrom_46 : decode cX1_copyFrom 46 = .ok (.aload_n 1, 1) := by decide +kernel
theorem dX1_copyFrom_47 : decode cX1_copyFrom 47 = .ok (.getfield 21, 3) := by decide +kernel
theorem dX1_copyFrom_50 : decode cX1_copyFrom 50 = .ok (.putfield 21, 3) := by decide +kernel
theorem dX1_copyFrom_53 : decode cX1_copyFrom 53 = .ok (.return_, 1) := by decide +kernel
theorem dX1_note_0 : decode cX1_note 0 = .ok (.bipush 7, 2) := by decide +kernel
theorem dX1_note_2 : decode cX1_note 2 = .ok (.istore 4, 2) := by decide +kernel
theorem dX1_note_4 : decode cX1_note 4 = .ok (.iload 4, 2) := by decide +kernel
theorem dX1_note_6 : decode cX1_note 6 = .ok (.ifCond .le 57, 3) := by decide +kernel
theorem dX1_note_9 : decode cX1_note 9 = .ok (.aload_n 0, 1) := by decide +kernel
theorem dX1_note_10 : decode cX1_note 10 = .ok (.getfield 9, 3) := by decide +kernel
theorem dX1_note_13 : decode cX1_note 13 = .ok (.iload 4, 2) := by decide +kernel
theorem dX1_note_15 : decode cX1_note 15 = .ok (.aload_n 0, 1) := by decide +kernel
theorem dX1_note_16 : decode cX1_note 16 = .ok (.getfield 9, 3) := by decide +kernel
theorem dX1_note_19 : decode cX1_note 19 = .ok (.iload 4, 2) := by decide +kernel
theorem dX1_note_21 : decode cX1_note 21 = .ok (.iconst 1, 1) := by decide +kernel
theorem dX1_note_22 : decode cX1_note 22 = .ok (.isub, 1) := by decide +kernel
theorem dX1_note_23 : decode cX1_note 23 = .ok (.iaload, 1) := by decide +kernel
theorem dX1_note_24 : decode cX1_note 24 = .ok (.iastore, 1) := by decide +kernel
theorem dX1_note_25 : decode cX1_note 25 = .ok (.aload_n 0, 1) := by decide +kernel
theorem dX1_note_26 : decode cX1_note 26 = .ok (.getfield 15, 3) := by decide +kernel
theorem dX1_note_29 : decode cX1_note 29 = .ok (.iload 4, 2) := by decide +kernel
theorem dX1_note_31 : decode cX1_note 31 = .ok (.aload_n 0, 1) := by decide +kernel
theorem dX1_note_32 : decode cX1_note 32 = .ok (.getfield 15, 3) := by decide +kernel
theorem dX1_note_35 : decode cX1_note 35 = .ok (.iload 4, 2) := by decide +kernel
theorem dX1_note_37 : decode cX1_note 37 = .ok (.iconst 1, 1) := by decide +kernel
theorem dX1_note_38 : decode cX1_note 38 = .ok (.isub, 1) := by decide +kernel
theorem dX1_note_39 : decode cX1_note 39 = .ok (.iaload, 1) := by decide +kernel
theorem dX1_note_40 : decode cX1_note 40 = .ok (.iastore, 1) := by decide +kernel
theorem dX1_note_41 : decode cX1_note 41 = .ok (.aload_n 0, 1) := by decide +kernel
theorem dX1_note_42 : decode cX1_note 42 = .ok (.getfield 18, 3) := by decide +kernel
theorem dX1_note_45 : decode cX1_note 45 = .ok (.iload 4, 2) := by decide +kernel
theorem dX1_note_47 : decode cX1_note 47 = .ok (.aload_n 0, 1) := by decide +kernel
theorem dX1_note_48 : decode cX1_note 48 = .ok (.getfield 18, 3) := by decide +kernel
theorem dX1_note_51 : decode cX1_note 51 = .ok (.iload 4, 2) := by decide +kernel
theorem dX1_note_53 : decode cX1_note 53 = .ok (.iconst 1, 1) := by decide +kernel
theorem dX1_note_54 : decode cX1_note 54 = .ok (.isub, 1) := by decide +kernel
theorem dX1_note_55 : decode cX1_note 55 = .ok (.iaload, 1) := by decide +kernel
theorem dX1_note_56 : decode cX1_note 56 = .ok (.iastore, 1) := by decide +kernel
theorem dX1_note_57 : decode cX1_note 57 = .ok (.iinc 4 (-1), 3) := by decide +kernel
theorem dX1_note_60 : decode cX1_note 60 = .ok (.goto (-56), 3) := by decide +kernel
theorem dX1_note_63 : decode cX1_note 63 = .ok (.aload_n 0, 1) := by decide +kernel
theorem dX1_note_64 : decode cX1_note 64 = .ok (.getfield 9, 3) := by decide +kernel
theorem dX1_note_67 : decode cX1_note 67 = .ok (.iconst 0, 1) := by decide +kernel
theorem dX1_note_68 : decode cX1_note 68 = .ok (.iload_n 1, 1) := by decide +kernel
theorem dX1_note_69 : decode cX1_note 69 = .ok (.iastore, 1) := by decide +kernel
theorem dX1_note_70 : decode cX1_note 70 = .ok (.aload_n 0, 1) := by decide +kernel
theorem dX1_note_71 : decode cX1_note 71 = .ok (.getfield 15, 3) := by decide +kernel
theorem dX1_note_74 : decode cX1_note 74 = .ok (.iconst 0, 1) := by decide +kernel
theorem dX1_note_75 : decode cX1_note 75 = .ok (.iload_n 2, 1) := by decide +kernel
theorem dX1_note_76 : decode cX1_note 76 = .ok (.iastore, 1) := by decide +kernel
theorem dX1_note_77 : decode cX1_note 77 = .ok (.aload_n 0, 1) := by decide +kernel
theorem dX1_note_78 : decode cX1_note 78 = .ok (.getfield 18, 3) := by decide +kernel
theorem dX1_note_81 : decode cX1_note 81 = .ok (.iconst 0, 1) := by decide +kernel
theorem dX1_note_82 : decode cX1_note 82 = .ok (.iload_n 3, 1) := by decide +kernel
theorem dX1_note_83 : decode cX1_note 83 = .ok (.iastore, 1) := by decide +kernel
theorem dX1_note_84 : decode cX1_note 84 = .ok (.aload_n 0, 1) := by decide +kernel
theorem dX1_note_85 : decode cX1_note 85 = .ok (.dup, 1) := by decide +kernel
theorem dX1_note_86 : decode cX1_note 86 = .ok (.getfield 21, 3) := by decide +kernel
theorem dX1_note_89 : decode cX1_note 89 = .ok (.iconst 1, 1) := by decide +kernel
theorem dX1_note_90 : decode cX1_note 90 = .ok (.iadd, 1) := by decide +kernel
theorem dX1_note_91 : decode cX1_note 91 = .ok (.putfield 21, 3) := by decide +kernel
theorem dX1_note_94 : decode cX1_note 94 = .ok (.return_, 1) := by decide +kernel
theorem dX2_init_0 : decode cX2_init 0 = .ok (.aload_n 0, 1) := by decide +kernel
theorem dX2_init_1 : decode cX2_init 1 = .ok (.invokespecial 3, 3) := by decide +kernel
theorem dX2_init_4 : decode cX2_init 4 = .ok (.aload_n 0, 1) := by decide +kernel
theorem dX2_init_5 : decode cX2_init 5 = .ok (.iconst 4, 1) := by decide +kernel
theorem dX2_init_6 : decode cX2_init 6 = .ok (.anewarray 9, 3) := by decide +kernel
theorem dX2_init_9 : decode cX2_init 9 = .ok (.putfield 11, 3) := by decide +kernel
theorem dX2_init_12 : decode cX2_init 12 = .ok (.aload_n 0, 1) := by decide +kernel
theorem dX2_init_13 : decode cX2_init 13 = .ok (.iconst 0, 1) := by decide +kernel
theorem dX2_init_14 : decode cX2_init 14 = .ok (.putfield 17, 3) := by decide +kernel
theorem dX2_init_17 : decode cX2_init 17 = .ok (.iconst 0, 1) := by decide +kernel
theorem dX2_init_18 : decode cX2_init 18 = .ok (.istore_n 1, 1) := by decide +kernel
theorem dX2_init_19 : decode cX2_init 19 = .ok (.iload_n 1, 1) := by decide +kernel
theorem dX2_init_20 : decode cX2_init 20 = .ok (.iconst 4, 1) := by decide +kernel
theorem dX2_init_21 : decode cX2_init 21 = .ok (.if_icmp .ge 22, 3) := by decide +kernel
theorem dX2_init_24 : decode cX2_init 24 = .ok (.aload_n 0, 1) := by decide +kernel
theorem dX2_init_25 : decode cX2_init 25 = .ok (.getfield 11, 3) := by decide +kernel
theorem dX2_init_28 : decode cX2_init 28 = .ok (.iload_n 1, 1) := by decide +kernel
theorem dX2_init_29 : decode cX2_init 29 = .ok (.new 9, 3) := by decide +kernel
theorem dX2_init_32 : decode cX2_init 32 = .ok (.dup, 1) := by decide +kernel
theorem dX2_init_33 : decode cX2_init 33 = .ok (.invokespecial 21, 3) := by decide +kernel
theorem dX2_init_36 : decode cX2_init 36 = .ok (.aastore, 1) := by decide +kernel
theorem dX2_init_37 : decode cX2_init 37 = .ok (.iinc 1 1, 3) := by decide +kernel
theorem dX2_init_40 : decode cX2_init 40 = .ok (.goto (-21), 3) := by decide +kernel
theorem dX2_init_43 : decode cX2_init 43 = .ok (.return_, 1) := by decide +kernel
theorem dX2_record_0 : decode cX2_record 0 = .ok (.aload_n 0, 1) := by decide +kernel
theorem dX2_record_1 : decode cX2_record 1 = .ok (.getfield 11, 3) := by decide +kernel
theorem dX2_record_4 : decode cX2_record 4 = .ok (.iconst 3, 1) := by decide +kernel
theorem dX2_record_5 : decode cX2_record 5 = .ok (.aaload, 1) := by decide +kernel
theorem dX2_record_6 : decode cX2_record 6 = .ok (.astore_n 2, 1) := by decide +kernel
theorem dX2_record_7 : decode cX2_record 7 = .ok (.iconst 3, 1) := by decide +kernel
theorem dX2_record_8 : decode cX2_record 8 = .ok (.istore_n 3, 1) := by decide +kernel
theorem dX2_record_9 : decode cX2_record 9 = .ok (.iload_n 3, 1) := by decide +kernel
theorem dX2_record_10 : decode cX2_record 10 = .ok (.ifCond .le 23, 3) := by decide +kernel
theorem dX2_record_13 : decode cX2_record 13 = .ok (.aload_n 0, 1) := by decide +kernel
theorem dX2_record_14 : decode cX2_record 14 = .ok (.getfield 11, 3) := by decide +kernel
theorem dX2_record_17 : decode cX2_record 17 = .ok (.iload_n 3, 1) := by decide +kernel
theorem dX2_record_18 : decode cX2_record 18 = .ok (.aload_n 0, 1) := by decide +kernel
theorem dX2_record_19 : decode cX2_record 19 = .ok (.getfield 11, 3) := by decide +kernel
theorem dX2_record_22 : decode cX2_record 22 = .ok (.iload_n 3, 1) := by decide +kernel
theorem dX2_record_23 : decode cX2_record 23 = .ok (.iconst 1, 1) := by decide +kernel
theorem dX2_record_24 : decode cX2_record 24 = .ok (.isub, 1) := by decide +kernel
theorem dX2_record_25 : decode cX2_record 25 = .ok (.aaload, 1) := by decide +kernel
theorem dX2_record_26 : decode cX2_record 26 = .ok (.aastore, 1) := by decide +kernel
theorem dX2_record_27 : decode cX2_record 27 = .ok (.iinc 3 (-1), 3) := by decide +kernel
theorem dX2_record_30 : decode cX2_record 30 = .ok (.goto (-21), 3) := by decide +kernel
theorem dX2_record_33 : decode cX2_record 33 = .ok (.aload_n 0, 1) := by decide +kernel
theorem dX2_record_34 : decode cX2_record 34 = .ok (.getfield 11, 3) := by decide +kernel
theorem dX2_record_37 : decode cX2_record 37 = .ok (.iconst 0, 1) := by decide +kernel
theorem dX2_record_38 : decode cX2_record 38 = .ok (.aload_n 2, 1) := by decide +kernel
theorem dX2_record_39 : decode cX2_record 39 = .ok (.aastore, 1) := by decide +kernel
theorem dX2_record_40 : decode cX2_record 40 = .ok (.aload_n 2, 1) := by decide +kernel
theorem dX2_record_41 : decode cX2_record 41 = .ok (.ifnull 8, 3) := by decide +kernel
theorem dX2_record_44 : decode cX2_record 44 = .ok (.aload_n 2, 1) := by decide +kernel
theorem dX2_record_45 : decode cX2_record 45 = .ok (.aload_n 1, 1) := by decide +kernel
theorem dX2_record_46 : decode cX2_record 46 = .ok (.invokevirtual 22, 3) := by decide +kernel
theorem dX2_record_49 : decode cX2_record 49 = .ok (.aload_n 0, 1) := by decide +kernel
theorem dX2_record_50 : decode cX2_record 50 = .ok (.aload_n 0, 1) := by decide +kernel
theorem dX2_record_51 : decode cX2_record 51 = .ok (.getfield 17, 3) := by decide +kernel
theorem dX2_record_54 : decode cX2_record 54 = .ok (.iconst 1, 1) := by decide +kernel
theorem dX2_record_55 : decode cX2_record 55 = .ok (.iadd, 1) := by decide +kernel
theorem dX2_record_56 : decode cX2_record 56 = .ok (.iconst 4, 1) := by decide +kernel
theorem dX2_record_57 : decode cX2_record 57 = .ok (.invokestatic 26, 3) := by decide +kernel
theorem dX2_record_60 : decode cX2_record 60 = .ok (.putfield 17, 3) := by decide +kernel
theorem dX2_record_63 : decode cX2_record 63 = .ok (.return_, 1) := by decide +kernel
theorem dX2_takeLatest_0 : decode cX2_takeLatest 0 = .ok (.aload_n 0, 1) := by decide +kernel
theorem dX2_takeLatest_1 : decode cX2_takeLatest 1 = .ok (.getfield 11, 3) := by decide +kernel
theorem dX2_takeLatest_4 : decode cX2_takeLatest 4 = .ok (.iconst 0, 1) := by decide +kernel
theorem dX2_takeLatest_5 : decode cX2_takeLatest 5 = .ok (.aaload, 1) := by decide +kernel
theorem dX2_takeLatest_6 : decode cX2_takeLatest 6 = .ok (.astore_n 2, 1) := by decide +kernel
theorem dX2_takeLatest_7 : decode cX2_takeLatest 7 = .ok (.aload_n 0, 1) := by decide +kernel
theorem dX2_takeLatest_8 : decode cX2_takeLatest 8 = .ok (.getfield 17, 3) := by decide +kernel
theorem dX2_takeLatest_11 : decode cX2_takeLatest 11 = .ok (.ifCond .eq 7, 3) := by decide +kernel
theorem dX2_takeLatest_14 : decode cX2_takeLatest 14 = .ok (.aload_n 2, 1) := by decide +kernel
theorem dX2_takeLatest_15 : decode cX2_takeLatest 15 = .ok (.ifnonnull 4, 3) := by decide +kernel
theorem dX2_takeLatest_18 : decode cX2_takeLatest 18 = .ok (.return_, 1) := by decide +kernel
theorem dX2_takeLatest_19 : decode cX2_takeLatest 19 = .ok (.aload_n 1, 1) := by decide +kernel
theorem dX2_takeLatest_20 : decode cX2_takeLatest 20 = .ok (.aload_n 2, 1) := by decide +kernel
theorem dX2_takeLatest_21 : decode cX2_takeLatest 21 = .ok (.invokevirtual 22, 3) := by decide +kernel
theorem dX2_takeLatest_24 : decode cX2_takeLatest 24 = .ok (.iconst 1, 1) := by decide +kernel
theorem dX2_takeLatest_25 : decode cX2_takeLatest 25 = .ok (.istore_n 3, 1) := by decide +kernel
theorem dX2_takeLatest_26 : decode cX2_takeLatest 26 = .ok (.iload_n 3, 1) := by decide +kernel
theorem dX2_takeLatest_27 : decode cX2_takeLatest 27 = .ok (.iconst 4, 1) := by decide +kernel
theorem dX2_takeLatest_28 : decode cX2_takeLatest 28 = .ok (.if_icmp .ge 23, 3) := by decide +kernel
theorem dX2_takeLatest_31 : decode cX2_takeLatest 31 = .ok (.aload_n 0, 1) := by decide +kernel
theorem dX2_takeLatest_32 : decode cX2_takeLatest 32 = .ok (.getfield 11, 3) := by decide +kernel
theorem dX2_takeLatest_35 : decode cX2_takeLatest 35 = .ok (.iload_n 3, 1) := by decide +kernel
theorem dX2_takeLatest_36 : decode cX2_takeLatest 36 = .ok (.iconst 1, 1) := by decide +kernel
theorem dX2_takeLatest_37 : decode cX2_takeLatest 37 = .ok (.isub, 1) := by decide +kernel
theorem dX2_takeLatest_38 : decode cX2_takeLatest 38 = .ok (.aload_n 0, 1) := by decide +kernel
theorem dX2_takeLatest_39 : decode cX2_takeLatest 39 = .ok (.getfield 11, 3) := by decide +kernel
theorem dX2_takeLatest_42 : decode cX2_takeLatest 42 = .ok (.iload_n 3, 1) := by decide +kernel
theorem dX2_takeLatest_43 : decode cX2_takeLatest 43 = .ok (.aaload, 1) := by decide +kernel
theorem dX2_takeLatest_44 : decode cX2_takeLatest 44 = .ok (.aastore, 1) := by decide +kernel
theorem dX2_takeLatest_45 : decode cX2_takeLatest 45 = .ok (.iinc 3 1, 3) := by decide +kernel
theorem dX2_takeLatest_48 : decode cX2_takeLatest 48 = .ok (.goto (-22), 3) := by decide +kernel
theorem dX2_takeLatest_51 : decode cX2_takeLatest 51 = .ok (.aload_n 0, 1) := by decide +kernel
theorem dX2_takeLatest_52 : decode cX2_takeLatest 52 = .ok (.getfield 11, 3) := by decide +kernel
theorem dX2_takeLatest_55 : decode cX2_takeLatest 55 = .ok (.iconst 3, 1) := by decide +kernel
theorem dX2_takeLatest_56 : decode cX2_takeLatest 56 = .ok (.aload_n 2, 1) := by decide +kernel
theorem dX2_takeLatest_57 : decode cX2_takeLatest 57 = .ok (.aastore, 1) := by decide +kernel
theorem dX2_takeLatest_58 : decode cX2_takeLatest 58 = .ok (.aload_n 0, 1) := by decide +kernel
theorem dX2_takeLatest_59 : decode cX2_takeLatest 59 = .ok (.dup, 1) := by decide +kernel
theorem dX2_takeLatest_60 : decode cX2_takeLatest 60 = .ok (.getfield 17, 3) := by decide +kernel
theorem dX2_takeLatest_63 : decode cX2_takeLatest 63 = .ok (.iconst 1, 1) := by decide +kernel
theorem dX2_takeLatest_64 : decode cX2_takeLatest 64 = .ok (.isub, 1) := by decide +kernel
theorem dX2_takeLatest_65 : decode cX2_takeLatest 65 = .ok (.putfield 17, 3) := by decide +kernel
theorem dX2_takeLatest_68 : decode cX2_takeLatest 68 = .ok (.return_, 1) := by decide +kernel
theorem dX3_init_0 : decode cX3_init 0 = .ok (.aload_n 0, 1) := by decide +kernel
theorem dX3_init_1 : decode cX3_init 1 = .ok (.invokespecial 3, 3) := by decide +kernel
theorem dX3_init_4 : decode cX3_init 4 = .ok (.aload_n 0, 1) := by decide +kernel
theorem dX3_init_5 : decode cX3_init 5 = .ok (.bipush 60, 2) := by decide +kernel
theorem dX3_init_7 : decode cX3_init 7 = .ok (.newarray .char, 2) := by decide +kernel
theorem dX3_init_9 : decode cX3_init 9 = .ok (.putfield 9, 3) := by decide +kernel
theorem dX3_init_12 : decode cX3_init 12 = .ok (.aload_n 0, 1) := by decide +kernel
theorem dX3_init_13 : decode cX3_init 13 = .ok (.iconst 0, 1) := by decide +kernel
theorem dX3_init_14 : decode cX3_init 14 = .ok (.putfield 15, 3) := by decide +kernel
theorem dX3_init_17 : decode cX3_init 17 = .ok (.aload_n 0, 1) := by decide +kernel
theorem dX3_init_18 : decode cX3_init 18 = .ok (.bipush 32, 2) := by decide +kernel
theorem dX3_init_20 : decode cX3_init 20 = .ok (.newarray .char, 2) := by decide +kernel
theorem dX3_init_22 : decode cX3_init 22 = .ok (.putfield 19, 3) := by decide +kernel
theorem dX3_init_25 : decode cX3_init 25 = .ok (.aload_n 0, 1) := by decide +kernel
theorem dX3_init_26 : decode cX3_init 26 = .ok (.bipush 32, 2) := by decide +kernel
theorem dX3_init_28 : decode cX3_init 28 = .ok (.newarray .int, 2) := by decide +kernel
theorem dX3_init_30 : decode cX3_init 30 = .ok (.putfield 22, 3) := by decide +kernel
theorem dX3_init_33 : decode cX3_init 33 = .ok (.aload_n 0, 1) := by decide +kernel
theorem dX3_init_34 : decode cX3_init 34 = .ok (.bipush 32, 2) := by decide +kernel
theorem dX3_init_36 : decode cX3_init 36 = .ok (.newarray .int, 2) := by decide +kernel
theorem dX3_init_38 : decode cX3_init 38 = .ok (.putfield 26, 3) := by decide +kernel
theorem dX3_init_41 : decode cX3_init 41 = .ok (.aload_n 0, 1) := by decide +kernel
theorem dX3_init_42 : decode cX3_init 42 = .ok (.iconst 0, 1) := by decide +kernel
theorem dX3_init_43 : decode cX3_init 43 = .ok (.putfield 29, 3) := by decide +kernel
theorem dX3_init_46 : decode cX3_init 46 = .ok (.aload_n 0, 1) := by decide +kernel
theorem dX3_init_47 : decode cX3_init 47 = .ok (.iconst 0, 1) := by decide +kernel
theorem dX3_init_48 : decode cX3_init 48 = .ok (.putfield 32, 3) := by decide +kernel
theorem dX3_init_51 : decode cX3_init 51 = .ok (.return_, 1) := by decide +kernel
theorem dX4_init_0 : decode cX4_init 0 = .ok (.aload_n 0, 1) := by decide +kernel
theorem dX4_init_1 : decode cX4_init 1 = .ok (.invokespecial 3, 3) := by decide +kernel
theorem dX4_init_4 : decode cX4_init 4 = .ok (.aload_n 0, 1) := by decide +kernel
theorem dX4_init_5 : decode cX4_init 5 = .ok (.bipush 6, 2) := by decide +kernel
theorem dX4_init_7 : decode cX4_init 7 = .ok (.newarray .int, 2) := by decide +kernel
theorem dX4_init_9 : decode cX4_init 9 = .ok (.putfield 9, 3) := by decide +kernel
theorem dX4_init_12 : decode cX4_init 12 = .ok (.aload_n 0, 1) := by decide +kernel
theorem dX4_init_13 : decode cX4_init 13 = .ok (.bipush 6, 2) := by decide +kernel
theorem dX4_init_15 : decode cX4_init 15 = .ok (.newarray .int, 2) := by decide +kernel
theorem dX4_init_17 : decode cX4_init 17 = .ok (.putfield 15, 3) := by decide +kernel
theorem dX4_init_20 : decode cX4_init 20 = .ok (.aload_n 0, 1) := by decide +kernel
theorem dX4_init_21 : decode cX4_init 21 = .ok (.bipush 6, 2) := by decide +kernel
theorem dX4_init_23 : decode cX4_init 23 = .ok (.newarray .boolean, 2) := by decide +kernel
theorem dX4_init_25 : decode cX4_init 25 = .ok (.putfield 18, 3) := by decide +kernel
theorem dX4_init_28 : decode cX4_init 28 = .ok (.aload_n 0, 1) := by decide +kernel
theorem dX4_init_29 : decode cX4_init 29 = .ok (.bipush 6, 2) := by decide +kernel
theorem dX4_init_31 : decode cX4_init 31 = .ok (.newarray .int, 2) := by decide +kernel
theorem dX4_init_33 : decode cX4_init 33 = .ok (.putfield 22, 3) := by decide +kernel
theorem dX4_init_36 : decode cX4_init 36 = .ok (.aload_n 0, 1) := by decide +kernel
theorem dX4_init_37 : decode cX4_init 37 = .ok (.bipush 6, 2) := by decide +kernel
theorem dX4_init_39 : decode cX4_init 39 = .ok (.newarray .int, 2) := by decide +kernel
theorem dX4_init_41 : decode cX4_init 41 = .ok (.putfield 25, 3) := by decide +kernel
theorem dX4_init_44 : decode cX4_init 44 = .ok (.aload_n 0, 1) := by decide +kernel
theorem dX4_init_45 : decode cX4_init 45 = .ok (.bipush 48, 2) := by decide +kernel
theorem dX4_init_47 : decode cX4_init 47 = .ok (.newarray .int, 2) := by decide +kernel
theorem dX4_init_49 : decode cX4_init 49 = .ok (.putfield 28, 3) := by decide +kernel
theorem dX4_init_52 : decode cX4_init 52 = .ok (.aload_n 0, 1) := by decide +kernel
theorem dX4_init_53 : decode cX4_init 53 = .ok (.bipush 48, 2) := by decide +kernel
theorem dX4_init_55 : decode cX4_init 55 = .ok (.newarray .int, 2) := by decide +kernel
theorem dX4_init_57 : decode cX4_init 57 = .ok (.putfield 31, 3) := by decide +kernel
theorem dX4_init_60 : decode cX4_init 60 = .ok (.aload_n 0, 1) := by decide +kernel
theorem dX4_init_61 : decode cX4_init 61 = .ok (.bipush 48, 2) := by decide +kernel
theorem dX4_init_63 : decode cX4_init 63 = .ok (.newarray .int, 2) := by decide +kernel
theorem dX4_init_65 : decode cX4_init 65 = .ok (.putfield 34, 3) := by decide +kernel
theorem dX4_init_68 : decode cX4_init 68 = .ok (.aload_n 0, 1) := by decide +kernel
theorem dX4_init_69 : decode cX4_init 69 = .ok (.bipush 24, 2) := by decide +kernel
theorem dX4_init_71 : decode cX4_init 71 = .ok (.newarray .int, 2) := by decide +kernel
theorem dX4_init_73 : decode cX4_init 73 = .ok (.putfield 37, 3) := by decide +kernel
theorem dX4_init_76 : decode cX4_init 76 = .ok (.aload_n 0, 1) := by decide +kernel
theorem dX4_init_77 : decode cX4_init 77 = .ok (.bipush 24, 2) := by decide +kernel
theorem dX4_init_79 : decode cX4_init 79 = .ok (.newarray .int, 2) := by decide +kernel
theorem dX4_init_81 : decode cX4_init 81 = .ok (.putfield 40, 3) := by decide +kernel
theorem dX4_init_84 : decode cX4_init 84 = .ok (.aload_n 0, 1) := by decide +kernel
theorem dX4_init_85 : decode cX4_init 85 = .ok (.iconst 5, 1) := by decide +kernel
theorem dX4_init_86 : decode cX4_init 86 = .ok (.newarray .int, 2) := by decide +kernel
theorem dX4_init_88 : decode cX4_init 88 = .ok (.putfield 43, 3) := by decide +kernel
theorem dX4_init_91 : decode cX4_init 91 = .ok (.aload_n 0, 1) := by decide +kernel
theorem dX4_init_92 : decode cX4_init 92 = .ok (.new 46, 3) := by decide +kernel
theorem dX4_init_95 : decode cX4_init 95 = .ok (.dup, 1) := by decide +kernel
theorem dX4_init_96 : decode cX4_init 96 = .ok (.invokespecial 48, 3) := by decide +kernel
theorem dX4_init_99 : decode cX4_init 99 = .ok (.putfield 49, 3) := by decide +kernel
theorem dX4_init_102 : decode cX4_init 102 = .ok (.aload_n 0, 1) := by decide +kernel
theorem dX4_init_103 : decode cX4_init 103 = .ok (.new 53, 3) := by decide +kernel
theorem dX4_init_106 : decode cX4_init 106 = .ok (.dup, 1) := by decide +kernel
theorem dX4_init_107 : decode cX4_init 107 = .ok (.invokespecial 55, 3) := by decide +kernel
theorem dX4_init_110 : decode cX4_init 110 = .ok (.putfield 56, 3) := by decide +kernel
theorem dX4_init_113 : decode cX4_init 113 = .ok (.aload_n 0, 1) := by decide +kernel
theorem dX4_init_114 : decode cX4_init 114 = .ok (.iconst (-1), 1) := by decide +kernel
theorem dX4_init_115 : decode cX4_init 115 = .ok (.putfield 60, 3) := by decide +kernel
theorem dX4_init_118 : decode cX4_init 118 = .ok (.aload_n 0, 1) := by decide +kernel
theorem dX4_init_119 : decode cX4_init 119 = .ok (.iconst 0, 1) := by decide +kernel
theorem dX4_init_120 : decode cX4_init 120 = .ok (.putfield 64, 3) := by decide +kernel
theorem dX4_init_123 : decode cX4_init 123 = .ok (.aload_n 0, 1) := by decide +kernel
theorem dX4_init_124 : decode cX4_init 124 = .ok (.iconst 0, 1) := by decide +kernel
theorem dX4_init_125 : decode cX4_init 125 = .ok (.putfield 67, 3) := by decide +kernel
theorem dX4_init_128 : decode cX4_init 128 = .ok (.aload_n 0, 1) := by decide +kernel
theorem dX4_init_129 : decode cX4_init 129 = .ok (.iconst 0, 1) := by decide +kernel
theorem dX4_init_130 : decode cX4_init 130 = .ok (.putfield 70, 3) := by decide +kernel
theorem dX4_init_133 : decode cX4_init 133 = .ok (.aload_n 0, 1) := by decide +kernel
theorem dX4_init_134 : decode cX4_init 134 = .ok (.iconst 0, 1) := by decide +kernel
theorem dX4_init_135 : decode cX4_init 135 = .ok (.putfield 73, 3) := by decide +kernel
theorem dX4_init_138 : decode cX4_init 138 = .ok (.getstatic 76, 3) := by decide +kernel
theorem dX4_init_141 : decode cX4_init 141 = .ok (.iconst 0, 1) := by decide +kernel
theorem dX4_init_142 : decode cX4_init 142 = .ok (.aload_n 0, 1) := by decide +kernel
theorem dX4_init_143 : decode cX4_init 143 = .ok (.getfield 9, 3) := by decide +kernel
theorem dX4_init_146 : decode cX4_init 146 = .ok (.iconst 0, 1) := by decide +kernel
theorem dX4_init_147 : decode cX4_init 147 = .ok (.bipush 6, 2) := by decide +kernel
theorem dX4_init_149 : decode cX4_init 149 = .ok (.invokestatic 79, 3) := by decide +kernel
theorem dX4_init_152 : decode cX4_init 152 = .ok (.getstatic 85, 3) := by decide +kernel
theorem dX4_init_155 : decode cX4_init 155 = .ok (.iconst 0, 1) := by decide +kernel
theorem dX4_init_156 : decode cX4_init 156 = .ok (.aload_n 0, 1) := by decide +kernel
theorem dX4_init_157 : decode cX4_init 157 = .ok (.getfield 43, 3) := by decide +kernel
theorem dX4_init_160 : decode cX4_init 160 = .ok (.iconst 0, 1) := by decide +kernel
theorem dX4_init_161 : decode cX4_init 161 = .ok (.iconst 5, 1) := by decide +kernel
theorem dX4_init_162 : decode cX4_init 162 = .ok (.invokestatic 79, 3) := by decide +kernel
theorem dX4_init_165 : decode cX4_init 165 = .ok (.iconst 0, 1) := by decide +kernel
theorem dX4_init_166 : decode cX4_init 166 = .ok (.istore_n 1, 1) := by decide +kernel
theorem dX4_init_167 : decode cX4_init 167 = .ok (.iload_n 1, 1) := by decide +kernel
theorem dX4_init_168 : decode cX4_init 168 = .ok (.bipush 48, 2) := by decide +kernel
theorem dX4_init_170 : decode cX4_init 170 = .ok (.if_icmp .ge 16, 3) := by decide +kernel
theorem dX4_init_173 : decode cX4_init 173 = .ok (.aload_n 0, 1) := by decide +kernel
theorem dX4_init_174 : decode cX4_init 174 = .ok (.getfield 28, 3) := by decide +kernel
theorem dX4_init_177 : decode cX4_init 177 = .ok (.iload_n 1, 1) := by decide +kernel
theorem dX4_init_178 : decode cX4_init 178 = .ok (.iconst (-1), 1) := by decide +kernel
theorem dX4_init_179 : decode cX4_init 179 = .ok (.iastore, 1) := by decide +kernel
theorem dX4_init_180 : decode cX4_init 180 = .ok (.iinc 1 1, 3) := by decide +kernel
theorem dX4_init_183 : decode cX4_init 183 = .ok (.goto (-16), 3) := by decide +kernel
theorem dX4_init_186 : decode cX4_init 186 = .ok (.iconst 0, 1) := by decide +kernel
theorem dX4_init_187 : decode cX4_init 187 = .ok (.istore_n 1, 1) := by decide +kernel
theorem dX4_init_188 : decode cX4_init 188 = .ok (.iload_n 1, 1) := by decide +kernel
theorem dX4_init_189 : decode cX4_init 189 = .ok (.bipush 24, 2) := by decide +kernel
theorem dX4_init_191 : decode cX4_init 191 = .ok (.if_icmp .ge 16, 3) := by decide +kernel
theorem dX4_init_194 : decode cX4_init 194 = .ok (.aload_n 0, 1) := by decide +kernel
theorem dX4_init_195 : decode cX4_init 195 = .ok (.getfield 37, 3) := by decide +kernel
theorem dX4_init_198 : decode cX4_init 198 = .ok (.iload_n 1, 1) := by decide +kernel
theorem dX4_init_199 : decode cX4_init 199 = .ok (.iconst (-1), 1) := by decide +kernel
theorem dX4_init_200 : decode cX4_init 200 = .ok (.iastore, 1) := by decide +kernel
theorem dX4_init_201 : decode cX4_init 201 = .ok (.iinc 1 1, 3) := by decide +kernel
theorem dX4_init_204 : decode cX4_init 204 = .ok (.goto (-16), 3) := by decide +kernel
theorem dX4_init_207 : decode cX4_init 207 = .ok (.return_, 1) := by decide +kernel
theorem dX4_copyFrom_0 : decode cX4_copyFrom 0 = .ok (.aload_n 1, 1) := by decide +kernel
theorem dX4_copyFrom_1 : decode cX4_copyFrom 1 = .ok (.getfield 9, 3) := by decide +kernel
theorem dX4_copyFrom_4 : decode cX4_copyFrom 4 = .ok (.iconst 0, 1) := by decide +kernel
theorem dX4_copyFrom_5 : decode cX4_copyFrom 5 = .ok (.aload_n 0, 1) := by decide +kernel
theorem dX4_copyFrom_6 : decode cX4_copyFrom 6 = .ok (.getfield 9, 3) := by decide +kernel
theorem dX4_copyFrom_9 : decode cX4_copyFrom 9 = .ok (.iconst 0, 1) := by decide +kernel
theorem dX4_copyFrom_10 : decode cX4_copyFrom 10 = .ok (.bipush 6, 2) := by decide +kernel
theorem dX4_copyFrom_12 : decode cX4_copyFrom 12 = .ok (.invokestatic 79, 3) := by decide +kernel
theorem dX4_copyFrom_15 : decode cX4_copyFrom 15 = .ok (.aload_n 1, 1) := by decide +kernel
theorem dX4_copyFrom_16 : decode cX4_copyFrom 16 = .ok (.getfield 15, 3) := by decide +kernel
theorem dX4_copyFrom_19 : decode cX4_copyFrom 19 = .ok (.iconst 0, 1) := by decide +kernel
theorem dX4_copyFrom_20 : decode cX4_copyFrom 20 = .ok (.aload_n 0, 1) := by decide +kernel
theorem dX4_copyFrom_21 : decode cX4_copyFrom 21 = .ok (.getfield 15, 3) := by decide +kernel
theorem dX4_copyFrom_24 : decode cX4_copyFrom 24 = .ok (.iconst 0, 1) := by decide +kernel
theorem dX4_copyFrom_25 : decode cX4_copyFrom 25 = .ok (.bipush 6, 2) := by decide +kernel
theorem dX4_copyFrom_27 : decode cX4_copyFrom 27 = .ok (.invokestatic 79, 3) := by decide +kernel
theorem dX4_copyFrom_30 : decode cX4_copyFrom 30 = .ok (.aload_n 1, 1) := by decide +kernel
theorem dX4_copyFrom_31 : decode cX4_copyFrom 31 = .ok (.getfield 22, 3) := by decide +kernel
theorem dX4_copyFrom_34 : decode cX4_copyFrom 34 = .ok (.iconst 0, 1) := by decide +kernel
theorem dX4_copyFrom_35 : decode cX4_copyFrom 35 = .ok (.aload_n 0, 1) := by decide +kernel
theorem dX4_copyFrom_36 : decode cX4_copyFrom 36 = .ok (.getfield 22, 3) := by decide +kernel
theorem dX4_copyFrom_39 : decode cX4_copyFrom 39 = .ok (.iconst 0, 1) := by decide +kernel
theorem dX4_copyFrom_40 : decode cX4_copyFrom 40 = .ok (.bipush 6, 2) := by decide +kernel
theorem dX4_copyFrom_42 : decode cX4_copyFrom 42 = .ok (.invokestatic 79, 3) := by decide +kernel
theorem dX4_copyFrom_45 : decode cX4_copyFrom 45 = .ok (.aload_n 1, 1) := by decide +kernel
theorem dX4_copyFrom_46 : decode cX4_copyFrom 46 = .ok (.getfield 25, 3) := by decide +kernel
theorem dX4_copyFrom_49 : decode cX4_copyFrom 49 = .ok (.iconst 0, 1) := by decide +kernel
theorem dX4_copyFrom_50 : decode cX4_copyFrom 50 = .ok (.aload_n 0, 1) := by decide +kernel
theorem dX4_copyFrom_51 : decode cX4_copyFrom 51 = .ok (.getfield 25, 3) := by decide +kernel
theorem dX4_copyFrom_54 : decode cX4_copyFrom 54 = .ok (.iconst 0, 1) := by decide +kernel
theorem dX4_copyFrom_55 : decode cX4_copyFrom 55 = .ok (.bipush 6, 2) := by decide +kernel
theorem dX4_copyFrom_57 : decode cX4_copyFrom 57 = .ok (.invokestatic 79, 3) := by decide +kernel
theorem dX4_copyFrom_60 : decode cX4_copyFrom 60 = .ok (.aload_n 1, 1) := by decide +kernel
theorem dX4_copyFrom_61 : decode cX4_copyFrom 61 = .ok (.getfield 28, 3) := by decide +kernel
theorem dX4_copyFrom_64 : decode cX4_copyFrom 64 = .ok (.iconst 0, 1) := by decide +kernel
theorem dX4_copyFrom_65 : decode cX4_copyFrom 65 = .ok (.aload_n 0, 1) := by decide +kernel
theorem dX4_copyFrom_66 : decode cX4_copyFrom 66 = .ok (.getfield 28, 3) := by decide +kernel
theorem dX4_copyFrom_69 : decode cX4_copyFrom 69 = .ok (.iconst 0, 1) := by decide +kernel
theorem dX4_copyFrom_70 : decode cX4_copyFrom 70 = .ok (.bipush 48, 2) := by decide +kernel
theorem dX4_copyFrom_72 : decode cX4_copyFrom 72 = .ok (.invokestatic 79, 3) := by decide +kernel
theorem dX4_copyFrom_75 : decode cX4_copyFrom 75 = .ok (.aload_n 1, 1) := by decide +kernel
theorem dX4_copyFrom_76 : decode cX4_copyFrom 76 = .ok (.getfield 31, 3) := by decide +kernel
theorem dX4_copyFrom_79 : decode cX4_copyFrom 79 = .ok (.iconst 0, 1) := by decide +kernel
theorem dX4_copyFrom_80 : decode cX4_copyFrom 80 = .ok (.aload_n 0, 1) := by decide +kernel
theorem dX4_copyFrom_81 : decode cX4_copyFrom 81 = .ok (.getfield 31, 3) := by decide +kernel
theorem dX4_copyFrom_84 : decode cX4_copyFrom 84 = .ok (.iconst 0, 1) := by decide +kernel
theorem dX4_copyFrom_85 : decode cX4_copyFrom 85 = .ok (.bipush 48, 2) := by decide +kernel
theorem dX4_copyFrom_87 : decode cX4_copyFrom 87 = .ok (.invokestatic 79, 3) := by decide +kernel
theorem dX4_copyFrom_90 : decode cX4_copyFrom 90 = .ok (.aload_n 1, 1) := by decide +kernel
theorem dX4_copyFrom_91 : decode cX4_copyFrom 91 = .ok (.getfield 34, 3) := by decide +kernel
theorem dX4_copyFrom_94 : decode cX4_copyFrom 94 = .ok (.iconst 0, 1) := by decide +kernel
theorem dX4_copyFrom_95 : decode cX4_copyFrom 95 = .ok (.aload_n 0, 1) := by decide +kernel
theorem dX4_copyFrom_96 : decode cX4_copyFrom 96 = .ok (.getfield 34, 3) := by decide +kernel
theorem dX4_copyFrom_99 : decode cX4_copyFrom 99 = .ok (.iconst 0, 1) := by decide +kernel
theorem dX4_copyFrom_100 : decode cX4_copyFrom 100 = .ok (.bipush 48, 2) := by decide +kernel
theorem dX4_copyFrom_102 : decode cX4_copyFrom 102 = .ok (.invokestatic 79, 3) := by decide +kernel
theorem dX4_copyFrom_105 : decode cX4_copyFrom 105 = .ok (.aload_n 1, 1) := by decide +kernel
theorem dX4_copyFrom_106 : decode cX4_copyFrom 106 = .ok (.getfield 37, 3) := by decide +kernel
theorem dX4_copyFrom_109 : decode cX4_copyFrom 109 = .ok (.iconst 0, 1) := by decide +kernel
theorem dX4_copyFrom_110 : decode cX4_copyFrom 110 = .ok (.aload_n 0, 1) := by decide +kernel
theorem dX4_copyFrom_111 : decode cX4_copyFrom 111 = .ok (.getfield 37, 3) := by decide +kernel
theorem dX4_copyFrom_114 : decode cX4_copyFrom 114 = .ok (.iconst 0, 1) := by decide +kernel
theorem dX4_copyFrom_115 : decode cX4_copyFrom 115 = .ok (.bipush 24, 2) := by decide +kernel
theorem dX4_copyFrom_117 : decode cX4_copyFrom 117 = .ok (.invokestatic 79, 3) := by decide +kernel
theorem dX4_copyFrom_120 : decode cX4_copyFrom 120 = .ok (.aload_n 1, 1) := by decide +kernel
theorem dX4_copyFrom_121 : decode cX4_copyFrom 121 = .ok (.getfield 40, 3) := by decide +kernel
theorem dX4_copyFrom_124 : decode cX4_copyFrom 124 = .ok (.iconst 0, 1) := by decide +kernel
theorem dX4_copyFrom_125 : decode cX4_copyFrom 125 = .ok (.aload_n 0, 1) := by decide +kernel
theorem dX4_copyFrom_126 : decode cX4_copyFrom 126 = .ok (.getfield 40, 3) := by decide +kernel
theorem dX4_copyFrom_129 : decode cX4_copyFrom 129 = .ok (.iconst 0, 1) := by decide +kernel
theorem dX4_copyFrom_130 : decode cX4_copyFrom 130 = .ok (.bipush 24, 2) := by decide +kernel
theorem dX4_copyFrom_132 : decode cX4_copyFrom 132 = .ok (.invokestatic 79, 3) := by decide +kernel
theorem dX4_copyFrom_135 : decode cX4_copyFrom 135 = .ok (.aload_n 1, 1) := by decide +kernel
theorem dX4_copyFrom_136 : decode cX4_copyFrom 136 = .ok (.getfield 43, 3) := by decide +kernel
theorem dX4_copyFrom_139 : decode cX4_copyFrom 139 = .ok (.iconst 0, 1) := by decide +kernel
theorem dX4_copyFrom_140 : decode cX4_copyFrom 140 = .ok (.aload_n 0, 1) := by decide +kernel
theorem dX4_copyFrom_141 : decode cX4_copyFrom 141 = .ok (.getfield 43, 3) := by decide +kernel
theorem dX4_copyFrom_144 : decode cX4_copyFrom 144 = .ok (.iconst 0, 1) := by decide +kernel
theorem dX4_copyFrom_145 : decode cX4_copyFrom 145 = .ok (.iconst 5, 1) := by decide +kernel
theorem dX4_copyFrom_146 : decode cX4_copyFrom 146 = .ok (.invokestatic 79, 3) := by decide +kernel
theorem dX4_copyFrom_149 : decode cX4_copyFrom 149 = .ok (.iconst 0, 1) := by decide +kernel
theorem dX4_copyFrom_150 : decode cX4_copyFrom 150 = .ok (.istore_n 2, 1) := by decide +kernel
theorem dX4_copyFrom_151 : decode cX4_copyFrom 151 = .ok (.iload_n 2, 1) := by decide +kernel
theorem dX4_copyFrom_152 : decode cX4_copyFrom 152 = .ok (.bipush 6, 2) := by decide +kernel
theorem dX4_copyFrom_154 : decode cX4_copyFrom 154 = .ok (.if_icmp .ge 21, 3) := by decide +kernel
theorem dX4_copyFrom_157 : decode cX4_copyFrom 157 = .ok (.aload_n 0, 1) := by decide +kernel
theorem dX4_copyFrom_158 : decode cX4_copyFrom 158 = .ok (.getfield 18, 3) := by decide +kernel
theorem dX4_copyFrom_161 : decode cX4_copyFrom 161 = .ok (.iload_n 2, 1) := by decide +kernel
theorem dX4_copyFrom_162 : decode cX4_copyFrom 162 = .ok (.aload_n 1, 1) := by decide +kernel
theorem dX4_copyFrom_163 : decode cX4_copyFrom 163 = .ok (.getfield 18, 3) := by decide +kernel
theorem dX4_copyFrom_166 : decode cX4_copyFrom 166 = .ok (.iload_n 2, 1) := by decide +kernel
theorem dX4_copyFrom_167 : decode cX4_copyFrom 167 = .ok (.baload, 1) := by decide +kernel
theorem dX4_copyFrom_168 : decode cX4_copyFrom 168 = .ok (.bastore, 1) := by decide +kernel
theorem dX4_copyFrom_169 : decode cX4_copyFrom 169 = .ok (.iinc 2 1, 3) := by decide +kernel
theorem dX4_copyFrom_172 : decode cX4_copyFrom 172 = .ok (.goto (-21), 3) := by decide +kernel
theorem dX4_copyFrom_175 : decode cX4_copyFrom 175 = .ok (.aload_n 0, 1) := by decide +kernel
theorem dX4_copyFrom_176 : decode cX4_copyFrom 176 = .ok (.getfield 49, 3) := by decide +kernel
theorem dX4_copyFrom_179 : decode cX4_copyFrom 179 = .ok (.aload_n 1, 1) := by decide +kernel
theorem dX4_copyFrom_180 : decode cX4_copyFrom 180 = .ok (.getfield 49, 3) := by decide +kernel
theorem dX4_copyFrom_183 : decode cX4_copyFrom 183 = .ok (.invokevirtual 88, 3) := by decide +kernel
theorem dX4_copyFrom_186 : decode cX4_copyFrom 186 = .ok (.aload_n 0, 1) := by decide +kernel
theorem dX4_copyFrom_187 : decode cX4_copyFrom 187 = .ok (.getfield 56, 3) := by decide +kernel
theorem dX4_copyFrom_190 : decode cX4_copyFrom 190 = .ok (.aload_n 1, 1) := by decide +kernel
theorem dX4_copyFrom_191 : decode cX4_copyFrom 191 = .ok (.getfield 56, 3) := by decide +kernel
theorem dX4_copyFrom_194 : decode cX4_copyFrom 194 = .ok (.invokevirtual 92, 3) := by decide +kernel
theorem dX4_copyFrom_197 : decode cX4_copyFrom 197 = .ok (.aload_n 0, 1) := by decide +kernel
theorem dX4_copyFrom_198 : decode cX4_copyFrom 198 = .ok (.aload_n 1, 1) := by decide +kernel
theorem dX4_copyFrom_199 : decode cX4_copyFrom 199 = .ok (.getfield 60, 3) := by decide +kernel
theorem dX4_copyFrom_202 : decode cX4_copyFrom 202 = .ok (.putfield 60, 3) := by decide +kernel
theorem dX4_copyFrom_205 : decode cX4_copyFrom 205 = .ok (.aload_n 0, 1) := by decide +kernel
theorem dX4_copyFrom_206 : decode cX4_copyFrom 206 = .ok (.aload_n 1, 1) := by decide +kernel
theorem dX4_copyFrom_207 : decode cX4_copyFrom 207 = .ok (.getfield 64, 3) := by decide +kernel
theorem dX4_copyFrom_210 : decode cX4_copyFrom 210 = .ok (.putfield 64, 3) := by decide +kernel
theorem dX4_copyFrom_213 : decode cX4_copyFrom 213 = .ok (.aload_n 0, 1) := by decide +kernel
theorem dX4_copyFrom_214 : decode cX4_copyFrom 214 = .ok (.aload_n 1, 1) := by decide +kernel
theorem dX4_copyFrom_215 : decode cX4_copyFrom 215 = .ok (.getfield 67, 3) := by decide +kernel
theorem dX4_copyFrom_218 : decode cX4_copyFrom 218 = .ok (.putfield 67, 3) := by decide +kernel
theorem dX4_copyFrom_221 : decode cX4_copyFrom 221 = .ok (.aload_n 0, 1) := by decide +kernel
theorem dX4_copyFrom_222 : decode cX4_copyFrom 222 = .ok (.aload_n 1, 1) := by decide +kernel
theorem dX4_copyFrom_223 : decode cX4_copyFrom 223 = .ok (.getfield 70, 3) := by decide +kernel
theorem dX4_copyFrom_226 : decode cX4_copyFrom 226 = .ok (.putfield 70, 3) := by decide +kernel
theorem dX4_copyFrom_229 : decode cX4_copyFrom 229 = .ok (.aload_n 0, 1) := by decide +kernel
theorem dX4_copyFrom_230 : decode cX4_copyFrom 230 = .ok (.aload_n 1, 1) := by decide +kernel
theorem dX4_copyFrom_231 : decode cX4_copyFrom 231 = .ok (.getfield 73, 3) := by decide +kernel
theorem dX4_copyFrom_234 : decode cX4_copyFrom 234 = .ok (.putfield 73, 3) := by decide +kernel
theorem dX4_copyFrom_237 : decode cX4_copyFrom 237 = .ok (.return_, 1) := by decide +kernel
theorem dX4_bears_0 : decode cX4_bears 0 = .ok (.aload_n 0, 1) := by decide +kernel
theorem dX4_bears_1 : decode cX4_bears 1 = .ok (.getfield 9, 3) := by decide +kernel
theorem dX4_bears_4 : decode cX4_bears 4 = .ok (.iload_n 1, 1) := by decide +kernel
theorem dX4_bears_5 : decode cX4_bears 5 = .ok (.iaload, 1) := by decide +kernel
theorem dX4_bears_6 : decode cX4_bears 6 = .ok (.istore_n 2, 1) := by decide +kernel
theorem dX4_bears_7 : decode cX4_bears 7 = .ok (.iload_n 2, 1) := by decide +kernel
theorem dX4_bears_8 : decode cX4_bears 8 = .ok (.ifCond .lt 8, 3) := by decide +kernel
theorem dX4_bears_11 : decode cX4_bears 11 = .ok (.iload_n 2, 1) := by decide +kernel
theorem dX4_bears_12 : decode cX4_bears 12 = .ok (.iconst 2, 1) := by decide +kernel
theorem dX4_bears_13 : decode cX4_bears 13 = .ok (.if_icmp .le 6, 3) := by decide +kernel
theorem dX4_bears_16 : decode cX4_bears 16 = .ok (.bipush 20, 2) := by decide +kernel
theorem dX4_bears_18 : decode cX4_bears 18 = .ok (.ireturn, 1) := by decide +kernel
theorem dX4_bears_19 : decode cX4_bears 19 = .ok (.getstatic 95, 3) := by decide +kernel
theorem dX4_bears_22 : decode cX4_bears 22 = .ok (.iload_n 2, 1) := by decide +kernel
theorem dX4_bears_23 : decode cX4_bears 23 = .ok (.iaload, 1) := by decide +kernel
theorem dX4_bears_24 : decode cX4_bears 24 = .ok (.getstatic 98, 3) := by decide +kernel
theorem dX4_bears_27 : decode cX4_bears 27 = .ok (.iload_n 2, 1) := by decide +kernel
theorem dX4_bears_28 : decode cX4_bears 28 = .ok (.iaload, 1) := by decide +kernel
theorem dX4_bears_29 : decode cX4_bears 29 = .ok (.aload_n 0, 1) := by decide +kernel
theorem dX4_bears_30 : decode cX4_bears 30 = .ok (.getfield 15, 3) := by decide +kernel
theorem dX4_bears_33 : decode cX4_bears 33 = .ok (.iload_n 1, 1) := by decide +kernel
theorem dX4_bears_34 : decode cX4_bears 34 = .ok (.iaload, 1) := by decide +kernel
theorem dX4_bears_35 : decode cX4_bears 35 = .ok (.imul, 1) := by decide +kernel
theorem dX4_bears_36 : decode cX4_bears 36 = .ok (.isub, 1) := by decide +kernel
theorem dX4_bears_37 : decode cX4_bears 37 = .ok (.istore_n 3, 1) := by decide +kernel
theorem dX4_bears_38 : decode cX4_bears 38 = .ok (.iload_n 3, 1) := by decide +kernel
theorem dX4_bears_39 : decode cX4_bears 39 = .ok (.bipush 20, 2) := by decide +kernel
theorem dX4_bears_41 : decode cX4_bears 41 = .ok (.if_icmp .ge 8, 3) := by decide +kernel
theorem dX4_bears_44 : decode cX4_bears 44 = .ok (.bipush 20, 2) := by decide +kernel
theorem dX4_bears_46 : decode cX4_bears 46 = .ok (.goto 4, 3) := by decide +kernel
theorem dX4_bears_49 : decode cX4_bears 49 = .ok (.iload_n 3, 1) := by decide +kernel
theorem dX4_bears_50 : decode cX4_bears 50 = .ok (.ireturn, 1) := by decide +kernel
theorem dX4_isFree_0 : decode cX4_isFree 0 = .ok (.aload_n 0, 1) := by decide +kernel
theorem dX4_isFree_1 : decode cX4_isFree 1 = .ok (.getfield 25, 3) := by decide +kernel
theorem dX4_isFree_4 : decode cX4_isFree 4 = .ok (.iload_n 1, 1) := by decide +kernel
theorem dX4_isFree_5 : decode cX4_isFree 5 = .ok (.iaload, 1) := by decide +kernel
theorem dX4_isFree_6 : decode cX4_isFree 6 = .ok (.ifCond .ne 15, 3) := by decide +kernel
theorem dX4_isFree_9 : decode cX4_isFree 9 = .ok (.iload_n 1, 1) := by decide +kernel
theorem dX4_isFree_10 : decode cX4_isFree 10 = .ok (.aload_n 0, 1) := by decide +kernel
theorem dX4_isFree_11 : decode cX4_isFree 11 = .ok (.getfield 60, 3) := by decide +kernel
theorem dX4_isFree_14 : decode cX4_isFree 14 = .ok (.if_icmp .eq 7, 3) := by decide +kernel
theorem dX4_isFree_17 : decode cX4_isFree 17 = .ok (.iconst 1, 1) := by decide +kernel
theorem dX4_isFree_18 : decode cX4_isFree 18 = .ok (.goto 4, 3) := by decide +kernel
theorem dX4_isFree_21 : decode cX4_isFree 21 = .ok (.iconst 0, 1) := by decide +kernel
theorem dX4_isFree_22 : decode cX4_isFree 22 = .ok (.ireturn, 1) := by decide +kernel
theorem dX4_freeBlocks_0 : decode cX4_freeBlocks 0 = .ok (.iconst 0, 1) := by decide +kernel
theorem dX4_freeBlocks_1 : decode cX4_freeBlocks 1 = .ok (.istore_n 1, 1) := by decide +kernel
theorem dX4_freeBlocks_2 : decode cX4_freeBlocks 2 = .ok (.iconst 0, 1) := by decide +kernel
theorem dX4_freeBlocks_3 : decode cX4_freeBlocks 3 = .ok (.istore_n 2, 1) := by decide +kernel
theorem dX4_freeBlocks_4 : decode cX4_freeBlocks 4 = .ok (.iload_n 2, 1) := by decide +kernel
theorem dX4_freeBlocks_5 : decode cX4_freeBlocks 5 = .ok (.bipush 6, 2) := by decide +kernel
theorem dX4_freeBlocks_7 : decode cX4_freeBlocks 7 = .ok (.if_icmp .ge 20, 3) := by decide +kernel
theorem dX4_freeBlocks_10 : decode cX4_freeBlocks 10 = .ok (.aload_n 0, 1) := by decide +kernel
theorem dX4_freeBlocks_11 : decode cX4_freeBlocks 11 = .ok (.iload_n 2, 1) := by decide +kernel
theorem dX4_freeBlocks_12 : decode cX4_freeBlocks 12 = .ok (.invokevirtual 101, 3) := by decide +kernel
theorem dX4_freeBlocks_15 : decode cX4_freeBlocks 15 = .ok (.ifCond .eq 6, 3) := by decide +kernel
theorem dX4_freeBlocks_18 : decode cX4_freeBlocks 18 = .ok (.iinc 1 1, 3) := by decide +kernel
theorem dX4_freeBlocks_21 : decode cX4_freeBlocks 21 = .ok (.iinc 2 1, 3) := by decide +kernel
theorem dX4_freeBlocks_24 : decode cX4_freeBlocks 24 = .ok (.goto (-20), 3) := by decide +kernel
theorem dX4_freeBlocks_27 : decode cX4_freeBlocks 27 = .ok (.iload_n 1, 1) := by decide +kernel
theorem dX4_freeBlocks_28 : decode cX4_freeBlocks 28 = .ok (.ireturn, 1) := by decide +kernel
theorem dX4_hasPlace_0 : decode cX4_hasPlace 0 = .ok (.iload_n 1, 1) := by decide +kernel
theorem dX4_hasPlace_1 : decode cX4_hasPlace 1 = .ok (.invokestatic 105, 3) := by decide +kernel
theorem dX4_hasPlace_4 : decode cX4_hasPlace 4 = .ok (.ifCond .eq 27, 3) := by decide +kernel
theorem dX4_hasPlace_7 : decode cX4_hasPlace 7 = .ok (.aload_n 0, 1) := by decide +kernel
theorem dX4_hasPlace_8 : decode cX4_hasPlace 8 = .ok (.getfield 37, 3) := by decide +kernel
theorem dX4_hasPlace_11 : decode cX4_hasPlace 11 = .ok (.iload_n 1, 1) := by decide +kernel
theorem dX4_hasPlace_12 : decode cX4_hasPlace 12 = .ok (.iaload, 1) := by decide +kernel
theorem dX4_hasPlace_13 : decode cX4_hasPlace 13 = .ok (.ifCond .lt 18, 3) := by decide +kernel
theorem dX4_hasPlace_16 : decode cX4_hasPlace 16 = .ok (.aload_n 0, 1) := by decide +kernel
theorem dX4_hasPlace_17 : decode cX4_hasPlace 17 = .ok (.getfield 37, 3) := by decide +kernel
theorem dX4_hasPlace_20 : decode cX4_hasPlace 20 = .ok (.iload_n 1, 1) := by decide +kernel
theorem dX4_hasPlace_21 : decode cX4_hasPlace 21 = .ok (.iaload, 1) := by decide +kernel
theorem dX4_hasPlace_22 : decode cX4_hasPlace 22 = .ok (.bipush 48, 2) := by decide +kernel
theorem dX4_hasPlace_24 : decode cX4_hasPlace 24 = .ok (.if_icmp .ge 7, 3) := by decide +kernel
theorem dX4_hasPlace_27 : decode cX4_hasPlace 27 = .ok (.iconst 1, 1) := by decide +kernel
theorem dX4_hasPlace_28 : decode cX4_hasPlace 28 = .ok (.goto 4, 3) := by decide +kernel
theorem dX4_hasPlace_31 : decode cX4_hasPlace 31 = .ok (.iconst 0, 1) := by decide +kernel
theorem dX4_hasPlace_32 : decode cX4_hasPlace 32 = .ok (.ireturn, 1) := by decide +kernel
theorem dX4_pagesIn_0 : decode cX4_pagesIn 0 = .ok (.iconst 0, 1) := by decide +kernel
theorem dX4_pagesIn_1 : decode cX4_pagesIn 1 = .ok (.istore_n 2, 1) := by decide +kernel
theorem dX4_pagesIn_2 : decode cX4_pagesIn 2 = .ok (.iload_n 1, 1) := by decide +kernel
theorem dX4_pagesIn_3 : decode cX4_pagesIn 3 = .ok (.bipush 8, 2) := by decide +kernel
theorem dX4_pagesIn_5 : decode cX4_pagesIn 5 = .ok (.imul, 1) := by decide +kernel
theorem dX4_pagesIn_6 : decode cX4_pagesIn 6 = .ok (.istore_n 3, 1) := by decide +kernel
theorem dX4_pagesIn_7 : decode cX4_pagesIn 7 = .ok (.iload_n 3, 1) := by decide +kernel
theorem dX4_pagesIn_8 : decode cX4_pagesIn 8 = .ok (.istore 4, 2) := by decide +kernel
theorem dX4_pagesIn_10 : decode cX4_pagesIn 10 = .ok (.iload 4, 2) := by decide +kernel
theorem dX4_pagesIn_12 : decode cX4_pagesIn 12 = .ok (.iload_n 3, 1) := by decide +kernel
theorem dX4_pagesIn_13 : decode cX4_pagesIn 13 = .ok (.bipush 8, 2) := by decide +kernel
theorem dX4_pagesIn_15 : decode cX4_pagesIn 15 = .ok (.iadd, 1) := by decide +kernel
theorem dX4_pagesIn_16 : decode cX4_pagesIn 16 = .ok (.if_icmp .ge 22, 3) := by decide +kernel
theorem dX4_pagesIn_19 : decode cX4_pagesIn 19 = .ok (.aload_n 0, 1) := by decide +kernel
theorem dX4_pagesIn_20 : decode cX4_pagesIn 20 = .ok (.getfield 28, 3) := by decide +kernel
theorem dX4_pagesIn_23 : decode cX4_pagesIn 23 = .ok (.iload 4, 2) := by decide +kernel
theorem dX4_pagesIn_25 : decode cX4_pagesIn 25 = .ok (.iaload, 1) := by decide +kernel
theorem dX4_pagesIn_26 : decode cX4_pagesIn 26 = .ok (.ifCond .lt 6, 3) := by decide +kernel
theorem dX4_pagesIn_29 : decode cX4_pagesIn 29 = .ok (.iinc 2 1, 3) := by decide +kernel
theorem dX4_pagesIn_32 : decode cX4_pagesIn 32 = .ok (.iinc 4 1, 3) := by decide +kernel
theorem dX4_pagesIn_35 : decode cX4_pagesIn 35 = .ok (.goto (-25), 3) := by decide +kernel
theorem dX4_pagesIn_38 : decode cX4_pagesIn 38 = .ok (.iload_n 2, 1) := by decide +kernel
theorem dX4_pagesIn_39 : decode cX4_pagesIn 39 = .ok (.ireturn, 1) := by decide +kernel
theorem dX4_pagesInAll_0 : decode cX4_pagesInAll 0 = .ok (.iconst 0, 1) := by decide +kernel
theorem dX4_pagesInAll_1 : decode cX4_pagesInAll 1 = .ok (.istore_n 1, 1) := by decide +kernel
theorem dX4_pagesInAll_2 : decode cX4_pagesInAll 2 = .ok (.iconst 0, 1) := by decide +kernel
theorem dX4_pagesInAll_3 : decode cX4_pagesInAll 3 = .ok (.istore_n 2, 1) := by decide +kernel
theorem dX4_pagesInAll_4 : decode cX4_pagesInAll 4 = .ok (.iload_n 2, 1) := by decide +kernel
theorem dX4_pagesInAll_5 : decode cX4_pagesInAll 5 = .ok (.bipush 6, 2) := by decide +kernel
theorem dX4_pagesInAll_7 : decode cX4_pagesInAll 7 = .ok (.if_icmp .ge 17, 3) := by decide +kernel
theorem dX4_pagesInAll_10 : decode cX4_pagesInAll 10 = .ok (.iload_n 1, 1) := by decide +kernel
theorem dX4_pagesInAll_11 : decode cX4_pagesInAll 11 = .ok (.aload_n 0, 1) := by decide +kernel
theorem dX4_pagesInAll_12 : decode cX4_pagesInAll 12 = .ok (.iload_n 2, 1) := by decide +kernel
theorem dX4_pagesInAll_13 : decode cX4_pagesInAll 13 = .ok (.invokevirtual 108, 3) := by decide +kernel
theorem dX4_pagesInAll_16 : decode cX4_pagesInAll 16 = .ok (.iadd, 1) := by decide +kernel
theorem dX4_pagesInAll_17 : decode cX4_pagesInAll 17 = .ok (.istore_n 1, 1) := by decide +kernel
theorem dX4_pagesInAll_18 : decode cX4_pagesInAll 18 = .ok (.iinc 2 1, 3) := by decide +kernel
theorem dX4_pagesInAll_21 : decode cX4_pagesInAll 21 = .ok (.goto (-17), 3) := by decide +kernel
theorem dX4_pagesInAll_24 : decode cX4_pagesInAll 24 = .ok (.iload_n 1, 1) := by decide +kernel
theorem dX4_pagesInAll_25 : decode cX4_pagesInAll 25 = .ok (.ireturn, 1) := by decide +kernel
theorem dX4_greatestOfPages_0 : decode cX4_greatestOfPages 0 = .ok (.iconst 0, 1) := by decide +kernel
theorem dX4_greatestOfPages_1 : decode cX4_greatestOfPages 1 = .ok (.istore_n 2, 1) := by decide +kernel
theorem dX4_greatestOfPages_2 : decode cX4_greatestOfPages 2 = .ok (.iload_n 1, 1) := by decide +kernel
theorem dX4_greatestOfPages_3 : decode cX4_greatestOfPages 3 = .ok (.bipush 8, 2) := by decide +kernel
theorem dX4_greatestOfPages_5 : decode cX4_greatestOfPages 5 = .ok (.imul, 1) := by decide +kernel
theorem dX4_greatestOfPages_6 : decode cX4_greatestOfPages 6 = .ok (.istore_n 3, 1) := by decide +kernel
theorem dX4_greatestOfPages_7 : decode cX4_greatestOfPages 7 = .ok (.iload_n 3, 1) := by decide +kernel
theorem dX4_greatestOfPages_8 : decode cX4_greatestOfPages 8 = .ok (.istore 4, 2) := by decide +kernel
theorem dX4_greatestOfPages_10 : decode cX4_greatestOfPages 10 = .ok (.iload 4, 2) := by decide +kernel
theorem dX4_greatestOfPages_12 : decode cX4_greatestOfPages 12 = .ok (.iload_n 3, 1) := by decide +kernel
theorem dX4_greatestOfPages_13 : decode cX4_greatestOfPages 13 = .ok (.bipush 8, 2) := by decide +kernel
theorem dX4_greatestOfPages_15 : decode cX4_greatestOfPages 15 = .ok (.iadd, 1) := by decide +kernel
theorem dX4_greatestOfPages_16 : decode cX4_greatestOfPages 16 = .ok (.if_icmp .ge 38, 3) := by decide +kernel
theorem dX4_greatestOfPages_19 : decode cX4_greatestOfPages 19 = .ok (.aload_n 0, 1) := by decide +kernel
theorem dX4_greatestOfPages_20 : decode cX4_greatestOfPages 20 = .ok (.getfield 28, 3) := by decide +kernel
theorem dX4_greatestOfPages_23 : decode cX4_greatestOfPages 23 = .ok (.iload 4, 2) := by decide +kernel
theorem dX4_greatestOfPages_25 : decode cX4_greatestOfPages 25 = .ok (.iaload, 1) := by decide +kernel
theorem dX4_greatestOfPages_26 : decode cX4_greatestOfPages 26 = .ok (.ifCond .lt 22, 3) := by decide +kernel
theorem dX4_greatestOfPages_29 : decode cX4_greatestOfPages 29 = .ok (.aload_n 0, 1) := by decide +kernel
theorem dX4_greatestOfPages_30 : decode cX4_greatestOfPages 30 = .ok (.getfield 31, 3) := by decide +kernel
theorem dX4_greatestOfPages_33 : decode cX4_greatestOfPages 33 = .ok (.iload 4, 2) := by decide +kernel
theorem dX4_greatestOfPages_35 : decode cX4_greatestOfPages 35 = .ok (.iaload, 1) := by decide +kernel
theorem dX4_greatestOfPages_36 : decode cX4_greatestOfPages 36 = .ok (.iload_n 2, 1) := by decide +kernel
theorem dX4_greatestOfPages_37 : decode cX4_greatestOfPages 37 = .ok (.if_icmp .le 11, 3) := by decide +kernel
theorem dX4_greatestOfPages_40 : decode cX4_greatestOfPages 40 = .ok (.aload_n 0, 1) := by decide +kernel
theorem dX4_greatestOfPages_41 : decode cX4_greatestOfPages 41 = .ok (.getfield 31, 3) := by decide +kernel
theorem dX4_greatestOfPages_44 : decode cX4_greatestOfPages 44 = .ok (.iload 4, 2) := by decide +kernel
theorem dX4_greatestOfPages_46 : decode cX4_greatestOfPages 46 = .ok (.iaload, 1) := by decide +kernel
theorem dX4_greatestOfPages_47 : decode cX4_greatestOfPages 47 = .ok (.istore_n 2, 1) := by decide +kernel
theorem dX4_greatestOfPages_48 : decode cX4_greatestOfPages 48 = .ok (.iinc 4 1, 3) := by decide +kernel
theorem dX4_greatestOfPages_51 : decode cX4_greatestOfPages 51 = .ok (.goto (-41), 3) := by decide +kernel
theorem dX4_greatestOfPages_54 : decode cX4_greatestOfPages 54 = .ok (.iload_n 2, 1) := by decide +kernel
theorem dX4_greatestOfPages_55 : decode cX4_greatestOfPages 55 = .ok (.ireturn, 1) := by decide +kernel
theorem dX4_hundredths_0 : decode cX4_hundredths 0 = .ok (.bipush 100, 2) := by decide +kernel
theorem dX4_hundredths_2 : decode cX4_hundredths 2 = .ok (.aload_n 0, 1) := by decide +kernel
theorem dX4_hundredths_3 : decode cX4_hundredths 3 = .ok (.iload_n 1, 1) := by decide +kernel
theorem dX4_hundredths_4 : decode cX4_hundredths 4 = .ok (.invokevirtual 112, 3) := by decide +kernel
theorem dX4_hundredths_7 : decode cX4_hundredths 7 = .ok (.imul, 1) := by decide +kernel
theorem dX4_hundredths_8 : decode cX4_hundredths 8 = .ok (.aload_n 0, 1) := by decide +kernel
theorem dX4_hundredths_9 : decode cX4_hundredths 9 = .ok (.iload_n 1, 1) := by decide +kernel
theorem dX4_hundredths_10 : decode cX4_hundredths 10 = .ok (.invokevirtual 115, 3) := by decide +kernel
theorem dX4_hundredths_13 : decode cX4_hundredths 13 = .ok (.idiv, 1) := by decide +kernel
theorem dX4_hundredths_14 : decode cX4_hundredths 14 = .ok (.ireturn, 1) := by decide +kernel
theorem dX4_greatestHundredths_0 : decode cX4_greatestHundredths 0 = .ok (.iconst 0, 1) := by decide +kernel
theorem dX4_greatestHundredths_1 : decode cX4_greatestHundredths 1 = .ok (.istore_n 1, 1) := by decide +kernel
theorem dX4_greatestHundredths_2 : decode cX4_greatestHundredths 2 = .ok (.iconst 0, 1) := by decide +kernel
theorem dX4_greatestHundredths_3 : decode cX4_greatestHundredths 3 = .ok (.istore_n 2, 1) := by decide +kernel
theorem dX4_greatestHundredths_4 : decode cX4_greatestHundredths 4 = .ok (.iload_n 2, 1) := by decide +kernel
theorem dX4_greatestHundredths_5 : decode cX4_greatestHundredths 5 = .ok (.bipush 6, 2) := by decide +kernel
theorem dX4_greatestHundredths_7 : decode cX4_greatestHundredths 7 = .ok (.if_icmp .ge 19, 3) := by decide +kernel
theorem dX4_greatestHundredths_10 : decode cX4_greatestHundredths 10 = .ok (.iload_n 1, 1) := by decide +kernel
theorem dX4_greatestHundredths_11 : decode cX4_greatestHundredths 11 = .ok (.aload_n 0, 1) := by decide +kernel
theorem dX4_greatestHundredths_12 : decode cX4_greatestHundredths 12 = .ok (.iload_n 2, 1) := by decide +kernel
theorem dX4_greatestHundredths_13 : decode cX4_greatestHundredths 13 = .ok (.invokevirtual 118, 3) := by decide +kernel
theorem dX4_greatestHundredths_16 : decode cX4_greatestHundredths 16 = .ok (.invokestatic 121, 3) := by decide +kernel
theorem dX4_greatestHundredths_19 : decode cX4_greatestHundredths 19 = .ok (.istore_n 1, 1) := by decide +kernel
theorem dX4_greatestHundredths_20 : decode cX4_greatestHundredths 20 = .ok (.iinc 2 1, 3) := by decide +kernel
theorem dX4_greatestHundredths_23 : decode cX4_greatestHundredths 23 = .ok (.goto (-19), 3) := by decide +kernel
theorem dX4_greatestHundredths_26 : decode cX4_greatestHundredths 26 = .ok (.iload_n 1, 1) := by decide +kernel
theorem dX4_greatestHundredths_27 : decode cX4_greatestHundredths 27 = .ok (.ireturn, 1) := by decide +kernel
theorem dX4_isMarked_0 : decode cX4_isMarked 0 = .ok (.aload_n 0, 1) := by decide +kernel
theorem dX4_isMarked_1 : decode cX4_isMarked 1 = .ok (.getfield 18, 3) := by decide +kernel
theorem dX4_isMarked_4 : decode cX4_isMarked 4 = .ok (.iload_n 1, 1) := by decide +kernel
theorem dX4_isMarked_5 : decode cX4_isMarked 5 = .ok (.baload, 1) := by decide +kernel
theorem dX4_isMarked_6 : decode cX4_isMarked 6 = .ok (.ifCond .ne 34, 3) := by decide +kernel
theorem dX4_isMarked_9 : decode cX4_isMarked 9 = .ok (.aload_n 0, 1) := by decide +kernel
theorem dX4_isMarked_10 : decode cX4_isMarked 10 = .ok (.iload_n 1, 1) := by decide +kernel
theorem dX4_isMarked_11 : decode cX4_isMarked 11 = .ok (.invokevirtual 127, 3) := by decide +kernel
theorem dX4_isMarked_14 : decode cX4_isMarked 14 = .ok (.ifCond .ne 26, 3) := by decide +kernel
theorem dX4_isMarked_17 : decode cX4_isMarked 17 = .ok (.bipush 100, 2) := by decide +kernel
theorem dX4_isMarked_19 : decode cX4_isMarked 19 = .ok (.aload_n 0, 1) := by decide +kernel
theorem dX4_isMarked_20 : decode cX4_isMarked 20 = .ok (.iload_n 1, 1) := by decide +kernel
theorem dX4_isMarked_21 : decode cX4_isMarked 21 = .ok (.invokevirtual 112, 3) := by decide +kernel
theorem dX4_isMarked_24 : decode cX4_isMarked 24 = .ok (.imul, 1) := by decide +kernel
theorem dX4_isMarked_25 : decode cX4_isMarked 25 = .ok (.aload_n 0, 1) := by decide +kernel
theorem dX4_isMarked_26 : decode cX4_isMarked 26 = .ok (.getfield 43, 3) := by decide +kernel
theorem dX4_isMarked_29 : decode cX4_isMarked 29 = .ok (.iconst 0, 1) := by decide +kernel
theorem dX4_isMarked_30 : decode cX4_isMarked 30 = .ok (.iaload, 1) := by decide +kernel
theorem dX4_isMarked_31 : decode cX4_isMarked 31 = .ok (.aload_n 0, 1) := by decide +kernel
theorem dX4_isMarked_32 : decode cX4_isMarked 32 = .ok (.iload_n 1, 1) := by decide +kernel
theorem dX4_isMarked_33 : decode cX4_isMarked 33 = .ok (.invokevirtual 115, 3) := by decide +kernel
theorem dX4_isMarked_36 : decode cX4_isMarked 36 = .ok (.imul, 1) := by decide +kernel
theorem dX4_isMarked_37 : decode cX4_isMarked 37 = .ok (.if_icmp .lt 7, 3) := by decide +kernel
theorem dX4_isMarked_40 : decode cX4_isMarked 40 = .ok (.iconst 1, 1) := by decide +kernel
theorem dX4_isMarked_41 : decode cX4_isMarked 41 = .ok (.goto 4, 3) := by decide +kernel
theorem dX4_isMarked_44 : decode cX4_isMarked 44 = .ok (.iconst 0, 1) := by decide +kernel
theorem dX4_isMarked_45 : decode cX4_isMarked 45 = .ok (.ireturn, 1) := by decide +kernel
theorem dX4_isOld_0 : decode cX4_isOld 0 = .ok (.iload_n 1, 1) := by decide +kernel
theorem dX4_isOld_1 : decode cX4_isOld 1 = .ok (.bipush 8, 2) := by decide +kernel
theorem dX4_isOld_3 : decode cX4_isOld 3 = .ok (.imul, 1) := by decide +kernel
theorem dX4_isOld_4 : decode cX4_isOld 4 = .ok (.istore_n 2, 1) := by decide +kernel
theorem dX4_isOld_5 : decode cX4_isOld 5 = .ok (.iload_n 2, 1) := by decide +kernel
theorem dX4_isOld_6 : decode cX4_isOld 6 = .ok (.istore_n 3, 1) := by decide +kernel
theorem dX4_isOld_7 : decode cX4_isOld 7 = .ok (.iload_n 3, 1) := by decide +kernel
theorem dX4_isOld_8 : decode cX4_isOld 8 = .ok (.iload_n 2, 1) := by decide +kernel
theorem dX4_isOld_9 : decode cX4_isOld 9 = .ok (.bipush 8, 2) := by decide +kernel
theorem dX4_isOld_11 : decode cX4_isOld 11 = .ok (.iadd, 1) := by decide +kernel
theorem dX4_isOld_12 : decode cX4_isOld 12 = .ok (.if_icmp .ge 40, 3) := by decide +kernel
theorem dX4_isOld_15 : decode cX4_isOld 15 = .ok (.aload_n 0, 1) := by decide +kernel
theorem dX4_isOld_16 : decode cX4_isOld 16 = .ok (.getfield 28, 3) := by decide +kernel
theorem dX4_isOld_19 : decode cX4_isOld 19 = .ok (.iload_n 3, 1) := by decide +kernel
theorem dX4_isOld_20 : decode cX4_isOld 20 = .ok (.iaload, 1) := by decide +kernel
theorem dX4_isOld_21 : decode cX4_isOld 21 = .ok (.ifCond .lt 25, 3) := by decide +kernel
theorem dX4_isOld_24 : decode cX4_isOld 24 = .ok (.aload_n 0, 1) := by decide +kernel
theorem dX4_isOld_25 : decode cX4_isOld 25 = .ok (.getfield 64, 3) := by decide +kernel
theorem dX4_isOld_28 : decode cX4_isOld 28 = .ok (.aload_n 0, 1) := by decide +kernel
theorem dX4_isOld_29 : decode cX4_isOld 29 = .ok (.getfield 34, 3) := by decide +kernel
theorem dX4_isOld_32 : decode cX4_isOld 32 = .ok (.iload_n 3, 1) := by decide +kernel
theorem dX4_isOld_33 : decode cX4_isOld 33 = .ok (.iaload, 1) := by decide +kernel
theorem dX4_isOld_34 : decode cX4_isOld 34 = .ok (.isub, 1) := by decide +kernel
theorem dX4_isOld_35 : decode cX4_isOld 35 = .ok (.aload_n 0, 1) := by decide +kernel
theorem dX4_isOld_36 : decode cX4_isOld 36 = .ok (.getfield 43, 3) := by decide +kernel
theorem dX4_isOld_39 : decode cX4_isOld 39 = .ok (.iconst 1, 1) := by decide +kernel
theorem dX4_isOld_40 : decode cX4_isOld 40 = .ok (.iaload, 1) := by decide +kernel
theorem dX4_isOld_41 : decode cX4_isOld 41 = .ok (.if_icmp .lt 5, 3) := by decide +kernel
theorem dX4_isOld_44 : decode cX4_isOld 44 = .ok (.iconst 1, 1) := by decide +kernel
theorem dX4_isOld_45 : decode cX4_isOld 45 = .ok (.ireturn, 1) := by decide +kernel
theorem dX4_isOld_46 : decode cX4_isOld 46 = .ok (.iinc 3 1, 3) := by decide +kernel
theorem dX4_isOld_49 : decode cX4_isOld 49 = .ok (.goto (-42), 3) := by decide +kernel
theorem dX4_isOld_52 : decode cX4_isOld 52 = .ok (.iconst 0, 1) := by decide +kernel
theorem dX4_isOld_53 : decode cX4_isOld 53 = .ok (.ireturn, 1) := by decide +kernel
theorem dX4_markedBlocks_0 : decode cX4_markedBlocks 0 = .ok (.iconst 0, 1) := by decide +kernel
theorem dX4_markedBlocks_1 : decode cX4_markedBlocks 1 = .ok (.istore_n 1, 1) := by decide +kernel
theorem dX4_markedBlocks_2 : decode cX4_markedBlocks 2 = .ok (.iconst 0, 1) := by decide +kernel
theorem dX4_markedBlocks_3 : decode cX4_markedBlocks 3 = .ok (.istore_n 2, 1) := by decide +kernel
theorem dX4_markedBlocks_4 : decode cX4_markedBlocks 4 = .ok (.iload_n 2, 1) := by decide +kernel
theorem dX4_markedBlocks_5 : decode cX4_markedBlocks 5 = .ok (.bipush 6, 2) := by decide +kernel
theorem dX4_markedBlocks_7 : decode cX4_markedBlocks 7 = .ok (.if_icmp .ge 20, 3) := by decide +kernel
theorem dX4_markedBlocks_10 : decode cX4_markedBlocks 10 = .ok (.aload_n 0, 1) := by decide +kernel
theorem dX4_markedBlocks_11 : decode cX4_markedBlocks 11 = .ok (.iload_n 2, 1) := by decide +kernel
theorem dX4_markedBlocks_12 : decode cX4_markedBlocks 12 = .ok (.invokevirtual 130, 3) := by decide +kernel
theorem dX4_markedBlocks_15 : decode cX4_markedBlocks 15 = .ok (.ifCond .eq 6, 3) := by decide +kernel
theorem dX4_markedBlocks_18 : decode cX4_markedBlocks 18 = .ok (.iinc 1 1, 3) := by decide +kernel
theorem dX4_markedBlocks_21 : decode cX4_markedBlocks 21 = .ok (.iinc 2 1, 3) := by decide +kernel
theorem dX4_markedBlocks_24 : decode cX4_markedBlocks 24 = .ok (.goto (-20), 3) := by decide +kernel
theorem dX4_markedBlocks_27 : decode cX4_markedBlocks 27 = .ok (.iload_n 1, 1) := by decide +kernel
theorem dX4_markedBlocks_28 : decode cX4_markedBlocks 28 = .ok (.ireturn, 1) := by decide +kernel
theorem dX4_firstMarked_0 : decode cX4_firstMarked 0 = .ok (.iconst (-1), 1) := by decide +kernel
theorem dX4_firstMarked_1 : decode cX4_firstMarked 1 = .ok (.istore_n 1, 1) := by decide +kernel
theorem dX4_firstMarked_2 : decode cX4_firstMarked 2 = .ok (.iconst (-1), 1) := by decide +kernel
theorem dX4_firstMarked_3 : decode cX4_firstMarked 3 = .ok (.istore_n 2, 1) := by decide +kernel
theorem dX4_firstMarked_4 : decode cX4_firstMarked 4 = .ok (.iconst 0, 1) := by decide +kernel
theorem dX4_firstMarked_5 : decode cX4_firstMarked 5 = .ok (.istore_n 3, 1) := by decide +kernel
theorem dX4_firstMarked_6 : decode cX4_firstMarked 6 = .ok (.iload_n 3, 1) := by decide +kernel
theorem dX4_firstMarked_7 : decode cX4_firstMarked 7 = .ok (.bipush 6, 2) := by decide +kernel
theorem dX4_firstMarked_9 : decode cX4_firstMarked 9 = .ok (.if_icmp .ge 35, 3) := by decide +kernel
theorem dX4_firstMarked_12 : decode cX4_firstMarked 12 = .ok (.aload_n 0, 1) := by decide +kernel
theorem dX4_firstMarked_13 : decode cX4_firstMarked 13 = .ok (.iload_n 3, 1) := by decide +kernel
theorem dX4_firstMarked_14 : decode cX4_firstMarked 14 = .ok (.invokevirtual 130, 3) := by decide +kernel
theorem dX4_firstMarked_17 : decode cX4_firstMarked 17 = .ok (.ifCond .eq 21, 3) := by decide +kernel
theorem dX4_firstMarked_20 : decode cX4_firstMarked 20 = .ok (.aload_n 0, 1) := by decide +kernel
theorem dX4_firstMarked_21 : decode cX4_firstMarked 21 = .ok (.iload_n 3, 1) := by decide +kernel
theorem dX4_firstMarked_22 : decode cX4_firstMarked 22 = .ok (.invokevirtual 118, 3) := by decide +kernel
theorem dX4_firstMarked_25 : decode cX4_firstMarked 25 = .ok (.istore 4, 2) := by decide +kernel
theorem dX4_firstMarked_27 : decode cX4_firstMarked 27 = .ok (.iload 4, 2) := by decide +kernel
theorem dX4_firstMarked_29 : decode cX4_firstMarked 29 = .ok (.iload_n 2, 1) := by decide +kernel
theorem dX4_firstMarked_30 : decode cX4_firstMarked 30 = .ok (.if_icmp .le 8, 3) := by decide +kernel
theorem dX4_firstMarked_33 : decode cX4_firstMarked 33 = .ok (.iload 4, 2) := by decide +kernel
theorem dX4_firstMarked_35 : decode cX4_firstMarked 35 = .ok (.istore_n 2, 1) := by decide +kernel
theorem dX4_firstMarked_36 : decode cX4_firstMarked 36 = .ok (.iload_n 3, 1) := by decide +kernel
theorem dX4_firstMarked_37 : decode cX4_firstMarked 37 = .ok (.istore_n 1, 1) := by decide +kernel
theorem dX4_firstMarked_38 : decode cX4_firstMarked 38 = .ok (.iinc 3 1, 3) := by decide +kernel
theorem dX4_firstMarked_41 : decode cX4_firstMarked 41 = .ok (.goto (-35), 3) := by decide +kernel
theorem dX4_firstMarked_44 : decode cX4_firstMarked 44 = .ok (.iload_n 1, 1) := by decide +kernel
theorem dX4_firstMarked_45 : decode cX4_firstMarked 45 = .ok (.ireturn, 1) := by decide +kernel
theorem dX4_addedBy_0 : decode cX4_addedBy 0 = .ok (.iload_n 1, 1) := by decide +kernel
theorem dX4_addedBy_1 : decode cX4_addedBy 1 = .ok (.iload_n 2, 1) := by decide +kernel
theorem dX4_addedBy_2 : decode cX4_addedBy 2 = .ok (.if_icmp .ne 5, 3) := by decide +kernel
theorem dX4_addedBy_5 : decode cX4_addedBy 5 = .ok (.iconst 1, 1) := by decide +kernel
theorem dX4_addedBy_6 : decode cX4_addedBy 6 = .ok (.ireturn, 1) := by decide +kernel
theorem dX4_addedBy_7 : decode cX4_addedBy 7 = .ok (.iload_n 1, 1) := by decide +kernel
theorem dX4_addedBy_8 : decode cX4_addedBy 8 = .ok (.iload_n 2, 1) := by decide +kernel
theorem dX4_addedBy_9 : decode cX4_addedBy 9 = .ok (.isub, 1) := by decide +kernel
theorem dX4_addedBy_10 : decode cX4_addedBy 10 = .ok (.invokestatic 133, 3) := by decide +kernel
theorem dX4_addedBy_13 : decode cX4_addedBy 13 = .ok (.istore_n 3, 1) := by decide +kernel
theorem dX4_addedBy_14 : decode cX4_addedBy 14 = .ok (.iload_n 3, 1) := by decide +kernel
theorem dX4_addedBy_15 : decode cX4_addedBy 15 = .ok (.iconst 1, 1) := by decide +kernel
theorem dX4_addedBy_16 : decode cX4_addedBy 16 = .ok (.if_icmp .ne 7, 3) := by decide +kernel
theorem dX4_addedBy_19 : decode cX4_addedBy 19 = .ok (.iconst 4, 1) := by decide +kernel
theorem dX4_addedBy_20 : decode cX4_addedBy 20 = .ok (.goto 13, 3) := by decide +kernel
theorem dX4_addedBy_23 : decode cX4_addedBy 23 = .ok (.iload_n 3, 1) := by decide +kernel
theorem dX4_addedBy_24 : decode cX4_addedBy 24 = .ok (.iconst 2, 1) := by decide +kernel
theorem dX4_addedBy_25 : decode cX4_addedBy 25 = .ok (.if_icmp .ne 7, 3) := by decide +kernel
theorem dX4_addedBy_28 : decode cX4_addedBy 28 = .ok (.iconst 2, 1) := by decide +kernel
theorem dX4_addedBy_29 : decode cX4_addedBy 29 = .ok (.goto 4, 3) := by decide +kernel
theorem dX4_addedBy_32 : decode cX4_addedBy 32 = .ok (.iconst 1, 1) := by decide +kernel
theorem dX4_addedBy_33 : decode cX4_addedBy 33 = .ok (.istore 4, 2) := by decide +kernel
theorem dX4_addedBy_35 : decode cX4_addedBy 35 = .ok (.aload_n 0, 1) := by decide +kernel
theorem dX4_addedBy_36 : decode cX4_addedBy 36 = .ok (.getfield 9, 3) := by decide +kernel
theorem dX4_addedBy_39 : decode cX4_addedBy 39 = .ok (.iload_n 2, 1) := by decide +kernel
theorem dX4_addedBy_40 : decode cX4_addedBy 40 = .ok (.bipush 8, 2) := by decide +kernel
theorem dX4_addedBy_42 : decode cX4_addedBy 42 = .ok (.idiv, 1) := by decide +kernel
theorem dX4_addedBy_43 : decode cX4_addedBy 43 = .ok (.iaload, 1) := by decide +kernel
theorem dX4_addedBy_44 : decode cX4_addedBy 44 = .ok (.iconst 2, 1) := by decide +kernel
theorem dX4_addedBy_45 : decode cX4_addedBy 45 = .ok (.if_icmp .ne 10, 3) := by decide +kernel
theorem dX4_addedBy_48 : decode cX4_addedBy 48 = .ok (.iconst 2, 1) := by decide +kernel
theorem dX4_addedBy_49 : decode cX4_addedBy 49 = .ok (.iload 4, 2) := by decide +kernel
theorem dX4_addedBy_51 : decode cX4_addedBy 51 = .ok (.imul, 1) := by decide +kernel
theorem dX4_addedBy_52 : decode cX4_addedBy 52 = .ok (.goto 5, 3) := by decide +kernel
theorem dX4_addedBy_55 : decode cX4_addedBy 55 = .ok (.iload 4, 2) := by decide +kernel
theorem dX4_addedBy_57 : decode cX4_addedBy 57 = .ok (.ireturn, 1) := by decide +kernel
theorem dX4_readsLeft_0 : decode cX4_readsLeft 0 = .ok (.iload_n 1, 1) := by decide +kernel
theorem dX4_readsLeft_1 : decode cX4_readsLeft 1 = .ok (.iload_n 1, 1) := by decide +kernel
theorem dX4_readsLeft_2 : decode cX4_readsLeft 2 = .ok (.bipush 8, 2) := by decide +kernel
theorem dX4_readsLeft_4 : decode cX4_readsLeft 4 = .ok (.irem, 1) := by decide +kernel
theorem dX4_readsLeft_5 : decode cX4_readsLeft 5 = .ok (.isub, 1) := by decide +kernel
theorem dX4_readsLeft_6 : decode cX4_readsLeft 6 = .ok (.istore_n 2, 1) := by decide +kernel
theorem dX4_readsLeft_7 : decode cX4_readsLeft 7 = .ok (.aload_n 0, 1) := by decide +kernel
theorem dX4_readsLeft_8 : decode cX4_readsLeft 8 = .ok (.iload_n 1, 1) := by decide +kernel
theorem dX4_readsLeft_9 : decode cX4_readsLeft 9 = .ok (.bipush 8, 2) := by decide +kernel
theorem dX4_readsLeft_11 : decode cX4_readsLeft 11 = .ok (.idiv, 1) := by decide +kernel
theorem dX4_readsLeft_12 : decode cX4_readsLeft 12 = .ok (.invokevirtual 115, 3) := by decide +kernel
theorem dX4_readsLeft_15 : decode cX4_readsLeft 15 = .ok (.istore_n 3, 1) := by decide +kernel
theorem dX4_readsLeft_16 : decode cX4_readsLeft 16 = .ok (.iload_n 3, 1) := by decide +kernel
theorem dX4_readsLeft_17 : decode cX4_readsLeft 17 = .ok (.istore 4, 2) := by decide +kernel
theorem dX4_readsLeft_19 : decode cX4_readsLeft 19 = .ok (.iload_n 2, 1) := by decide +kernel
theorem dX4_readsLeft_20 : decode cX4_readsLeft 20 = .ok (.istore 5, 2) := by decide +kernel
theorem dX4_readsLeft_22 : decode cX4_readsLeft 22 = .ok (.iload 5, 2) := by decide +kernel
theorem dX4_readsLeft_24 : decode cX4_readsLeft 24 = .ok (.iload_n 2, 1) := by decide +kernel
theorem dX4_readsLeft_25 : decode cX4_readsLeft 25 = .ok (.bipush 8, 2) := by decide +kernel
theorem dX4_readsLeft_27 : decode cX4_readsLeft 27 = .ok (.iadd, 1) := by decide +kernel
theorem dX4_readsLeft_28 : decode cX4_readsLeft 28 = .ok (.if_icmp .ge 51, 3) := by decide +kernel
theorem dX4_readsLeft_31 : decode cX4_readsLeft 31 = .ok (.aload_n 0, 1) := by decide +kernel
theorem dX4_readsLeft_32 : decode cX4_readsLeft 32 = .ok (.getfield 28, 3) := by decide +kernel
theorem dX4_readsLeft_35 : decode cX4_readsLeft 35 = .ok (.iload 5, 2) := by decide +kernel
theorem dX4_readsLeft_37 : decode cX4_readsLeft 37 = .ok (.iaload, 1) := by decide +kernel
theorem dX4_readsLeft_38 : decode cX4_readsLeft 38 = .ok (.ifCond .lt 35, 3) := by decide +kernel
theorem dX4_readsLeft_41 : decode cX4_readsLeft 41 = .ok (.iconst 1, 1) := by decide +kernel
theorem dX4_readsLeft_42 : decode cX4_readsLeft 42 = .ok (.aload_n 0, 1) := by decide +kernel
theorem dX4_readsLeft_43 : decode cX4_readsLeft 43 = .ok (.iload_n 1, 1) := by decide +kernel
theorem dX4_readsLeft_44 : decode cX4_readsLeft 44 = .ok (.iload 5, 2) := by decide +kernel
theorem dX4_readsLeft_46 : decode cX4_readsLeft 46 = .ok (.invokevirtual 136, 3) := by decide +kernel
theorem dX4_readsLeft_49 : decode cX4_readsLeft 49 = .ok (.invokestatic 121, 3) := by decide +kernel
theorem dX4_readsLeft_52 : decode cX4_readsLeft 52 = .ok (.istore 6, 2) := by decide +kernel
theorem dX4_readsLeft_54 : decode cX4_readsLeft 54 = .ok (.iload 4, 2) := by decide +kernel
theorem dX4_readsLeft_56 : decode cX4_readsLeft 56 = .ok (.iload_n 3, 1) := by decide +kernel
theorem dX4_readsLeft_57 : decode cX4_readsLeft 57 = .ok (.aload_n 0, 1) := by decide +kernel
theorem dX4_readsLeft_58 : decode cX4_readsLeft 58 = .ok (.getfield 31, 3) := by decide +kernel
theorem dX4_readsLeft_61 : decode cX4_readsLeft 61 = .ok (.iload 5, 2) := by decide +kernel
theorem dX4_readsLeft_63 : decode cX4_readsLeft 63 = .ok (.iaload, 1) := by decide +kernel
theorem dX4_readsLeft_64 : decode cX4_readsLeft 64 = .ok (.isub, 1) := by decide +kernel
theorem dX4_readsLeft_65 : decode cX4_readsLeft 65 = .ok (.iload 6, 2) := by decide +kernel
theorem dX4_readsLeft_67 : decode cX4_readsLeft 67 = .ok (.idiv, 1) := by decide +kernel
theorem dX4_readsLeft_68 : decode cX4_readsLeft 68 = .ok (.invokestatic 139, 3) := by decide +kernel
theorem dX4_readsLeft_71 : decode cX4_readsLeft 71 = .ok (.istore 4, 2) := by decide +kernel
theorem dX4_readsLeft_73 : decode cX4_readsLeft 73 = .ok (.iinc 5 1, 3) := by decide +kernel
theorem dX4_readsLeft_76 : decode cX4_readsLeft 76 = .ok (.goto (-54), 3) := by decide +kernel
theorem dX4_readsLeft_79 : decode cX4_readsLeft 79 = .ok (.iload 4, 2) := by decide +kernel
theorem dX4_readsLeft_81 : decode cX4_readsLeft 81 = .ok (.ireturn, 1) := by decide +kernel
theorem dX4_mayRead_0 : decode cX4_mayRead 0 = .ok (.iload_n 1, 1) := by decide +kernel
theorem dX4_mayRead_1 : decode cX4_mayRead 1 = .ok (.iload_n 1, 1) := by decide +kernel
theorem dX4_mayRead_2 : decode cX4_mayRead 2 = .ok (.bipush 8, 2) := by decide +kernel
theorem dX4_mayRead_4 : decode cX4_mayRead 4 = .ok (.irem, 1) := by decide +kernel
theorem dX4_mayRead_5 : decode cX4_mayRead 5 = .ok (.isub, 1) := by decide +kernel
theorem dX4_mayRead_6 : decode cX4_mayRead 6 = .ok (.istore_n 2, 1) := by decide +kernel
theorem dX4_mayRead_7 : decode cX4_mayRead 7 = .ok (.aload_n 0, 1) := by decide +kernel
theorem dX4_mayRead_8 : decode cX4_mayRead 8 = .ok (.iload_n 1, 1) := by decide +kernel
theorem dX4_mayRead_9 : decode cX4_mayRead 9 = .ok (.bipush 8, 2) := by decide +kernel
theorem dX4_mayRead_11 : decode cX4_mayRead 11 = .ok (.idiv, 1) := by decide +kernel
theorem dX4_mayRead_12 : decode cX4_mayRead 12 = .ok (.invokevirtual 115, 3) := by decide +kernel
theorem dX4_mayRead_15 : decode cX4_mayRead 15 = .ok (.istore_n 3, 1) := by decide +kernel
theorem dX4_mayRead_16 : decode cX4_mayRead 16 = .ok (.iload_n 2, 1) := by decide +kernel
theorem dX4_mayRead_17 : decode cX4_mayRead 17 = .ok (.istore 4, 2) := by decide +kernel
theorem dX4_mayRead_19 : decode cX4_mayRead 19 = .ok (.iload 4, 2) := by decide +kernel
theorem dX4_mayRead_21 : decode cX4_mayRead 21 = .ok (.iload_n 2, 1) := by decide +kernel
theorem dX4_mayRead_22 : decode cX4_mayRead 22 = .ok (.bipush 8, 2) := by decide +kernel
theorem dX4_mayRead_24 : decode cX4_mayRead 24 = .ok (.iadd, 1) := by decide +kernel
theorem dX4_mayRead_25 : decode cX4_mayRead 25 = .ok (.if_icmp .ge 40, 3) := by decide +kernel
theorem dX4_mayRead_28 : decode cX4_mayRead 28 = .ok (.aload_n 0, 1) := by decide +kernel
theorem dX4_mayRead_29 : decode cX4_mayRead 29 = .ok (.getfield 28, 3) := by decide +kernel
theorem dX4_mayRead_32 : decode cX4_mayRead 32 = .ok (.iload 4, 2) := by decide +kernel
theorem dX4_mayRead_34 : decode cX4_mayRead 34 = .ok (.iaload, 1) := by decide +kernel
theorem dX4_mayRead_35 : decode cX4_mayRead 35 = .ok (.ifCond .lt 24, 3) := by decide +kernel
theorem dX4_mayRead_38 : decode cX4_mayRead 38 = .ok (.aload_n 0, 1) := by decide +kernel
theorem dX4_mayRead_39 : decode cX4_mayRead 39 = .ok (.getfield 31, 3) := by decide +kernel
theorem dX4_mayRead_42 : decode cX4_mayRead 42 = .ok (.iload 4, 2) := by decide +kernel
theorem dX4_mayRead_44 : decode cX4_mayRead 44 = .ok (.iaload, 1) := by decide +kernel
theorem dX4_mayRead_45 : decode cX4_mayRead 45 = .ok (.aload_n 0, 1) := by decide +kernel
theorem dX4_mayRead_46 : decode cX4_mayRead 46 = .ok (.iload_n 1, 1) := by decide +kernel
theorem dX4_mayRead_47 : decode cX4_mayRead 47 = .ok (.iload 4, 2) := by decide +kernel
theorem dX4_mayRead_49 : decode cX4_mayRead 49 = .ok (.invokevirtual 136, 3) := by decide +kernel
theorem dX4_mayRead_52 : decode cX4_mayRead 52 = .ok (.iadd, 1) := by decide +kernel
theorem dX4_mayRead_53 : decode cX4_mayRead 53 = .ok (.iload_n 3, 1) := by decide +kernel
theorem dX4_mayRead_54 : decode cX4_mayRead 54 = .ok (.if_icmp .le 5, 3) := by decide +kernel
theorem dX4_mayRead_57 : decode cX4_mayRead 57 = .ok (.iconst 0, 1) := by decide +kernel
theorem dX4_mayRead_58 : decode cX4_mayRead 58 = .ok (.ireturn, 1) := by decide +kernel
theorem dX4_mayRead_59 : decode cX4_mayRead 59 = .ok (.iinc 4 1, 3) := by decide +kernel
theorem dX4_mayRead_62 : decode cX4_mayRead 62 = .ok (.goto (-43), 3) := by decide +kernel
theorem dX4_mayRead_65 : decode cX4_mayRead 65 = .ok (.iconst 1, 1) := by decide +kernel
theorem dX4_mayRead_66 : decode cX4_mayRead 66 = .ok (.ireturn, 1) := by decide +kernel
theorem dX4_readPlace_0 : decode cX4_readPlace 0 = .ok (.iload_n 1, 1) := by decide +kernel
theorem dX4_readPlace_1 : decode cX4_readPlace 1 = .ok (.iload_n 1, 1) := by decide +kernel
theorem dX4_readPlace_2 : decode cX4_readPlace 2 = .ok (.bipush 8, 2) := by decide +kernel
theorem dX4_readPlace_4 : decode cX4_readPlace 4 = .ok (.irem, 1) := by decide +kernel
theorem dX4_readPlace_5 : decode cX4_readPlace 5 = .ok (.isub, 1) := by decide +kernel
theorem dX4_readPlace_6 : decode cX4_readPlace 6 = .ok (.istore_n 2, 1) := by decide +kernel
theorem dX4_readPlace_7 : decode cX4_readPlace 7 = .ok (.iload_n 2, 1) := by decide +kernel
theorem dX4_readPlace_8 : decode cX4_readPlace 8 = .ok (.istore_n 3, 1) := by decide +kernel
theorem dX4_readPlace_9 : decode cX4_readPlace 9 = .ok (.iload_n 3, 1) := by decide +kernel
theorem dX4_readPlace_10 : decode cX4_readPlace 10 = .ok (.iload_n 2, 1) := by decide +kernel
theorem dX4_readPlace_11 : decode cX4_readPlace 11 = .ok (.bipush 8, 2) := by decide +kernel
theorem dX4_readPlace_13 : decode cX4_readPlace 13 = .ok (.iadd, 1) := by decide +kernel
theorem dX4_readPlace_14 : decode cX4_readPlace 14 = .ok (.if_icmp .ge 33, 3) := by decide +kernel
theorem dX4_readPlace_17 : decode cX4_readPlace 17 = .ok (.aload_n 0, 1) := by decide +kernel
theorem dX4_readPlace_18 : decode cX4_readPlace 18 = .ok (.getfield 28, 3) := by decide +kernel
theorem dX4_readPlace_21 : decode cX4_readPlace 21 = .ok (.iload_n 3, 1) := by decide +kernel
theorem dX4_readPlace_22 : decode cX4_readPlace 22 = .ok (.iaload, 1) := by decide +kernel
theorem dX4_readPlace_23 : decode cX4_readPlace 23 = .ok (.ifCond .lt 18, 3) := by decide +kernel
theorem dX4_readPlace_26 : decode cX4_readPlace 26 = .ok (.aload_n 0, 1) := by decide +kernel
theorem dX4_readPlace_27 : decode cX4_readPlace 27 = .ok (.getfield 31, 3) := by decide +kernel
theorem dX4_readPlace_30 : decode cX4_readPlace 30 = .ok (.iload_n 3, 1) := by decide +kernel
theorem dX4_readPlace_31 : decode cX4_readPlace 31 = .ok (.dup2, 1) := by decide +kernel
theorem dX4_readPlace_32 : decode cX4_readPlace 32 = .ok (.iaload, 1) := by decide +kernel
theorem dX4_readPlace_33 : decode cX4_readPlace 33 = .ok (.aload_n 0, 1) := by decide +kernel
theorem dX4_readPlace_34 : decode cX4_readPlace 34 = .ok (.iload_n 1, 1) := by decide +kernel
theorem dX4_readPlace_35 : decode cX4_readPlace 35 = .ok (.iload_n 3, 1) := by decide +kernel
theorem dX4_readPlace_36 : decode cX4_readPlace 36 = .ok (.invokevirtual 136, 3) := by decide +kernel
theorem dX4_readPlace_39 : decode cX4_readPlace 39 = .ok (.iadd, 1) := by decide +kernel
theorem dX4_readPlace_40 : decode cX4_readPlace 40 = .ok (.iastore, 1) := by decide +kernel
theorem dX4_readPlace_41 : decode cX4_readPlace 41 = .ok (.iinc 3 1, 3) := by decide +kernel
theorem dX4_readPlace_44 : decode cX4_readPlace 44 = .ok (.goto (-35), 3) := by decide +kernel
theorem dX4_readPlace_47 : decode cX4_readPlace 47 = .ok (.aload_n 0, 1) := by decide +kernel
theorem dX4_readPlace_48 : decode cX4_readPlace 48 = .ok (.getfield 22, 3) := by decide +kernel
theorem dX4_readPlace_51 : decode cX4_readPlace 51 = .ok (.iload_n 1, 1) := by decide +kernel
theorem dX4_readPlace_52 : decode cX4_readPlace 52 = .ok (.bipush 8, 2) := by decide +kernel
theorem dX4_readPlace_54 : decode cX4_readPlace 54 = .ok (.idiv, 1) := by decide +kernel
theorem dX4_readPlace_55 : decode cX4_readPlace 55 = .ok (.dup2, 1) := by decide +kernel
theorem dX4_readPlace_56 : decode cX4_readPlace 56 = .ok (.iaload, 1) := by decide +kernel
theorem dX4_readPlace_57 : decode cX4_readPlace 57 = .ok (.iconst 1, 1) := by decide +kernel
theorem dX4_readPlace_58 : decode cX4_readPlace 58 = .ok (.iadd, 1) := by decide +kernel
theorem dX4_readPlace_59 : decode cX4_readPlace 59 = .ok (.iastore, 1) := by decide +kernel
theorem dX4_readPlace_60 : decode cX4_readPlace 60 = .ok (.return_, 1) := by decide +kernel
theorem dX4_blockWithRoom_0 : decode cX4_blockWithRoom 0 = .ok (.aload_n 0, 1) := by decide +kernel
theorem dX4_blockWithRoom_1 : decode cX4_blockWithRoom 1 = .ok (.getfield 60, 3) := by decide +kernel
theorem dX4_blockWithRoom_4 : decode cX4_blockWithRoom 4 = .ok (.invokestatic 142, 3) := by decide +kernel
theorem dX4_blockWithRoom_7 : decode cX4_blockWithRoom 7 = .ok (.ifCond .eq 22, 3) := by decide +kernel
theorem dX4_blockWithRoom_10 : decode cX4_blockWithRoom 10 = .ok (.aload_n 0, 1) := by decide +kernel
theorem dX4_blockWithRoom_11 : decode cX4_blockWithRoom 11 = .ok (.getfield 25, 3) := by decide +kernel
theorem dX4_blockWithRoom_14 : decode cX4_blockWithRoom 14 = .ok (.aload_n 0, 1) := by decide +kernel
theorem dX4_blockWithRoom_15 : decode cX4_blockWithRoom 15 = .ok (.getfield 60, 3) := by decide +kernel
theorem dX4_blockWithRoom_18 : decode cX4_blockWithRoom 18 = .ok (.iaload, 1) := by decide +kernel
theorem dX4_blockWithRoom_19 : decode cX4_blockWithRoom 19 = .ok (.bipush 8, 2) := by decide +kernel
theorem dX4_blockWithRoom_21 : decode cX4_blockWithRoom 21 = .ok (.if_icmp .ge 8, 3) := by decide +kernel
theorem dX4_blockWithRoom_24 : decode cX4_blockWithRoom 24 = .ok (.aload_n 0, 1) := by decide +kernel
theorem dX4_blockWithRoom_25 : decode cX4_blockWithRoom 25 = .ok (.getfield 60, 3) := by decide +kernel
theorem dX4_blockWithRoom_28 : decode cX4_blockWithRoom 28 = .ok (.ireturn, 1) := by decide +kernel
theorem dX4_blockWithRoom_29 : decode cX4_blockWithRoom 29 = .ok (.iconst (-1), 1) := by decide +kernel
theorem dX4_blockWithRoom_30 : decode cX4_blockWithRoom 30 = .ok (.istore_n 1, 1) := by decide +kernel
theorem dX4_blockWithRoom_31 : decode cX4_blockWithRoom 31 = .ok (.iconst 0, 1) := by decide +kernel
theorem dX4_blockWithRoom_32 : decode cX4_blockWithRoom 32 = .ok (.istore_n 2, 1) := by decide +kernel
theorem dX4_blockWithRoom_33 : decode cX4_blockWithRoom 33 = .ok (.iconst 0, 1) := by decide +kernel
theorem dX4_blockWithRoom_34 : decode cX4_blockWithRoom 34 = .ok (.istore_n 3, 1) := by decide +kernel
theorem dX4_blockWithRoom_35 : decode cX4_blockWithRoom 35 = .ok (.iload_n 3, 1) := by decide +kernel
theorem dX4_blockWithRoom_36 : decode cX4_blockWithRoom 36 = .ok (.bipush 6, 2) := by decide +kernel
theorem dX4_blockWithRoom_38 : decode cX4_blockWithRoom 38 = .ok (.if_icmp .ge 41, 3) := by decide +kernel
theorem dX4_blockWithRoom_41 : decode cX4_blockWithRoom 41 = .ok (.aload_n 0, 1) := by decide +kernel
theorem dX4_blockWithRoom_42 : decode cX4_blockWithRoom 42 = .ok (.iload_n 3, 1) := by decide +kernel
theorem dX4_blockWithRoom_43 : decode cX4_blockWithRoom 43 = .ok (.invokevirtual 101, 3) := by decide +kernel
theorem dX4_blockWithRoom_46 : decode cX4_blockWithRoom 46 = .ok (.ifCond .eq 27, 3) := by decide +kernel
theorem dX4_blockWithRoom_49 : decode cX4_blockWithRoom 49 = .ok (.iload_n 1, 1) := by decide +kernel
theorem dX4_blockWithRoom_50 : decode cX4_blockWithRoom 50 = .ok (.iconst (-1), 1) := by decide +kernel
theorem dX4_blockWithRoom_51 : decode cX4_blockWithRoom 51 = .ok (.if_icmp .eq 13, 3) := by decide +kernel
theorem dX4_blockWithRoom_54 : decode cX4_blockWithRoom 54 = .ok (.aload_n 0, 1) := by decide +kernel
theorem dX4_blockWithRoom_55 : decode cX4_blockWithRoom 55 = .ok (.getfield 15, 3) := by decide +kernel
theorem dX4_blockWithRoom_58 : decode cX4_blockWithRoom 58 = .ok (.iload_n 3, 1) := by decide +kernel
theorem dX4_blockWithRoom_59 : decode cX4_blockWithRoom 59 = .ok (.iaload, 1) := by decide +kernel
theorem dX4_blockWithRoom_60 : decode cX4_blockWithRoom 60 = .ok (.iload_n 2, 1) := by decide +kernel
theorem dX4_blockWithRoom_61 : decode cX4_blockWithRoom 61 = .ok (.if_icmp .ge 12, 3) := by decide +kernel
theorem dX4_blockWithRoom_64 : decode cX4_blockWithRoom 64 = .ok (.iload_n 3, 1) := by decide +kernel
theorem dX4_blockWithRoom_65 : decode cX4_blockWithRoom 65 = .ok (.istore_n 1, 1) := by decide +kernel
theorem dX4_blockWithRoom_66 : decode cX4_blockWithRoom 66 = .ok (.aload_n 0, 1) := by decide +kernel
theorem dX4_blockWithRoom_67 : decode cX4_blockWithRoom 67 = .ok (.getfield 15, 3) := by decide +kernel
theorem dX4_blockWithRoom_70 : decode cX4_blockWithRoom 70 = .ok (.iload_n 3, 1) := by decide +kernel
theorem dX4_blockWithRoom_71 : decode cX4_blockWithRoom 71 = .ok (.iaload, 1) := by decide +kernel
theorem dX4_blockWithRoom_72 : decode cX4_blockWithRoom 72 = .ok (.istore_n 2, 1) := by decide +kernel
theorem dX4_blockWithRoom_73 : decode cX4_blockWithRoom 73 = .ok (.iinc 3 1, 3) := by decide +kernel
theorem dX4_blockWithRoom_76 : decode cX4_blockWithRoom 76 = .ok (.goto (-41), 3) := by decide +kernel
theorem dX4_blockWithRoom_79 : decode cX4_blockWithRoom 79 = .ok (.iload_n 1, 1) := by decide +kernel
theorem dX4_blockWithRoom_80 : decode cX4_blockWithRoom 80 = .ok (.ireturn, 1) := by decide +kernel
theorem dX4_putInto_0 : decode cX4_putInto 0 = .ok (.iload_n 2, 1) := by decide +kernel
theorem dX4_putInto_1 : decode cX4_putInto 1 = .ok (.invokestatic 105, 3) := by decide +kernel
theorem dX4_putInto_4 : decode cX4_putInto 4 = .ok (.ifCond .eq 23, 3) := by decide +kernel
theorem dX4_putInto_7 : decode cX4_putInto 7 = .ok (.aload_n 0, 1) := by decide +kernel
theorem dX4_putInto_8 : decode cX4_putInto 8 = .ok (.getfield 25, 3) := by decide +kernel
theorem dX4_putInto_11 : decode cX4_putInto 11 = .ok (.iload_n 1, 1) := by decide +kernel
theorem dX4_putInto_12 : decode cX4_putInto 12 = .ok (.iaload, 1) := by decide +kernel
theorem dX4_putInto_13 : decode cX4_putInto 13 = .ok (.ifCond .lt 14, 3) := by decide +kernel
theorem dX4_putInto_16 : decode cX4_putInto 16 = .ok (.aload_n 0, 1) := by decide +kernel
theorem dX4_putInto_17 : decode cX4_putInto 17 = .ok (.getfield 25, 3) := by decide +kernel
theorem dX4_putInto_20 : decode cX4_putInto 20 = .ok (.iload_n 1, 1) := by decide +kernel
theorem dX4_putInto_21 : decode cX4_putInto 21 = .ok (.iaload, 1) := by decide +kernel
theorem dX4_putInto_22 : decode cX4_putInto 22 = .ok (.bipush 8, 2) := by decide +kernel
theorem dX4_putInto_24 : decode cX4_putInto 24 = .ok (.if_icmp .lt 4, 3) := by decide +kernel
theorem dX4_putInto_27 : decode cX4_putInto 27 = .ok (.return_, 1) := by decide +kernel
theorem dX4_putInto_28 : decode cX4_putInto 28 = .ok (.aload_n 0, 1) := by decide +kernel
theorem dX4_putInto_29 : decode cX4_putInto 29 = .ok (.iload_n 1, 1) := by decide +kernel
theorem dX4_putInto_30 : decode cX4_putInto 30 = .ok (.putfield 60, 3) := by decide +kernel
theorem dX4_putInto_33 : decode cX4_putInto 33 = .ok (.aload_n 0, 1) := by decide +kernel
theorem dX4_putInto_34 : decode cX4_putInto 34 = .ok (.iload_n 2, 1) := by decide +kernel
theorem dX4_putInto_35 : decode cX4_putInto 35 = .ok (.invokevirtual 145, 3) := by decide +kernel
theorem dX4_putInto_38 : decode cX4_putInto 38 = .ok (.iload_n 1, 1) := by decide +kernel
theorem dX4_putInto_39 : decode cX4_putInto 39 = .ok (.bipush 8, 2) := by decide +kernel
theorem dX4_putInto_41 : decode cX4_putInto 41 = .ok (.imul, 1) := by decide +kernel
theorem dX4_putInto_42 : decode cX4_putInto 42 = .ok (.aload_n 0, 1) := by decide +kernel
theorem dX4_putInto_43 : decode cX4_putInto 43 = .ok (.getfield 25, 3) := by decide +kernel
theorem dX4_putInto_46 : decode cX4_putInto 46 = .ok (.iload_n 1, 1) := by decide +kernel
theorem dX4_putInto_47 : decode cX4_putInto 47 = .ok (.iaload, 1) := by decide +kernel
theorem dX4_putInto_48 : decode cX4_putInto 48 = .ok (.iadd, 1) := by decide +kernel
theorem dX4_putInto_49 : decode cX4_putInto 49 = .ok (.istore_n 3, 1) := by decide +kernel
theorem dX4_putInto_50 : decode cX4_putInto 50 = .ok (.aload_n 0, 1) := by decide +kernel
theorem dX4_putInto_51 : decode cX4_putInto 51 = .ok (.getfield 25, 3) := by decide +kernel
theorem dX4_putInto_54 : decode cX4_putInto 54 = .ok (.iload_n 1, 1) := by decide +kernel
theorem dX4_putInto_55 : decode cX4_putInto 55 = .ok (.dup2, 1) := by decide +kernel
theorem dX4_putInto_56 : decode cX4_putInto 56 = .ok (.iaload, 1) := by decide +kernel
theorem dX4_putInto_57 : decode cX4_putInto 57 = .ok (.iconst 1, 1) := by decide +kernel
theorem dX4_putInto_58 : decode cX4_putInto 58 = .ok (.iadd, 1) := by decide +kernel
theorem dX4_putInto_59 : decode cX4_putInto 59 = .ok (.iastore, 1) := by decide +kernel
theorem dX4_putInto_60 : decode cX4_putInto 60 = .ok (.aload_n 0, 1) := by decide +kernel
theorem dX4_putInto_61 : decode cX4_putInto 61 = .ok (.getfield 28, 3) := by decide +kernel
theorem dX4_putInto_64 : decode cX4_putInto 64 = .ok (.iload_n 3, 1) := by decide +kernel
theorem dX4_putInto_65 : decode cX4_putInto 65 = .ok (.iload_n 2, 1) := by decide +kernel
theorem dX4_putInto_66 : decode cX4_putInto 66 = .ok (.iastore, 1) := by decide +kernel
theorem dX4_putInto_67 : decode cX4_putInto 67 = .ok (.aload_n 0, 1) := by decide +kernel
theorem dX4_putInto_68 : decode cX4_putInto 68 = .ok (.getfield 31, 3) := by decide +kernel
theorem dX4_putInto_71 : decode cX4_putInto 71 = .ok (.iload_n 3, 1) := by decide +kernel
theorem dX4_putInto_72 : decode cX4_putInto 72 = .ok (.iconst 0, 1) := by decide +kernel
theorem dX4_putInto_73 : decode cX4_putInto 73 = .ok (.iastore, 1) := by decide +kernel
theorem dX4_putInto_74 : decode cX4_putInto 74 = .ok (.aload_n 0, 1) := by decide +kernel
theorem dX4_putInto_75 : decode cX4_putInto 75 = .ok (.getfield 34, 3) := by decide +kernel
theorem dX4_putInto_78 : decode cX4_putInto 78 = .ok (.iload_n 3, 1) := by decide +kernel
theorem dX4_putInto_79 : decode cX4_putInto 79 = .ok (.aload_n 0, 1) := by decide +kernel
theorem dX4_putInto_80 : decode cX4_putInto 80 = .ok (.getfield 64, 3) := by decide +kernel
theorem dX4_putInto_83 : decode cX4_putInto 83 = .ok (.iastore, 1) := by decide +kernel
theorem dX4_putInto_84 : decode cX4_putInto 84 = .ok (.aload_n 0, 1) := by decide +kernel
theorem dX4_putInto_85 : decode cX4_putInto 85 = .ok (.getfield 37, 3) := by decide +kernel
theorem dX4_putInto_88 : decode cX4_putInto 88 = .ok (.iload_n 2, 1) := by decide +kernel
theorem dX4_putInto_89 : decode cX4_putInto 89 = .ok (.iload_n 3, 1) := by decide +kernel
theorem dX4_putInto_90 : decode cX4_putInto 90 = .ok (.iastore, 1) := by decide +kernel
theorem dX4_putInto_91 : decode cX4_putInto 91 = .ok (.return_, 1) := by decide +kernel
theorem dX4_dropPlace_0 : decode cX4_dropPlace 0 = .ok (.aload_n 0, 1) := by decide +kernel
theorem dX4_dropPlace_1 : decode cX4_dropPlace 1 = .ok (.getfield 37, 3) := by decide +kernel
theorem dX4_dropPlace_4 : decode cX4_dropPlace 4 = .ok (.iload_n 1, 1) := by decide +kernel
theorem dX4_dropPlace_5 : decode cX4_dropPlace 5 = .ok (.iaload, 1) := by decide +kernel
theorem dX4_dropPlace_6 : decode cX4_dropPlace 6 = .ok (.istore_n 2, 1) := by decide +kernel
theorem dX4_dropPlace_7 : decode cX4_dropPlace 7 = .ok (.iload_n 2, 1) := by decide +kernel
theorem dX4_dropPlace_8 : decode cX4_dropPlace 8 = .ok (.ifCond .lt 17, 3) := by decide +kernel
theorem dX4_dropPlace_11 : decode cX4_dropPlace 11 = .ok (.iload_n 2, 1) := by decide +kernel
theorem dX4_dropPlace_12 : decode cX4_dropPlace 12 = .ok (.bipush 48, 2) := by decide +kernel
theorem dX4_dropPlace_14 : decode cX4_dropPlace 14 = .ok (.if_icmp .ge 11, 3) := by decide +kernel
theorem dX4_dropPlace_17 : decode cX4_dropPlace 17 = .ok (.aload_n 0, 1) := by decide +kernel
theorem dX4_dropPlace_18 : decode cX4_dropPlace 18 = .ok (.getfield 28, 3) := by decide +kernel
theorem dX4_dropPlace_21 : decode cX4_dropPlace 21 = .ok (.iload_n 2, 1) := by decide +kernel
theorem dX4_dropPlace_22 : decode cX4_dropPlace 22 = .ok (.bipush (-2), 2) := by decide +kernel
theorem dX4_dropPlace_24 : decode cX4_dropPlace 24 = .ok (.iastore, 1) := by decide +kernel
theorem dX4_dropPlace_25 : decode cX4_dropPlace 25 = .ok (.aload_n 0, 1) := by decide +kernel
theorem dX4_dropPlace_26 : decode cX4_dropPlace 26 = .ok (.getfield 37, 3) := by decide +kernel
theorem dX4_dropPlace_29 : decode cX4_dropPlace 29 = .ok (.iload_n 1, 1) := by decide +kernel
theorem dX4_dropPlace_30 : decode cX4_dropPlace 30 = .ok (.iconst (-1), 1) := by decide +kernel
theorem dX4_dropPlace_31 : decode cX4_dropPlace 31 = .ok (.iastore, 1) := by decide +kernel
theorem dX4_dropPlace_32 : decode cX4_dropPlace 32 = .ok (.return_, 1) := by decide +kernel
theorem dX4_lowestPlaceWithPage_0 : decode cX4_lowestPlaceWithPage 0 = .ok (.iload_n 1, 1) := by decide +kernel
theorem dX4_lowestPlaceWithPage_1 : decode cX4_lowestPlaceWithPage 1 = .ok (.bipush 8, 2) := by decide +kernel
theorem dX4_lowestPlaceWithPage_3 : decode cX4_lowestPlaceWithPage 3 = .ok (.imul, 1) := by decide +kernel
theorem dX4_lowestPlaceWithPage_4 : decode cX4_lowestPlaceWithPage 4 = .ok (.istore_n 2, 1) := by decide +kernel
theorem dX4_lowestPlaceWithPage_5 : decode cX4_lowestPlaceWithPage 5 = .ok (.iload_n 2, 1) := by decide +kernel
theorem dX4_lowestPlaceWithPage_6 : decode cX4_lowestPlaceWithPage 6 = .ok (.istore_n 3, 1) := by decide +kernel
theorem dX4_lowestPlaceWithPage_7 : decode cX4_lowestPlaceWithPage 7 = .ok (.iload_n 3, 1) := by decide +kernel
theorem dX4_lowestPlaceWithPage_8 : decode cX4_lowestPlaceWithPage 8 = .ok (.iload_n 2, 1) := by decide +kernel
theorem dX4_lowestPlaceWithPage_9 : decode cX4_lowestPlaceWithPage 9 = .ok (.bipush 8, 2) := by decide +kernel
theorem dX4_lowestPlaceWithPage_11 : decode cX4_lowestPlaceWithPage 11 = .ok (.iadd, 1) := by decide +kernel
theorem dX4_lowestPlaceWithPage_12 : decode cX4_lowestPlaceWithPage 12 = .ok (.if_icmp .ge 20, 3) := by decide +kernel
theorem dX4_lowestPlaceWithPage_15 : decode cX4_lowestPlaceWithPage 15 = .ok (.aload_n 0, 1) := by decide +kernel
theorem dX4_lowestPlaceWithPage_16 : decode cX4_lowestPlaceWithPage 16 = .ok (.getfield 28, 3) := by decide +kernel
theorem dX4_lowestPlaceWithPage_19 : decode cX4_lowestPlaceWithPage 19 = .ok (.iload_n 3, 1) := by decide +kernel
theorem dX4_lowestPlaceWithPage_20 : decode cX4_lowestPlaceWithPage 20 = .ok (.iaload, 1) := by decide +kernel
theorem dX4_lowestPlaceWithPage_21 : decode cX4_lowestPlaceWithPage 21 = .ok (.ifCond .lt 5, 3) := by decide +kernel
theorem dX4_lowestPlaceWithPage_24 : decode cX4_lowestPlaceWithPage 24 = .ok (.iload_n 3, 1) := by decide +kernel
theorem dX4_lowestPlaceWithPage_25 : decode cX4_lowestPlaceWithPage 25 = .ok (.ireturn, 1) := by decide +kernel
theorem dX4_lowestPlaceWithPage_26 : decode cX4_lowestPlaceWithPage 26 = .ok (.iinc 3 1, 3) := by decide +kernel
theorem dX4_lowestPlaceWithPage_29 : decode cX4_lowestPlaceWithPage 29 = .ok (.goto (-22), 3) := by decide +kernel
theorem dX4_lowestPlaceWithPage_32 : decode cX4_lowestPlaceWithPage 32 = .ok (.iconst (-1), 1) := by decide +kernel
theorem dX4_lowestPlaceWithPage_33 : decode cX4_lowestPlaceWithPage 33 = .ok (.ireturn, 1) := by decide +kernel
theorem dX4_moveLowestPage_0 : decode cX4_moveLowestPage 0 = .ok (.aload_n 0, 1) := by decide +kernel
theorem dX4_moveLowestPage_1 : decode cX4_moveLowestPage 1 = .ok (.getfield 60, 3) := by decide +kernel
theorem dX4_moveLowestPage_4 : decode cX4_moveLowestPage 4 = .ok (.iload_n 1, 1) := by decide +kernel
theorem dX4_moveLowestPage_5 : decode cX4_moveLowestPage 5 = .ok (.if_icmp .ne 8, 3) := by decide +kernel
theorem dX4_moveLowestPage_8 : decode cX4_moveLowestPage 8 = .ok (.aload_n 0, 1) := by decide +kernel
theorem dX4_moveLowestPage_9 : decode cX4_moveLowestPage 9 = .ok (.iconst (-1), 1) := by decide +kernel
theorem dX4_moveLowestPage_10 : decode cX4_moveLowestPage 10 = .ok (.putfield 60, 3) := by decide +kernel
theorem dX4_moveLowestPage_13 : decode cX4_moveLowestPage 13 = .ok (.aload_n 0, 1) := by decide +kernel
theorem dX4_moveLowestPage_14 : decode cX4_moveLowestPage 14 = .ok (.invokevirtual 149, 3) := by decide +kernel
theorem dX4_moveLowestPage_17 : decode cX4_moveLowestPage 17 = .ok (.istore_n 2, 1) := by decide +kernel
theorem dX4_moveLowestPage_18 : decode cX4_moveLowestPage 18 = .ok (.aload_n 0, 1) := by decide +kernel
theorem dX4_moveLowestPage_19 : decode cX4_moveLowestPage 19 = .ok (.iload_n 1, 1) := by decide +kernel
theorem dX4_moveLowestPage_20 : decode cX4_moveLowestPage 20 = .ok (.invokevirtual 153, 3) := by decide +kernel
theorem dX4_moveLowestPage_23 : decode cX4_moveLowestPage 23 = .ok (.istore_n 3, 1) := by decide +kernel
theorem dX4_moveLowestPage_24 : decode cX4_moveLowestPage 24 = .ok (.iload_n 2, 1) := by decide +kernel
theorem dX4_moveLowestPage_25 : decode cX4_moveLowestPage 25 = .ok (.iconst (-1), 1) := by decide +kernel
theorem dX4_moveLowestPage_26 : decode cX4_moveLowestPage 26 = .ok (.if_icmp .eq 16, 3) := by decide +kernel
theorem dX4_moveLowestPage_29 : decode cX4_moveLowestPage 29 = .ok (.iload_n 3, 1) := by decide +kernel
theorem dX4_moveLowestPage_30 : decode cX4_moveLowestPage 30 = .ok (.iconst (-1), 1) := by decide +kernel
theorem dX4_moveLowestPage_31 : decode cX4_moveLowestPage 31 = .ok (.if_icmp .eq 11, 3) := by decide +kernel
theorem dX4_moveLowestPage_34 : decode cX4_moveLowestPage 34 = .ok (.aload_n 0, 1) := by decide +kernel
theorem dX4_moveLowestPage_35 : decode cX4_moveLowestPage 35 = .ok (.iload_n 3, 1) := by decide +kernel
theorem dX4_moveLowestPage_36 : decode cX4_moveLowestPage 36 = .ok (.invokevirtual 156, 3) := by decide +kernel
theorem dX4_moveLowestPage_39 : decode cX4_moveLowestPage 39 = .ok (.ifCond .ne 5, 3) := by decide +kernel
theorem dX4_moveLowestPage_42 : decode cX4_moveLowestPage 42 = .ok (.iconst 0, 1) := by decide +kernel
theorem dX4_moveLowestPage_43 : decode cX4_moveLowestPage 43 = .ok (.ireturn, 1) := by decide +kernel
theorem dX4_moveLowestPage_44 : decode cX4_moveLowestPage 44 = .ok (.aload_n 0, 1) := by decide +kernel
theorem dX4_moveLowestPage_45 : decode cX4_moveLowestPage 45 = .ok (.iload_n 3, 1) := by decide +kernel
theorem dX4_moveLowestPage_46 : decode cX4_moveLowestPage 46 = .ok (.invokevirtual 159, 3) := by decide +kernel
theorem dX4_moveLowestPage_49 : decode cX4_moveLowestPage 49 = .ok (.aload_n 0, 1) := by decide +kernel
theorem dX4_moveLowestPage_50 : decode cX4_moveLowestPage 50 = .ok (.iload_n 2, 1) := by decide +kernel
theorem dX4_moveLowestPage_51 : decode cX4_moveLowestPage 51 = .ok (.aload_n 0, 1) := by decide +kernel
theorem dX4_moveLowestPage_52 : decode cX4_moveLowestPage 52 = .ok (.getfield 28, 3) := by decide +kernel
theorem dX4_moveLowestPage_55 : decode cX4_moveLowestPage 55 = .ok (.iload_n 3, 1) := by decide +kernel
theorem dX4_moveLowestPage_56 : decode cX4_moveLowestPage 56 = .ok (.iaload, 1) := by decide +kernel
theorem dX4_moveLowestPage_57 : decode cX4_moveLowestPage 57 = .ok (.invokevirtual 162, 3) := by decide +kernel
theorem dX4_moveLowestPage_60 : decode cX4_moveLowestPage 60 = .ok (.aload_n 0, 1) := by decide +kernel
theorem dX4_moveLowestPage_61 : decode cX4_moveLowestPage 61 = .ok (.dup, 1) := by decide +kernel
theorem dX4_moveLowestPage_62 : decode cX4_moveLowestPage 62 = .ok (.getfield 73, 3) := by decide +kernel
theorem dX4_moveLowestPage_65 : decode cX4_moveLowestPage 65 = .ok (.iconst 1, 1) := by decide +kernel
theorem dX4_moveLowestPage_66 : decode cX4_moveLowestPage 66 = .ok (.iadd, 1) := by decide +kernel
theorem dX4_moveLowestPage_67 : decode cX4_moveLowestPage 67 = .ok (.putfield 73, 3) := by decide +kernel
theorem dX4_moveLowestPage_70 : decode cX4_moveLowestPage 70 = .ok (.iconst 1, 1) := by decide +kernel
theorem dX4_moveLowestPage_71 : decode cX4_moveLowestPage 71 = .ok (.ireturn, 1) := by decide +kernel
theorem dX4_erase_0 : decode cX4_erase 0 = .ok (.iconst 0, 1) := by decide +kernel
theorem dX4_erase_1 : decode cX4_erase 1 = .ok (.istore_n 2, 1) := by decide +kernel
theorem dX4_erase_2 : decode cX4_erase 2 = .ok (.iload_n 1, 1) := by decide +kernel
theorem dX4_erase_3 : decode cX4_erase 3 = .ok (.bipush 8, 2) := by decide +kernel
theorem dX4_erase_5 : decode cX4_erase 5 = .ok (.imul, 1) := by decide +kernel
theorem dX4_erase_6 : decode cX4_erase 6 = .ok (.istore_n 3, 1) := by decide +kernel
theorem dX4_erase_7 : decode cX4_erase 7 = .ok (.iload_n 3, 1) := by decide +kernel
theorem dX4_erase_8 : decode cX4_erase 8 = .ok (.istore 4, 2) := by decide +kernel
theorem dX4_erase_10 : decode cX4_erase 10 = .ok (.iload 4, 2) := by decide +kernel
theorem dX4_erase_12 : decode cX4_erase 12 = .ok (.iload_n 3, 1) := by decide +kernel
theorem dX4_erase_13 : decode cX4_erase 13 = .ok (.bipush 8, 2) := by decide +kernel
theorem dX4_erase_15 : decode cX4_erase 15 = .ok (.iadd, 1) := by decide +kernel
theorem dX4_erase_16 : decode cX4_erase 16 = .ok (.if_icmp .ge 37, 3) := by decide +kernel
theorem dX4_erase_19 : decode cX4_erase 19 = .ok (.iload_n 2, 1) := by decide +kernel
theorem dX4_erase_20 : decode cX4_erase 20 = .ok (.aload_n 0, 1) := by decide +kernel
theorem dX4_erase_21 : decode cX4_erase 21 = .ok (.getfield 31, 3) := by decide +kernel
theorem dX4_erase_24 : decode cX4_erase 24 = .ok (.iload 4, 2) := by decide +kernel
theorem dX4_erase_26 : decode cX4_erase 26 = .ok (.iaload, 1) := by decide +kernel
theorem dX4_erase_27 : decode cX4_erase 27 = .ok (.invokestatic 121, 3) := by decide +kernel
theorem dX4_erase_30 : decode cX4_erase 30 = .ok (.istore_n 2, 1) := by decide +kernel
theorem dX4_erase_31 : decode cX4_erase 31 = .ok (.aload_n 0, 1) := by decide +kernel
theorem dX4_erase_32 : decode cX4_erase 32 = .ok (.getfield 28, 3) := by decide +kernel
theorem dX4_erase_35 : decode cX4_erase 35 = .ok (.iload 4, 2) := by decide +kernel
theorem dX4_erase_37 : decode cX4_erase 37 = .ok (.iconst (-1), 1) := by decide +kernel
theorem dX4_erase_38 : decode cX4_erase 38 = .ok (.iastore, 1) := by decide +kernel
theorem dX4_erase_39 : decode cX4_erase 39 = .ok (.aload_n 0, 1) := by decide +kernel
theorem dX4_erase_40 : decode cX4_erase 40 = .ok (.getfield 31, 3) := by decide +kernel
theorem dX4_erase_43 : decode cX4_erase 43 = .ok (.iload 4, 2) := by decide +kernel
theorem dX4_erase_45 : decode cX4_erase 45 = .ok (.iconst 0, 1) := by decide +kernel
theorem dX4_erase_46 : decode cX4_erase 46 = .ok (.iastore, 1) := by decide +kernel
theorem dX4_erase_47 : decode cX4_erase 47 = .ok (.iinc 4 1, 3) := by decide +kernel
theorem dX4_erase_50 : decode cX4_erase 50 = .ok (.goto (-40), 3) := by decide +kernel
theorem dX4_erase_53 : decode cX4_erase 53 = .ok (.aload_n 0, 1) := by decide +kernel
theorem dX4_erase_54 : decode cX4_erase 54 = .ok (.getfield 25, 3) := by decide +kernel
theorem dX4_erase_57 : decode cX4_erase 57 = .ok (.iload_n 1, 1) := by decide +kernel
theorem dX4_erase_58 : decode cX4_erase 58 = .ok (.iconst 0, 1) := by decide +kernel
theorem dX4_erase_59 : decode cX4_erase 59 = .ok (.iastore, 1) := by decide +kernel
theorem dX4_erase_60 : decode cX4_erase 60 = .ok (.aload_n 0, 1) := by decide +kernel
theorem dX4_erase_61 : decode cX4_erase 61 = .ok (.getfield 15, 3) := by decide +kernel
theorem dX4_erase_64 : decode cX4_erase 64 = .ok (.iload_n 1, 1) := by decide +kernel
theorem dX4_erase_65 : decode cX4_erase 65 = .ok (.dup2, 1) := by decide +kernel
theorem dX4_erase_66 : decode cX4_erase 66 = .ok (.iaload, 1) := by decide +kernel
theorem dX4_erase_67 : decode cX4_erase 67 = .ok (.iconst 1, 1) := by decide +kernel
theorem dX4_erase_68 : decode cX4_erase 68 = .ok (.iadd, 1) := by decide +kernel
theorem dX4_erase_69 : decode cX4_erase 69 = .ok (.iastore, 1) := by decide +kernel
theorem dX4_erase_70 : decode cX4_erase 70 = .ok (.aload_n 0, 1) := by decide +kernel
theorem dX4_erase_71 : decode cX4_erase 71 = .ok (.getfield 18, 3) := by decide +kernel
theorem dX4_erase_74 : decode cX4_erase 74 = .ok (.iload_n 1, 1) := by decide +kernel
theorem dX4_erase_75 : decode cX4_erase 75 = .ok (.iconst 0, 1) := by decide +kernel
theorem dX4_erase_76 : decode cX4_erase 76 = .ok (.bastore, 1) := by decide +kernel
theorem dX4_erase_77 : decode cX4_erase 77 = .ok (.aload_n 0, 1) := by decide +kernel
theorem dX4_erase_78 : decode cX4_erase 78 = .ok (.getfield 60, 3) := by decide +kernel
theorem dX4_erase_81 : decode cX4_erase 81 = .ok (.iload_n 1, 1) := by decide +kernel
theorem dX4_erase_82 : decode cX4_erase 82 = .ok (.if_icmp .ne 8, 3) := by decide +kernel
theorem dX4_erase_85 : decode cX4_erase 85 = .ok (.aload_n 0, 1) := by decide +kernel
theorem dX4_erase_86 : decode cX4_erase 86 = .ok (.iconst (-1), 1) := by decide +kernel
theorem dX4_erase_87 : decode cX4_erase 87 = .ok (.putfield 60, 3) := by decide +kernel
theorem dX4_erase_90 : decode cX4_erase 90 = .ok (.aload_n 0, 1) := by decide +kernel
theorem dX4_erase_91 : decode cX4_erase 91 = .ok (.getfield 56, 3) := by decide +kernel
theorem dX4_erase_94 : decode cX4_erase 94 = .ok (.iload_n 1, 1) := by decide +kernel
theorem dX4_erase_95 : decode cX4_erase 95 = .ok (.aload_n 0, 1) := by decide +kernel
theorem dX4_erase_96 : decode cX4_erase 96 = .ok (.getfield 64, 3) := by decide +kernel
theorem dX4_erase_99 : decode cX4_erase 99 = .ok (.iload_n 2, 1) := by decide +kernel
theorem dX4_erase_100 : decode cX4_erase 100 = .ok (.invokevirtual 166, 3) := by decide +kernel
theorem dX4_erase_103 : decode cX4_erase 103 = .ok (.return_, 1) := by decide +kernel
theorem dX4_moveWhole_0 : decode cX4_moveWhole 0 = .ok (.aload_n 0, 1) := by decide +kernel
theorem dX4_moveWhole_1 : decode cX4_moveWhole 1 = .ok (.iload_n 1, 1) := by decide +kernel
theorem dX4_moveWhole_2 : decode cX4_moveWhole 2 = .ok (.invokevirtual 108, 3) := by decide +kernel
theorem dX4_moveWhole_5 : decode cX4_moveWhole 5 = .ok (.istore_n 2, 1) := by decide +kernel
theorem dX4_moveWhole_6 : decode cX4_moveWhole 6 = .ok (.iconst 0, 1) := by decide +kernel
theorem dX4_moveWhole_7 : decode cX4_moveWhole 7 = .ok (.istore_n 3, 1) := by decide +kernel
theorem dX4_moveWhole_8 : decode cX4_moveWhole 8 = .ok (.iload_n 3, 1) := by decide +kernel
theorem dX4_moveWhole_9 : decode cX4_moveWhole 9 = .ok (.iload_n 2, 1) := by decide +kernel
theorem dX4_moveWhole_10 : decode cX4_moveWhole 10 = .ok (.if_icmp .ge 20, 3) := by decide +kernel
theorem dX4_moveWhole_13 : decode cX4_moveWhole 13 = .ok (.aload_n 0, 1) := by decide +kernel
theorem dX4_moveWhole_14 : decode cX4_moveWhole 14 = .ok (.iload_n 1, 1) := by decide +kernel
theorem dX4_moveWhole_15 : decode cX4_moveWhole 15 = .ok (.invokevirtual 170, 3) := by decide +kernel
theorem dX4_moveWhole_18 : decode cX4_moveWhole 18 = .ok (.ifCond .ne 6, 3) := by decide +kernel
theorem dX4_moveWhole_21 : decode cX4_moveWhole 21 = .ok (.bipush (-4), 2) := by decide +kernel
theorem dX4_moveWhole_23 : decode cX4_moveWhole 23 = .ok (.ireturn, 1) := by decide +kernel
theorem dX4_moveWhole_24 : decode cX4_moveWhole 24 = .ok (.iinc 3 1, 3) := by decide +kernel
theorem dX4_moveWhole_27 : decode cX4_moveWhole 27 = .ok (.goto (-19), 3) := by decide +kernel
theorem dX4_moveWhole_30 : decode cX4_moveWhole 30 = .ok (.aload_n 0, 1) := by decide +kernel
theorem dX4_moveWhole_31 : decode cX4_moveWhole 31 = .ok (.iload_n 1, 1) := by decide +kernel
theorem dX4_moveWhole_32 : decode cX4_moveWhole 32 = .ok (.invokevirtual 173, 3) := by decide +kernel
theorem dX4_moveWhole_35 : decode cX4_moveWhole 35 = .ok (.iload_n 2, 1) := by decide +kernel
theorem dX4_moveWhole_36 : decode cX4_moveWhole 36 = .ok (.ireturn, 1) := by decide +kernel
theorem dX4_passOne_0 : decode cX4_passOne 0 = .ok (.aload_n 0, 1) := by decide +kernel
theorem dX4_passOne_1 : decode cX4_passOne 1 = .ok (.dup, 1) := by decide +kernel
theorem dX4_passOne_2 : decode cX4_passOne 2 = .ok (.getfield 64, 3) := by decide +kernel
theorem dX4_passOne_5 : decode cX4_passOne 5 = .ok (.iconst 1, 1) := by decide +kernel
theorem dX4_passOne_6 : decode cX4_passOne 6 = .ok (.iadd, 1) := by decide +kernel
theorem dX4_passOne_7 : decode cX4_passOne 7 = .ok (.putfield 64, 3) := by decide +kernel
theorem dX4_passOne_10 : decode cX4_passOne 10 = .ok (.iconst 0, 1) := by decide +kernel
theorem dX4_passOne_11 : decode cX4_passOne 11 = .ok (.istore_n 1, 1) := by decide +kernel
theorem dX4_passOne_12 : decode cX4_passOne 12 = .ok (.iconst 0, 1) := by decide +kernel
theorem dX4_passOne_13 : decode cX4_passOne 13 = .ok (.istore_n 2, 1) := by decide +kernel
theorem dX4_passOne_14 : decode cX4_passOne 14 = .ok (.iload_n 2, 1) := by decide +kernel
theorem dX4_passOne_15 : decode cX4_passOne 15 = .ok (.bipush 32, 2) := by decide +kernel
theorem dX4_passOne_17 : decode cX4_passOne 17 = .ok (.if_icmp .ge 67, 3) := by decide +kernel
theorem dX4_passOne_20 : decode cX4_passOne 20 = .ok (.iload_n 1, 1) := by decide +kernel
theorem dX4_passOne_21 : decode cX4_passOne 21 = .ok (.aload_n 0, 1) := by decide +kernel
theorem dX4_passOne_22 : decode cX4_passOne 22 = .ok (.getfield 43, 3) := by decide +kernel
theorem dX4_passOne_25 : decode cX4_passOne 25 = .ok (.iconst 2, 1) := by decide +kernel
theorem dX4_passOne_26 : decode cX4_passOne 26 = .ok (.iaload, 1) := by decide +kernel
theorem dX4_passOne_27 : decode cX4_passOne 27 = .ok (.if_icmp .ge 57, 3) := by decide +kernel
theorem dX4_passOne_30 : decode cX4_passOne 30 = .ok (.aload_n 0, 1) := by decide +kernel
theorem dX4_passOne_31 : decode cX4_passOne 31 = .ok (.invokevirtual 176, 3) := by decide +kernel
theorem dX4_passOne_34 : decode cX4_passOne 34 = .ok (.istore_n 3, 1) := by decide +kernel
theorem dX4_passOne_35 : decode cX4_passOne 35 = .ok (.iload_n 3, 1) := by decide +kernel
theorem dX4_passOne_36 : decode cX4_passOne 36 = .ok (.iconst (-1), 1) := by decide +kernel
theorem dX4_passOne_37 : decode cX4_passOne 37 = .ok (.if_icmp .ne 6, 3) := by decide +kernel
theorem dX4_passOne_40 : decode cX4_passOne 40 = .ok (.goto 44, 3) := by decide +kernel
theorem dX4_passOne_43 : decode cX4_passOne 43 = .ok (.aload_n 0, 1) := by decide +kernel
theorem dX4_passOne_44 : decode cX4_passOne 44 = .ok (.iload_n 3, 1) := by decide +kernel
theorem dX4_passOne_45 : decode cX4_passOne 45 = .ok (.invokevirtual 108, 3) := by decide +kernel
theorem dX4_passOne_48 : decode cX4_passOne 48 = .ok (.ifCond .le 17, 3) := by decide +kernel
theorem dX4_passOne_51 : decode cX4_passOne 51 = .ok (.aload_n 0, 1) := by decide +kernel
theorem dX4_passOne_52 : decode cX4_passOne 52 = .ok (.iload_n 3, 1) := by decide +kernel
theorem dX4_passOne_53 : decode cX4_passOne 53 = .ok (.invokevirtual 170, 3) := by decide +kernel
theorem dX4_passOne_56 : decode cX4_passOne 56 = .ok (.ifCond .ne 6, 3) := by decide +kernel
theorem dX4_passOne_59 : decode cX4_passOne 59 = .ok (.goto 25, 3) := by decide +kernel
theorem dX4_passOne_62 : decode cX4_passOne 62 = .ok (.iinc 1 1, 3) := by decide +kernel
theorem dX4_passOne_65 : decode cX4_passOne 65 = .ok (.aload_n 0, 1) := by decide +kernel
theorem dX4_passOne_66 : decode cX4_passOne 66 = .ok (.iload_n 3, 1) := by decide +kernel
theorem dX4_passOne_67 : decode cX4_passOne 67 = .ok (.invokevirtual 108, 3) := by decide +kernel
theorem dX4_passOne_70 : decode cX4_passOne 70 = .ok (.ifCond .ne 8, 3) := by decide +kernel
theorem dX4_passOne_73 : decode cX4_passOne 73 = .ok (.aload_n 0, 1) := by decide +kernel
theorem dX4_passOne_74 : decode cX4_passOne 74 = .ok (.iload_n 3, 1) := by decide +kernel
theorem dX4_passOne_75 : decode cX4_passOne 75 = .ok (.invokevirtual 173, 3) := by decide +kernel
theorem dX4_passOne_78 : decode cX4_passOne 78 = .ok (.iinc 2 1, 3) := by decide +kernel
theorem dX4_passOne_81 : decode cX4_passOne 81 = .ok (.goto (-67), 3) := by decide +kernel
theorem dX4_passOne_84 : decode cX4_passOne 84 = .ok (.iload_n 1, 1) := by decide +kernel
theorem dX4_passOne_85 : decode cX4_passOne 85 = .ok (.ireturn, 1) := by decide +kernel
theorem dX4_changeSetting_0 : decode cX4_changeSetting 0 = .ok (.iload_n 1, 1) := by decide +kernel
theorem dX4_changeSetting_1 : decode cX4_changeSetting 1 = .ok (.invokestatic 179, 3) := by decide +kernel
theorem dX4_changeSetting_4 : decode cX4_changeSetting 4 = .ok (.ifCond .ne 5, 3) := by decide +kernel
theorem dX4_changeSetting_7 : decode cX4_changeSetting 7 = .ok (.iconst (-1), 1) := by decide +kernel
theorem dX4_changeSetting_8 : decode cX4_changeSetting 8 = .ok (.ireturn, 1) := by decide +kernel
theorem dX4_changeSetting_9 : decode cX4_changeSetting 9 = .ok (.iload_n 2, 1) := by decide +kernel
theorem dX4_changeSetting_10 : decode cX4_changeSetting 10 = .ok (.getstatic 182, 3) := by decide +kernel
theorem dX4_changeSetting_13 : decode cX4_changeSetting 13 = .ok (.iload_n 1, 1) := by decide +kernel
theorem dX4_changeSetting_14 : decode cX4_changeSetting 14 = .ok (.iaload, 1) := by decide +kernel
theorem dX4_changeSetting_15 : decode cX4_changeSetting 15 = .ok (.if_icmp .lt 12, 3) := by decide +kernel
theorem dX4_changeSetting_18 : decode cX4_changeSetting 18 = .ok (.iload_n 2, 1) := by decide +kernel
theorem dX4_changeSetting_19 : decode cX4_changeSetting 19 = .ok (.getstatic 185, 3) := by decide +kernel
theorem dX4_changeSetting_22 : decode cX4_changeSetting 22 = .ok (.iload_n 1, 1) := by decide +kernel
theorem dX4_changeSetting_23 : decode cX4_changeSetting 23 = .ok (.iaload, 1) := by decide +kernel
theorem dX4_changeSetting_24 : decode cX4_changeSetting 24 = .ok (.if_icmp .le 6, 3) := by decide +kernel
theorem dX4_changeSetting_27 : decode cX4_changeSetting 27 = .ok (.bipush (-2), 2) := by decide +kernel
theorem dX4_changeSetting_29 : decode cX4_changeSetting 29 = .ok (.ireturn, 1) := by decide +kernel
theorem dX4_changeSetting_30 : decode cX4_changeSetting 30 = .ok (.aload_n 0, 1) := by decide +kernel
theorem dX4_changeSetting_31 : decode cX4_changeSetting 31 = .ok (.getfield 43, 3) := by decide +kernel
theorem dX4_changeSetting_34 : decode cX4_changeSetting 34 = .ok (.iload_n 1, 1) := by decide +kernel
theorem dX4_changeSetting_35 : decode cX4_changeSetting 35 = .ok (.iaload, 1) := by decide +kernel
theorem dX4_changeSetting_36 : decode cX4_changeSetting 36 = .ok (.istore_n 3, 1) := by decide +kernel
theorem dX4_changeSetting_37 : decode cX4_changeSetting 37 = .ok (.iload_n 3, 1) := by decide +kernel
theorem dX4_changeSetting_38 : decode cX4_changeSetting 38 = .ok (.iload_n 2, 1) := by decide +kernel
theorem dX4_changeSetting_39 : decode cX4_changeSetting 39 = .ok (.if_icmp .ne 6, 3) := by decide +kernel
theorem dX4_changeSetting_42 : decode cX4_changeSetting 42 = .ok (.bipush (-5), 2) := by decide +kernel
theorem dX4_changeSetting_44 : decode cX4_changeSetting 44 = .ok (.ireturn, 1) := by decide +kernel
theorem dX4_changeSetting_45 : decode cX4_changeSetting 45 = .ok (.aload_n 0, 1) := by decide +kernel
theorem dX4_changeSetting_46 : decode cX4_changeSetting 46 = .ok (.getfield 43, 3) := by decide +kernel
theorem dX4_changeSetting_49 : decode cX4_changeSetting 49 = .ok (.iload_n 1, 1) := by decide +kernel
theorem dX4_changeSetting_50 : decode cX4_changeSetting 50 = .ok (.iload_n 2, 1) := by decide +kernel
theorem dX4_changeSetting_51 : decode cX4_changeSetting 51 = .ok (.iastore, 1) := by decide +kernel
theorem dX4_changeSetting_52 : decode cX4_changeSetting 52 = .ok (.aload_n 0, 1) := by decide +kernel
theorem dX4_changeSetting_53 : decode cX4_changeSetting 53 = .ok (.getfield 49, 3) := by decide +kernel
theorem dX4_changeSetting_56 : decode cX4_changeSetting 56 = .ok (.aload_n 0, 1) := by decide +kernel
theorem dX4_changeSetting_57 : decode cX4_changeSetting 57 = .ok (.getfield 43, 3) := by decide +kernel
theorem dX4_changeSetting_60 : decode cX4_changeSetting 60 = .ok (.iconst 3, 1) := by decide +kernel
theorem dX4_changeSetting_61 : decode cX4_changeSetting 61 = .ok (.iaload, 1) := by decide +kernel
theorem dX4_changeSetting_62 : decode cX4_changeSetting 62 = .ok (.invokevirtual 188, 3) := by decide +kernel
theorem dX4_changeSetting_65 : decode cX4_changeSetting 65 = .ok (.iload_n 3, 1) := by decide +kernel
theorem dX4_changeSetting_66 : decode cX4_changeSetting 66 = .ok (.ireturn, 1) := by decide +kernel
theorem dX4_changeKind_0 : decode cX4_changeKind 0 = .ok (.iload_n 1, 1) := by decide +kernel
theorem dX4_changeKind_1 : decode cX4_changeKind 1 = .ok (.invokestatic 142, 3) := by decide +kernel
theorem dX4_changeKind_4 : decode cX4_changeKind 4 = .ok (.ifCond .ne 5, 3) := by decide +kernel
theorem dX4_changeKind_7 : decode cX4_changeKind 7 = .ok (.iconst (-1), 1) := by decide +kernel
theorem dX4_changeKind_8 : decode cX4_changeKind 8 = .ok (.ireturn, 1) := by decide +kernel
theorem dX4_changeKind_9 : decode cX4_changeKind 9 = .ok (.iload_n 2, 1) := by decide +kernel
theorem dX4_changeKind_10 : decode cX4_changeKind 10 = .ok (.ifCond .lt 8, 3) := by decide +kernel
theorem dX4_changeKind_13 : decode cX4_changeKind 13 = .ok (.iload_n 2, 1) := by decide +kernel
theorem dX4_changeKind_14 : decode cX4_changeKind 14 = .ok (.iconst 2, 1) := by decide +kernel
theorem dX4_changeKind_15 : decode cX4_changeKind 15 = .ok (.if_icmp .le 6, 3) := by decide +kernel
theorem dX4_changeKind_18 : decode cX4_changeKind 18 = .ok (.bipush (-2), 2) := by decide +kernel
theorem dX4_changeKind_20 : decode cX4_changeKind 20 = .ok (.ireturn, 1) := by decide +kernel
theorem dX4_changeKind_21 : decode cX4_changeKind 21 = .ok (.aload_n 0, 1) := by decide +kernel
theorem dX4_changeKind_22 : decode cX4_changeKind 22 = .ok (.iload_n 1, 1) := by decide +kernel
theorem dX4_changeKind_23 : decode cX4_changeKind 23 = .ok (.invokevirtual 101, 3) := by decide +kernel
theorem dX4_changeKind_26 : decode cX4_changeKind 26 = .ok (.ifCond .ne 6, 3) := by decide +kernel
theorem dX4_changeKind_29 : decode cX4_changeKind 29 = .ok (.bipush (-4), 2) := by decide +kernel
theorem dX4_changeKind_31 : decode cX4_changeKind 31 = .ok (.ireturn, 1) := by decide +kernel
theorem dX4_changeKind_32 : decode cX4_changeKind 32 = .ok (.aload_n 0, 1) := by decide +kernel
theorem dX4_changeKind_33 : decode cX4_changeKind 33 = .ok (.getfield 9, 3) := by decide +kernel
theorem dX4_changeKind_36 : decode cX4_changeKind 36 = .ok (.iload_n 1, 1) := by decide +kernel
theorem dX4_changeKind_37 : decode cX4_changeKind 37 = .ok (.iaload, 1) := by decide +kernel
theorem dX4_changeKind_38 : decode cX4_changeKind 38 = .ok (.istore_n 3, 1) := by decide +kernel
theorem dX4_changeKind_39 : decode cX4_changeKind 39 = .ok (.iload_n 3, 1) := by decide +kernel
theorem dX4_changeKind_40 : decode cX4_changeKind 40 = .ok (.iload_n 2, 1) := by decide +kernel
theorem dX4_changeKind_41 : decode cX4_changeKind 41 = .ok (.if_icmp .ne 6, 3) := by decide +kernel
theorem dX4_changeKind_44 : decode cX4_changeKind 44 = .ok (.bipush (-5), 2) := by decide +kernel
theorem dX4_changeKind_46 : decode cX4_changeKind 46 = .ok (.ireturn, 1) := by decide +kernel
theorem dX4_changeKind_47 : decode cX4_changeKind 47 = .ok (.aload_n 0, 1) := by decide +kernel
theorem dX4_changeKind_48 : decode cX4_changeKind 48 = .ok (.getfield 9, 3) := by decide +kernel
theorem dX4_changeKind_51 : decode cX4_changeKind 51 = .ok (.iload_n 1, 1) := by decide +kernel
theorem dX4_changeKind_52 : decode cX4_changeKind 52 = .ok (.iload_n 2, 1) := by decide +kernel
theorem dX4_changeKind_53 : decode cX4_changeKind 53 = .ok (.iastore, 1) := by decide +kernel
theorem dX4_changeKind_54 : decode cX4_changeKind 54 = .ok (.iload_n 3, 1) := by decide +kernel
theorem dX4_changeKind_55 : decode cX4_changeKind 55 = .ok (.ireturn, 1) := by decide +kernel
theorem dX4_changeCall_0 : decode cX4_changeCall 0 = .ok (.iload_n 1, 1) := by decide +kernel
theorem dX4_changeCall_1 : decode cX4_changeCall 1 = .ok (.invokestatic 142, 3) := by decide +kernel
theorem dX4_changeCall_4 : decode cX4_changeCall 4 = .ok (.ifCond .ne 5, 3) := by decide +kernel
theorem dX4_changeCall_7 : decode cX4_changeCall 7 = .ok (.iconst (-1), 1) := by decide +kernel
theorem dX4_changeCall_8 : decode cX4_changeCall 8 = .ok (.ireturn, 1) := by decide +kernel
theorem dX4_changeCall_9 : decode cX4_changeCall 9 = .ok (.aload_n 0, 1) := by decide +kernel
theorem dX4_changeCall_10 : decode cX4_changeCall 10 = .ok (.iload_n 1, 1) := by decide +kernel
theorem dX4_changeCall_11 : decode cX4_changeCall 11 = .ok (.invokevirtual 101, 3) := by decide +kernel
theorem dX4_changeCall_14 : decode cX4_changeCall 14 = .ok (.ifCond .eq 6, 3) := by decide +kernel
theorem dX4_changeCall_17 : decode cX4_changeCall 17 = .ok (.bipush (-4), 2) := by decide +kernel
theorem dX4_changeCall_19 : decode cX4_changeCall 19 = .ok (.ireturn, 1) := by decide +kernel
theorem dX4_changeCall_20 : decode cX4_changeCall 20 = .ok (.aload_n 0, 1) := by decide +kernel
theorem dX4_changeCall_21 : decode cX4_changeCall 21 = .ok (.getfield 18, 3) := by decide +kernel
theorem dX4_changeCall_24 : decode cX4_changeCall 24 = .ok (.iload_n 1, 1) := by decide +kernel
theorem dX4_changeCall_25 : decode cX4_changeCall 25 = .ok (.baload, 1) := by decide +kernel
theorem dX4_changeCall_26 : decode cX4_changeCall 26 = .ok (.iload_n 2, 1) := by decide +kernel
theorem dX4_changeCall_27 : decode cX4_changeCall 27 = .ok (.if_icmp .ne 6, 3) := by decide +kernel
theorem dX4_changeCall_30 : decode cX4_changeCall 30 = .ok (.bipush (-5), 2) := by decide +kernel
theorem dX4_changeCall_32 : decode cX4_changeCall 32 = .ok (.ireturn, 1) := by decide +kernel
theorem dX4_changeCall_33 : decode cX4_changeCall 33 = .ok (.aload_n 0, 1) := by decide +kernel
theorem dX4_changeCall_34 : decode cX4_changeCall 34 = .ok (.getfield 18, 3) := by decide +kernel
theorem dX4_changeCall_37 : decode cX4_changeCall 37 = .ok (.iload_n 1, 1) := by decide +kernel
theorem dX4_changeCall_38 : decode cX4_changeCall 38 = .ok (.iload_n 2, 1) := by decide +kernel
theorem dX4_changeCall_39 : decode cX4_changeCall 39 = .ok (.bastore, 1) := by decide +kernel
theorem dX4_changeCall_40 : decode cX4_changeCall 40 = .ok (.aload_n 0, 1) := by decide +kernel
theorem dX4_changeCall_41 : decode cX4_changeCall 41 = .ok (.invokevirtual 191, 3) := by decide +kernel
theorem dX4_changeCall_44 : decode cX4_changeCall 44 = .ok (.ireturn, 1) := by decide +kernel
theorem dX4_writePage_0 : decode cX4_writePage 0 = .ok (.iload_n 1, 1) := by decide +kernel
theorem dX4_writePage_1 : decode cX4_writePage 1 = .ok (.invokestatic 105, 3) := by decide +kernel
theorem dX4_writePage_4 : decode cX4_writePage 4 = .ok (.ifCond .ne 5, 3) := by decide +kernel
theorem dX4_writePage_7 : decode cX4_writePage 7 = .ok (.iconst (-1), 1) := by decide +kernel
theorem dX4_writePage_8 : decode cX4_writePage 8 = .ok (.ireturn, 1) := by decide +kernel
theorem dX4_writePage_9 : decode cX4_writePage 9 = .ok (.aload_n 0, 1) := by decide +kernel
theorem dX4_writePage_10 : decode cX4_writePage 10 = .ok (.invokevirtual 149, 3) := by decide +kernel
theorem dX4_writePage_13 : decode cX4_writePage 13 = .ok (.istore_n 2, 1) := by decide +kernel
theorem dX4_writePage_14 : decode cX4_writePage 14 = .ok (.iload_n 2, 1) := by decide +kernel
theorem dX4_writePage_15 : decode cX4_writePage 15 = .ok (.iconst (-1), 1) := by decide +kernel
theorem dX4_writePage_16 : decode cX4_writePage 16 = .ok (.if_icmp .ne 6, 3) := by decide +kernel
theorem dX4_writePage_19 : decode cX4_writePage 19 = .ok (.bipush (-3), 2) := by decide +kernel
theorem dX4_writePage_21 : decode cX4_writePage 21 = .ok (.ireturn, 1) := by decide +kernel
theorem dX4_writePage_22 : decode cX4_writePage 22 = .ok (.aload_n 0, 1) := by decide +kernel
theorem dX4_writePage_23 : decode cX4_writePage 23 = .ok (.iload_n 2, 1) := by decide +kernel
theorem dX4_writePage_24 : decode cX4_writePage 24 = .ok (.iload_n 1, 1) := by decide +kernel
theorem dX4_writePage_25 : decode cX4_writePage 25 = .ok (.invokevirtual 162, 3) := by decide +kernel
theorem dX4_writePage_28 : decode cX4_writePage 28 = .ok (.aload_n 0, 1) := by decide +kernel
theorem dX4_writePage_29 : decode cX4_writePage 29 = .ok (.invokevirtual 194, 3) := by decide +kernel
theorem dX4_writePage_32 : decode cX4_writePage 32 = .ok (.ifCond .ne 6, 3) := by decide +kernel
theorem dX4_writePage_35 : decode cX4_writePage 35 = .ok (.bipush (-3), 2) := by decide +kernel
theorem dX4_writePage_37 : decode cX4_writePage 37 = .ok (.ireturn, 1) := by decide +kernel
theorem dX4_writePage_38 : decode cX4_writePage 38 = .ok (.aload_n 0, 1) := by decide +kernel
theorem dX4_writePage_39 : decode cX4_writePage 39 = .ok (.getfield 49, 3) := by decide +kernel
theorem dX4_writePage_42 : decode cX4_writePage 42 = .ok (.iload_n 1, 1) := by decide +kernel
theorem dX4_writePage_43 : decode cX4_writePage 43 = .ok (.invokevirtual 197, 3) := by decide +kernel
theorem dX4_writePage_46 : decode cX4_writePage 46 = .ok (.aload_n 0, 1) := by decide +kernel
theorem dX4_writePage_47 : decode cX4_writePage 47 = .ok (.getfield 37, 3) := by decide +kernel
theorem dX4_writePage_50 : decode cX4_writePage 50 = .ok (.iload_n 1, 1) := by decide +kernel
theorem dX4_writePage_51 : decode cX4_writePage 51 = .ok (.iaload, 1) := by decide +kernel
theorem dX4_writePage_52 : decode cX4_writePage 52 = .ok (.ireturn, 1) := by decide +kernel
theorem dX4_readPage_0 : decode cX4_readPage 0 = .ok (.aload_n 0, 1) := by decide +kernel
theorem dX4_readPage_1 : decode cX4_readPage 1 = .ok (.iload_n 1, 1) := by decide +kernel
theorem dX4_readPage_2 : decode cX4_readPage 2 = .ok (.invokevirtual 200, 3) := by decide +kernel
theorem dX4_readPage_5 : decode cX4_readPage 5 = .ok (.ifCond .ne 5, 3) := by decide +kernel
theorem dX4_readPage_8 : decode cX4_readPage 8 = .ok (.iconst (-1), 1) := by decide +kernel
theorem dX4_readPage_9 : decode cX4_readPage 9 = .ok (.ireturn, 1) := by decide +kernel
theorem dX4_readPage_10 : decode cX4_readPage 10 = .ok (.iconst 0, 1) := by decide +kernel
theorem dX4_readPage_11 : decode cX4_readPage 11 = .ok (.istore_n 2, 1) := by decide +kernel
theorem dX4_readPage_12 : decode cX4_readPage 12 = .ok (.aload_n 0, 1) := by decide +kernel
theorem dX4_readPage_13 : decode cX4_readPage 13 = .ok (.getfield 49, 3) := by decide +kernel
theorem dX4_readPage_16 : decode cX4_readPage 16 = .ok (.iload_n 1, 1) := by decide +kernel
theorem dX4_readPage_17 : decode cX4_readPage 17 = .ok (.invokevirtual 203, 3) := by decide +kernel
theorem dX4_readPage_20 : decode cX4_readPage 20 = .ok (.iconst (-1), 1) := by decide +kernel
theorem dX4_readPage_21 : decode cX4_readPage 21 = .ok (.if_icmp .ne 74, 3) := by decide +kernel
theorem dX4_readPage_24 : decode cX4_readPage 24 = .ok (.iconst 1, 1) := by decide +kernel
theorem dX4_readPage_25 : decode cX4_readPage 25 = .ok (.istore_n 2, 1) := by decide +kernel
theorem dX4_readPage_26 : decode cX4_readPage 26 = .ok (.aload_n 0, 1) := by decide +kernel
theorem dX4_readPage_27 : decode cX4_readPage 27 = .ok (.aload_n 0, 1) := by decide +kernel
theorem dX4_readPage_28 : decode cX4_readPage 28 = .ok (.getfield 37, 3) := by decide +kernel
theorem dX4_readPage_31 : decode cX4_readPage 31 = .ok (.iload_n 1, 1) := by decide +kernel
theorem dX4_readPage_32 : decode cX4_readPage 32 = .ok (.iaload, 1) := by decide +kernel
theorem dX4_readPage_33 : decode cX4_readPage 33 = .ok (.invokevirtual 156, 3) := by decide +kernel
theorem dX4_readPage_36 : decode cX4_readPage 36 = .ok (.ifCond .ne 46, 3) := by decide +kernel
theorem dX4_readPage_39 : decode cX4_readPage 39 = .ok (.iconst 2, 1) := by decide +kernel
theorem dX4_readPage_40 : decode cX4_readPage 40 = .ok (.istore_n 2, 1) := by decide +kernel
theorem dX4_readPage_41 : decode cX4_readPage 41 = .ok (.aload_n 0, 1) := by decide +kernel
theorem dX4_readPage_42 : decode cX4_readPage 42 = .ok (.getfield 43, 3) := by decide +kernel
theorem dX4_readPage_45 : decode cX4_readPage 45 = .ok (.iconst 4, 1) := by decide +kernel
theorem dX4_readPage_46 : decode cX4_readPage 46 = .ok (.iaload, 1) := by decide +kernel
theorem dX4_readPage_47 : decode cX4_readPage 47 = .ok (.ifCond .eq 32, 3) := by decide +kernel
theorem dX4_readPage_50 : decode cX4_readPage 50 = .ok (.aload_n 0, 1) := by decide +kernel
theorem dX4_readPage_51 : decode cX4_readPage 51 = .ok (.aload_n 0, 1) := by decide +kernel
theorem dX4_readPage_52 : decode cX4_readPage 52 = .ok (.getfield 37, 3) := by decide +kernel
theorem dX4_readPage_55 : decode cX4_readPage 55 = .ok (.iload_n 1, 1) := by decide +kernel
theorem dX4_readPage_56 : decode cX4_readPage 56 = .ok (.iaload, 1) := by decide +kernel
theorem dX4_readPage_57 : decode cX4_readPage 57 = .ok (.bipush 8, 2) := by decide +kernel
theorem dX4_readPage_59 : decode cX4_readPage 59 = .ok (.idiv, 1) := by decide +kernel
theorem dX4_readPage_60 : decode cX4_readPage 60 = .ok (.invokevirtual 206, 3) := by decide +kernel
theorem dX4_readPage_63 : decode cX4_readPage 63 = .ok (.ifCond .lt 16, 3) := by decide +kernel
theorem dX4_readPage_66 : decode cX4_readPage 66 = .ok (.aload_n 0, 1) := by decide +kernel
theorem dX4_readPage_67 : decode cX4_readPage 67 = .ok (.aload_n 0, 1) := by decide +kernel
theorem dX4_readPage_68 : decode cX4_readPage 68 = .ok (.getfield 37, 3) := by decide +kernel
theorem dX4_readPage_71 : decode cX4_readPage 71 = .ok (.iload_n 1, 1) := by decide +kernel
theorem dX4_readPage_72 : decode cX4_readPage 72 = .ok (.iaload, 1) := by decide +kernel
theorem dX4_readPage_73 : decode cX4_readPage 73 = .ok (.invokevirtual 156, 3) := by decide +kernel
theorem dX4_readPage_76 : decode cX4_readPage 76 = .ok (.ifCond .ne 6, 3) := by decide +kernel
theorem dX4_readPage_79 : decode cX4_readPage 79 = .ok (.bipush (-4), 2) := by decide +kernel
theorem dX4_readPage_81 : decode cX4_readPage 81 = .ok (.ireturn, 1) := by decide +kernel
theorem dX4_readPage_82 : decode cX4_readPage 82 = .ok (.aload_n 0, 1) := by decide +kernel
theorem dX4_readPage_83 : decode cX4_readPage 83 = .ok (.aload_n 0, 1) := by decide +kernel
theorem dX4_readPage_84 : decode cX4_readPage 84 = .ok (.getfield 37, 3) := by decide +kernel
theorem dX4_readPage_87 : decode cX4_readPage 87 = .ok (.iload_n 1, 1) := by decide +kernel
theorem dX4_readPage_88 : decode cX4_readPage 88 = .ok (.iaload, 1) := by decide +kernel
theorem dX4_readPage_89 : decode cX4_readPage 89 = .ok (.invokevirtual 159, 3) := by decide +kernel
theorem dX4_readPage_92 : decode cX4_readPage 92 = .ok (.goto 13, 3) := by decide +kernel
theorem dX4_readPage_95 : decode cX4_readPage 95 = .ok (.aload_n 0, 1) := by decide +kernel
theorem dX4_readPage_96 : decode cX4_readPage 96 = .ok (.dup, 1) := by decide +kernel
theorem dX4_readPage_97 : decode cX4_readPage 97 = .ok (.getfield 70, 3) := by decide +kernel
theorem dX4_readPage_100 : decode cX4_readPage 100 = .ok (.iconst 1, 1) := by decide +kernel
theorem dX4_readPage_101 : decode cX4_readPage 101 = .ok (.iadd, 1) := by decide +kernel
theorem dX4_readPage_102 : decode cX4_readPage 102 = .ok (.putfield 70, 3) := by decide +kernel
theorem dX4_readPage_105 : decode cX4_readPage 105 = .ok (.aload_n 0, 1) := by decide +kernel
theorem dX4_readPage_106 : decode cX4_readPage 106 = .ok (.dup, 1) := by decide +kernel
theorem dX4_readPage_107 : decode cX4_readPage 107 = .ok (.getfield 67, 3) := by decide +kernel
theorem dX4_readPage_110 : decode cX4_readPage 110 = .ok (.iconst 1, 1) := by decide +kernel
theorem dX4_readPage_111 : decode cX4_readPage 111 = .ok (.iadd, 1) := by decide +kernel
theorem dX4_readPage_112 : decode cX4_readPage 112 = .ok (.putfield 67, 3) := by decide +kernel
theorem dX4_readPage_115 : decode cX4_readPage 115 = .ok (.aload_n 0, 1) := by decide +kernel
theorem dX4_readPage_116 : decode cX4_readPage 116 = .ok (.getfield 40, 3) := by decide +kernel
theorem dX4_readPage_119 : decode cX4_readPage 119 = .ok (.iload_n 1, 1) := by decide +kernel
theorem dX4_readPage_120 : decode cX4_readPage 120 = .ok (.dup2, 1) := by decide +kernel
theorem dX4_readPage_121 : decode cX4_readPage 121 = .ok (.iaload, 1) := by decide +kernel
theorem dX4_readPage_122 : decode cX4_readPage 122 = .ok (.iconst 1, 1) := by decide +kernel
theorem dX4_readPage_123 : decode cX4_readPage 123 = .ok (.iadd, 1) := by decide +kernel
theorem dX4_readPage_124 : decode cX4_readPage 124 = .ok (.iastore, 1) := by decide +kernel
theorem dX4_readPage_125 : decode cX4_readPage 125 = .ok (.aload_n 0, 1) := by decide +kernel
theorem dX4_readPage_126 : decode cX4_readPage 126 = .ok (.getfield 49, 3) := by decide +kernel
theorem dX4_readPage_129 : decode cX4_readPage 129 = .ok (.iload_n 1, 1) := by decide +kernel
theorem dX4_readPage_130 : decode cX4_readPage 130 = .ok (.aload_n 0, 1) := by decide +kernel
theorem dX4_readPage_131 : decode cX4_readPage 131 = .ok (.getfield 43, 3) := by decide +kernel
theorem dX4_readPage_134 : decode cX4_readPage 134 = .ok (.iconst 3, 1) := by decide +kernel
theorem dX4_readPage_135 : decode cX4_readPage 135 = .ok (.iaload, 1) := by decide +kernel
theorem dX4_readPage_136 : decode cX4_readPage 136 = .ok (.invokevirtual 209, 3) := by decide +kernel
theorem dX4_readPage_139 : decode cX4_readPage 139 = .ok (.iload_n 2, 1) := by decide +kernel
theorem dX4_readPage_140 : decode cX4_readPage 140 = .ok (.ireturn, 1) := by decide +kernel
theorem dX4_forgetPage_0 : decode cX4_forgetPage 0 = .ok (.aload_n 0, 1) := by decide +kernel
theorem dX4_forgetPage_1 : decode cX4_forgetPage 1 = .ok (.iload_n 1, 1) := by decide +kernel
theorem dX4_forgetPage_2 : decode cX4_forgetPage 2 = .ok (.invokevirtual 200, 3) := by decide +kernel
theorem dX4_forgetPage_5 : decode cX4_forgetPage 5 = .ok (.ifCond .ne 5, 3) := by decide +kernel
theorem dX4_forgetPage_8 : decode cX4_forgetPage 8 = .ok (.iconst (-1), 1) := by decide +kernel
theorem dX4_forgetPage_9 : decode cX4_forgetPage 9 = .ok (.ireturn, 1) := by decide +kernel
theorem dX4_forgetPage_10 : decode cX4_forgetPage 10 = .ok (.aload_n 0, 1) := by decide +kernel
theorem dX4_forgetPage_11 : decode cX4_forgetPage 11 = .ok (.iload_n 1, 1) := by decide +kernel
theorem dX4_forgetPage_12 : decode cX4_forgetPage 12 = .ok (.invokevirtual 145, 3) := by decide +kernel
theorem dX4_forgetPage_15 : decode cX4_forgetPage 15 = .ok (.aload_n 0, 1) := by decide +kernel
theorem dX4_forgetPage_16 : decode cX4_forgetPage 16 = .ok (.getfield 49, 3) := by decide +kernel
theorem dX4_forgetPage_19 : decode cX4_forgetPage 19 = .ok (.iload_n 1, 1) := by decide +kernel
theorem dX4_forgetPage_20 : decode cX4_forgetPage 20 = .ok (.invokevirtual 197, 3) := by decide +kernel
theorem dX4_forgetPage_23 : decode cX4_forgetPage 23 = .ok (.aload_n 0, 1) := by decide +kernel
theorem dX4_forgetPage_24 : decode cX4_forgetPage 24 = .ok (.invokevirtual 212, 3) := by decide +kernel
theorem dX4_forgetPage_27 : decode cX4_forgetPage 27 = .ok (.ireturn, 1) := by decide +kernel
theorem dX4_moveOnDemand_0 : decode cX4_moveOnDemand 0 = .ok (.iload_n 1, 1) := by decide +kernel
theorem dX4_moveOnDemand_1 : decode cX4_moveOnDemand 1 = .ok (.invokestatic 142, 3) := by decide +kernel
theorem dX4_moveOnDemand_4 : decode cX4_moveOnDemand 4 = .ok (.ifCond .ne 5, 3) := by decide +kernel
theorem dX4_moveOnDemand_7 : decode cX4_moveOnDemand 7 = .ok (.iconst (-1), 1) := by decide +kernel
theorem dX4_moveOnDemand_8 : decode cX4_moveOnDemand 8 = .ok (.ireturn, 1) := by decide +kernel
theorem dX4_moveOnDemand_9 : decode cX4_moveOnDemand 9 = .ok (.aload_n 0, 1) := by decide +kernel
theorem dX4_moveOnDemand_10 : decode cX4_moveOnDemand 10 = .ok (.iload_n 1, 1) := by decide +kernel
theorem dX4_moveOnDemand_11 : decode cX4_moveOnDemand 11 = .ok (.invokevirtual 101, 3) := by decide +kernel
theorem dX4_moveOnDemand_14 : decode cX4_moveOnDemand 14 = .ok (.ifCond .eq 6, 3) := by decide +kernel
theorem dX4_moveOnDemand_17 : decode cX4_moveOnDemand 17 = .ok (.bipush (-4), 2) := by decide +kernel
theorem dX4_moveOnDemand_19 : decode cX4_moveOnDemand 19 = .ok (.ireturn, 1) := by decide +kernel
theorem dX4_moveOnDemand_20 : decode cX4_moveOnDemand 20 = .ok (.aload_n 0, 1) := by decide +kernel
theorem dX4_moveOnDemand_21 : decode cX4_moveOnDemand 21 = .ok (.iload_n 1, 1) := by decide +kernel
theorem dX4_moveOnDemand_22 : decode cX4_moveOnDemand 22 = .ok (.invokevirtual 206, 3) := by decide +kernel
theorem dX4_moveOnDemand_25 : decode cX4_moveOnDemand 25 = .ok (.ireturn, 1) := by decide +kernel
theorem dX4_passTicks_0 : decode cX4_passTicks 0 = .ok (.iload_n 1, 1) := by decide +kernel
theorem dX4_passTicks_1 : decode cX4_passTicks 1 = .ok (.iconst 1, 1) := by decide +kernel
theorem dX4_passTicks_2 : decode cX4_passTicks 2 = .ok (.if_icmp .lt 9, 3) := by decide +kernel
theorem dX4_passTicks_5 : decode cX4_passTicks 5 = .ok (.iload_n 1, 1) := by decide +kernel
theorem dX4_passTicks_6 : decode cX4_passTicks 6 = .ok (.bipush 99, 2) := by decide +kernel
theorem dX4_passTicks_8 : decode cX4_passTicks 8 = .ok (.if_icmp .le 6, 3) := by decide +kernel
theorem dX4_passTicks_11 : decode cX4_passTicks 11 = .ok (.bipush (-2), 2) := by decide +kernel
theorem dX4_passTicks_13 : decode cX4_passTicks 13 = .ok (.ireturn, 1) := by decide +kernel
theorem dX4_passTicks_14 : decode cX4_passTicks 14 = .ok (.aload_n 0, 1) := by decide +kernel
theorem dX4_passTicks_15 : decode cX4_passTicks 15 = .ok (.getfield 64, 3) := by decide +kernel
theorem dX4_passTicks_18 : decode cX4_passTicks 18 = .ok (.iload_n 1, 1) := by decide +kernel
theorem dX4_passTicks_19 : decode cX4_passTicks 19 = .ok (.iadd, 1) := by decide +kernel
theorem dX4_passTicks_20 : decode cX4_passTicks 20 = .ok (.ldc 215, 2) := by decide +kernel
theorem dX4_passTicks_22 : decode cX4_passTicks 22 = .ok (.if_icmp .le 6, 3) := by decide +kernel
theorem dX4_passTicks_25 : decode cX4_passTicks 25 = .ok (.bipush (-4), 2) := by decide +kernel
theorem dX4_passTicks_27 : decode cX4_passTicks 27 = .ok (.ireturn, 1) := by decide +kernel
theorem dX4_passTicks_28 : decode cX4_passTicks 28 = .ok (.iconst 0, 1) := by decide +kernel
theorem dX4_passTicks_29 : decode cX4_passTicks 29 = .ok (.istore_n 2, 1) := by decide +kernel
theorem dX4_passTicks_30 : decode cX4_passTicks 30 = .ok (.iconst 0, 1) := by decide +kernel
theorem dX4_passTicks_31 : decode cX4_passTicks 31 = .ok (.istore_n 3, 1) := by decide +kernel
theorem dX4_passTicks_32 : decode cX4_passTicks 32 = .ok (.iload_n 3, 1) := by decide +kernel
theorem dX4_passTicks_33 : decode cX4_passTicks 33 = .ok (.iload_n 1, 1) := by decide +kernel
theorem dX4_passTicks_34 : decode cX4_passTicks 34 = .ok (.if_icmp .ge 16, 3) := by decide +kernel
theorem dX4_passTicks_37 : decode cX4_passTicks 37 = .ok (.iload_n 2, 1) := by decide +kernel
theorem dX4_passTicks_38 : decode cX4_passTicks 38 = .ok (.aload_n 0, 1) := by decide +kernel
theorem dX4_passTicks_39 : decode cX4_passTicks 39 = .ok (.invokevirtual 216, 3) := by decide +kernel
theorem dX4_passTicks_42 : decode cX4_passTicks 42 = .ok (.iadd, 1) := by decide +kernel
theorem dX4_passTicks_43 : decode cX4_passTicks 43 = .ok (.istore_n 2, 1) := by decide +kernel
theorem dX4_passTicks_44 : decode cX4_passTicks 44 = .ok (.iinc 3 1, 3) := by decide +kernel
theorem dX4_passTicks_47 : decode cX4_passTicks 47 = .ok (.goto (-15), 3) := by decide +kernel
theorem dX4_passTicks_50 : decode cX4_passTicks 50 = .ok (.iload_n 2, 1) := by decide +kernel
theorem dX4_passTicks_51 : decode cX4_passTicks 51 = .ok (.ireturn, 1) := by decide +kernel
theorem dX5_init_0 : decode cX5_init 0 = .ok (.aload_n 0, 1) := by decide +kernel
theorem dX5_init_1 : decode cX5_init 1 = .ok (.invokespecial 1, 3) := by decide +kernel
theorem dX5_init_4 : decode cX5_init 4 = .ok (.aload_n 0, 1) := by decide +kernel
theorem dX5_init_5 : decode cX5_init 5 = .ok (.new 7, 3) := by decide +kernel
theorem dX5_init_8 : decode cX5_init 8 = .ok (.dup, 1) := by decide +kernel
theorem dX5_init_9 : decode cX5_init 9 = .ok (.invokespecial 9, 3) := by decide +kernel
theorem dX5_init_12 : decode cX5_init 12 = .ok (.putfield 10, 3) := by decide +kernel
theorem dX5_init_15 : decode cX5_init 15 = .ok (.aload_n 0, 1) := by decide +kernel
theorem dX5_init_16 : decode cX5_init 16 = .ok (.new 7, 3) := by decide +kernel
theorem dX5_init_19 : decode cX5_init 19 = .ok (.dup, 1) := by decide +kernel
theorem dX5_init_20 : decode cX5_init 20 = .ok (.invokespecial 9, 3) := by decide +kernel
theorem dX5_init_23 : decode cX5_init 23 = .ok (.putfield 16, 3) := by decide +kernel
theorem dX5_init_26 : decode cX5_init 26 = .ok (.aload_n 0, 1) := by decide +kernel
theorem dX5_init_27 : decode cX5_init 27 = .ok (.new 7, 3) := by decide +kernel
theorem dX5_init_30 : decode cX5_init 30 = .ok (.dup, 1) := by decide +kernel
theorem dX5_init_31 : decode cX5_init 31 = .ok (.invokespecial 9, 3) := by decide +kernel
theorem dX5_init_34 : decode cX5_init 34 = .ok (.putfield 19, 3) := by decide +kernel
theorem dX5_init_37 : decode cX5_init 37 = .ok (.aload_n 0, 1) := by decide +kernel
theorem dX5_init_38 : decode cX5_init 38 = .ok (.new 7, 3) := by decide +kernel
theorem dX5_init_41 : decode cX5_init 41 = .ok (.dup, 1) := by decide +kernel
theorem dX5_init_42 : decode cX5_init 42 = .ok (.invokespecial 9, 3) := by decide +kernel
theorem dX5_init_45 : decode cX5_init 45 = .ok (.putfield 22, 3) := by decide +kernel
theorem dX5_init_48 : decode cX5_init 48 = .ok (.aload_n 0, 1) := by decide +kernel
theorem dX5_init_49 : decode cX5_init 49 = .ok (.iconst 0, 1) := by decide +kernel
theorem dX5_init_50 : decode cX5_init 50 = .ok (.putfield 25, 3) := by decide +kernel
theorem dX5_init_53 : decode cX5_init 53 = .ok (.aload_n 0, 1) := by decide +kernel
theorem dX5_init_54 : decode cX5_init 54 = .ok (.new 29, 3) := by decide +kernel
theorem dX5_init_57 : decode cX5_init 57 = .ok (.dup, 1) := by decide +kernel
theorem dX5_init_58 : decode cX5_init 58 = .ok (.invokespecial 31, 3) := by decide +kernel
theorem dX5_init_61 : decode cX5_init 61 = .ok (.putfield 32, 3) := by decide +kernel
theorem dX5_init_64 : decode cX5_init 64 = .ok (.aload_n 0, 1) := by decide +kernel
theorem dX5_init_65 : decode cX5_init 65 = .ok (.new 36, 3) := by decide +kernel
theorem dX5_init_68 : decode cX5_init 68 = .ok (.dup, 1) := by decide +kernel
theorem dX5_init_69 : decode cX5_init 69 = .ok (.invokespecial 38, 3) := by decide +kernel
theorem dX5_init_72 : decode cX5_init 72 = .ok (.putfield 39, 3) := by decide +kernel
theorem dX5_init_75 : decode cX5_init 75 = .ok (.aload_n 0, 1) := by decide +kernel
theorem dX5_init_76 : decode cX5_init 76 = .ok (.iconst 0, 1) := by decide +kernel
theorem dX5_init_77 : decode cX5_init 77 = .ok (.putfield 43, 3) := by decide +kernel
theorem dX5_init_80 : decode cX5_init 80 = .ok (.aload_n 0, 1) := by decide +kernel
theorem dX5_init_81 : decode cX5_init 81 = .ok (.iconst 0, 1) := by decide +kernel
theorem dX5_init_82 : decode cX5_init 82 = .ok (.putfield 46, 3) := by decide +kernel
theorem dX5_init_85 : decode cX5_init 85 = .ok (.aload_n 0, 1) := by decide +kernel
theorem dX5_init_86 : decode cX5_init 86 = .ok (.iconst 0, 1) := by decide +kernel
theorem dX5_init_87 : decode cX5_init 87 = .ok (.putfield 50, 3) := by decide +kernel
theorem dX5_init_90 : decode cX5_init 90 = .ok (.aload_n 0, 1) := by decide +kernel
theorem dX5_init_91 : decode cX5_init 91 = .ok (.iconst 0, 1) := by decide +kernel
theorem dX5_init_92 : decode cX5_init 92 = .ok (.putfield 53, 3) := by decide +kernel
theorem dX5_init_95 : decode cX5_init 95 = .ok (.return_, 1) := by decide +kernel
theorem dX5_set_0 : decode cX5_set 0 = .ok (.aload_n 0, 1) := by decide +kernel
theorem dX5_set_1 : decode cX5_set 1 = .ok (.getfield 16, 3) := by decide +kernel
theorem dX5_set_4 : decode cX5_set 4 = .ok (.aload_n 0, 1) := by decide +kernel
theorem dX5_set_5 : decode cX5_set 5 = .ok (.getfield 10, 3) := by decide +kernel
theorem dX5_set_8 : decode cX5_set 8 = .ok (.invokevirtual 56, 3) := by decide +kernel
theorem dX5_set_11 : decode cX5_set 11 = .ok (.aload_n 0, 1) := by decide +kernel
theorem dX5_set_12 : decode cX5_set 12 = .ok (.aload_n 0, 1) := by decide +kernel
theorem dX5_set_13 : decode cX5_set 13 = .ok (.getfield 10, 3) := by decide +kernel
theorem dX5_set_16 : decode cX5_set 16 = .ok (.iload_n 1, 1) := by decide +kernel
theorem dX5_set_17 : decode cX5_set 17 = .ok (.iload_n 2, 1) := by decide +kernel
theorem dX5_set_18 : decode cX5_set 18 = .ok (.invokevirtual 60, 3) := by decide +kernel
theorem dX5_set_21 : decode cX5_set 21 = .ok (.invokevirtual 64, 3) := by decide +kernel
theorem dX5_set_24 : decode cX5_set 24 = .ok (.ireturn, 1) := by decide +kernel
theorem dX5_setKind_0 : decode cX5_setKind 0 = .ok (.aload_n 0, 1) := by decide +kernel
theorem dX5_setKind_1 : decode cX5_setKind 1 = .ok (.getfield 16, 3) := by decide +kernel
theorem dX5_setKind_4 : decode cX5_setKind 4 = .ok (.aload_n 0, 1) := by decide +kernel
theorem dX5_setKind_5 : decode cX5_setKind 5 = .ok (.getfield 10, 3) := by decide +kernel
theorem dX5_setKind_8 : decode cX5_setKind 8 = .ok (.invokevirtual 56, 3) := by decide +kernel
theorem dX5_setKind_11 : decode cX5_setKind 11 = .ok (.aload_n 0, 1) := by decide +kernel
theorem dX5_setKind_12 : decode cX5_setKind 12 = .ok (.aload_n 0, 1) := by decide +kernel
theorem dX5_setKind_13 : decode cX5_setKind 13 = .ok (.getfield 10, 3) := by decide +kernel
theorem dX5_setKind_16 : decode cX5_setKind 16 = .ok (.iload_n 1, 1) := by decide +kernel
theorem dX5_setKind_17 : decode cX5_setKind 17 = .ok (.iload_n 2, 1) := by decide +kernel
theorem dX5_setKind_18 : decode cX5_setKind 18 = .ok (.invokevirtual 68, 3) := by decide +kernel
theorem dX5_setKind_21 : decode cX5_setKind 21 = .ok (.invokevirtual 64, 3) := by decide +kernel
theorem dX5_setKind_24 : decode cX5_setKind 24 = .ok (.ireturn, 1) := by decide +kernel
theorem dX5_mark_0 : decode cX5_mark 0 = .ok (.aload_n 0, 1) := by decide +kernel
theorem dX5_mark_1 : decode cX5_mark 1 = .ok (.getfield 16, 3) := by decide +kernel
theorem dX5_mark_4 : decode cX5_mark 4 = .ok (.aload_n 0, 1) := by decide +kernel
theorem dX5_mark_5 : decode cX5_mark 5 = .ok (.getfield 10, 3) := by decide +kernel
theorem dX5_mark_8 : decode cX5_mark 8 = .ok (.invokevirtual 56, 3) := by decide +kernel
theorem dX5_mark_11 : decode cX5_mark 11 = .ok (.aload_n 0, 1) := by decide +kernel
theorem dX5_mark_12 : decode cX5_mark 12 = .ok (.aload_n 0, 1) := by decide +kernel
theorem dX5_mark_13 : decode cX5_mark 13 = .ok (.getfield 10, 3) := by decide +kernel
theorem dX5_mark_16 : decode cX5_mark 16 = .ok (.iload_n 1, 1) := by decide +kernel
theorem dX5_mark_17 : decode cX5_mark 17 = .ok (.iload_n 2, 1) := by decide +kernel
theorem dX5_mark_18 : decode cX5_mark 18 = .ok (.invokevirtual 71, 3) := by decide +kernel
theorem dX5_mark_21 : decode cX5_mark 21 = .ok (.invokevirtual 64, 3) := by decide +kernel
theorem dX5_mark_24 : decode cX5_mark 24 = .ok (.ireturn, 1) := by decide +kernel
theorem dX5_write_0 : decode cX5_write 0 = .ok (.aload_n 0, 1) := by decide +kernel
theorem dX5_write_1 : decode cX5_write 1 = .ok (.getfield 16, 3) := by decide +kernel
theorem dX5_write_4 : decode cX5_write 4 = .ok (.aload_n 0, 1) := by decide +kernel
theorem dX5_write_5 : decode cX5_write 5 = .ok (.getfield 10, 3) := by decide +kernel
theorem dX5_write_8 : decode cX5_write 8 = .ok (.invokevirtual 56, 3) := by decide +kernel
theorem dX5_write_11 : decode cX5_write 11 = .ok (.aload_n 0, 1) := by decide +kernel
theorem dX5_write_12 : decode cX5_write 12 = .ok (.aload_n 0, 1) := by decide +kernel
theorem dX5_write_13 : decode cX5_write 13 = .ok (.getfield 10, 3) := by decide +kernel
theorem dX5_write_16 : decode cX5_write 16 = .ok (.iload_n 1, 1) := by decide +kernel
theorem dX5_write_17 : decode cX5_write 17 = .ok (.invokevirtual 75, 3) := by decide +kernel
theorem dX5_write_20 : decode cX5_write 20 = .ok (.invokevirtual 64, 3) := by decide +kernel
theorem dX5_write_23 : decode cX5_write 23 = .ok (.ireturn, 1) := by decide +kernel
theorem dX5_read_0 : decode cX5_read 0 = .ok (.aload_n 0, 1) := by decide +kernel
theorem dX5_read_1 : decode cX5_read 1 = .ok (.getfield 16, 3) := by decide +kernel
theorem dX5_read_4 : decode cX5_read 4 = .ok (.aload_n 0, 1) := by decide +kernel
theorem dX5_read_5 : decode cX5_read 5 = .ok (.getfield 10, 3) := by decide +kernel
theorem dX5_read_8 : decode cX5_read 8 = .ok (.invokevirtual 56, 3) := by decide +kernel
theorem dX5_read_11 : decode cX5_read 11 = .ok (.aload_n 0, 1) := by decide +kernel
theorem dX5_read_12 : decode cX5_read 12 = .ok (.aload_n 0, 1) := by decide +kernel
theorem dX5_read_13 : decode cX5_read 13 = .ok (.getfield 10, 3) := by decide +kernel
theorem dX5_read_16 : decode cX5_read 16 = .ok (.iload_n 1, 1) := by decide +kernel
theorem dX5_read_17 : decode cX5_read 17 = .ok (.invokevirtual 78, 3) := by decide +kernel
theorem dX5_read_20 : decode cX5_read 20 = .ok (.invokevirtual 64, 3) := by decide +kernel
theorem dX5_read_23 : decode cX5_read 23 = .ok (.ireturn, 1) := by decide +kernel
theorem dX5_forget_0 : decode cX5_forget 0 = .ok (.aload_n 0, 1) := by decide +kernel
theorem dX5_forget_1 : decode cX5_forget 1 = .ok (.getfield 16, 3) := by decide +kernel
theorem dX5_forget_4 : decode cX5_forget 4 = .ok (.aload_n 0, 1) := by decide +kernel
theorem dX5_forget_5 : decode cX5_forget 5 = .ok (.getfield 10, 3) := by decide +kernel
theorem dX5_forget_8 : decode cX5_forget 8 = .ok (.invokevirtual 56, 3) := by decide +kernel
theorem dX5_forget_11 : decode cX5_forget 11 = .ok (.aload_n 0, 1) := by decide +kernel
theorem dX5_forget_12 : decode cX5_forget 12 = .ok (.aload_n 0, 1) := by decide +kernel
theorem dX5_forget_13 : decode cX5_forget 13 = .ok (.getfield 10, 3) := by decide +kernel
theorem dX5_forget_16 : decode cX5_forget 16 = .ok (.iload_n 1, 1) := by decide +kernel
theorem dX5_forget_17 : decode cX5_forget 17 = .ok (.invokevirtual 81, 3) := by decide +kernel
theorem dX5_forget_20 : decode cX5_forget 20 = .ok (.invokevirtual 64, 3) := by decide +kernel
theorem dX5_forget_23 : decode cX5_forget 23 = .ok (.ireturn, 1) := by decide +kernel
theorem dX5_moveBlock_0 : decode cX5_moveBlock 0 = .ok (.aload_n 0, 1) := by decide +kernel
theorem dX5_moveBlock_1 : decode cX5_moveBlock 1 = .ok (.getfield 16, 3) := by decide +kernel
theorem dX5_moveBlock_4 : decode cX5_moveBlock 4 = .ok (.aload_n 0, 1) := by decide +kernel
theorem dX5_moveBlock_5 : decode cX5_moveBlock 5 = .ok (.getfield 10, 3) := by decide +kernel
theorem dX5_moveBlock_8 : decode cX5_moveBlock 8 = .ok (.invokevirtual 56, 3) := by decide +kernel
theorem dX5_moveBlock_11 : decode cX5_moveBlock 11 = .ok (.aload_n 0, 1) := by decide +kernel
theorem dX5_moveBlock_12 : decode cX5_moveBlock 12 = .ok (.aload_n 0, 1) := by decide +kernel
theorem dX5_moveBlock_13 : decode cX5_moveBlock 13 = .ok (.getfield 10, 3) := by decide +kernel
theorem dX5_moveBlock_16 : decode cX5_moveBlock 16 = .ok (.iload_n 1, 1) := by decide +kernel
theorem dX5_moveBlock_17 : decode cX5_moveBlock 17 = .ok (.invokevirtual 84, 3) := by decide +kernel
theorem dX5_moveBlock_20 : decode cX5_moveBlock 20 = .ok (.invokevirtual 64, 3) := by decide +kernel
theorem dX5_moveBlock_23 : decode cX5_moveBlock 23 = .ok (.ireturn, 1) := by decide +kernel
theorem dX5_pass_0 : decode cX5_pass 0 = .ok (.aload_n 0, 1) := by decide +kernel
theorem dX5_pass_1 : decode cX5_pass 1 = .ok (.getfield 16, 3) := by decide +kernel
theorem dX5_pass_4 : decode cX5_pass 4 = .ok (.aload_n 0, 1) := by decide +kernel
theorem dX5_pass_5 : decode cX5_pass 5 = .ok (.getfield 10, 3) := by decide +kernel
theorem dX5_pass_8 : decode cX5_pass 8 = .ok (.invokevirtual 56, 3) := by decide +kernel
theorem dX5_pass_11 : decode cX5_pass 11 = .ok (.aload_n 0, 1) := by decide +kernel
theorem dX5_pass_12 : decode cX5_pass 12 = .ok (.aload_n 0, 1) := by decide +kernel
theorem dX5_pass_13 : decode cX5_pass 13 = .ok (.getfield 10, 3) := by decide +kernel
theorem dX5_pass_16 : decode cX5_pass 16 = .ok (.iload_n 1, 1) := by decide +kernel
theorem dX5_pass_17 : decode cX5_pass 17 = .ok (.invokevirtual 87, 3) := by decide +kernel
theorem dX5_pass_20 : decode cX5_pass 20 = .ok (.invokevirtual 64, 3) := by decide +kernel
theorem dX5_pass_23 : decode cX5_pass 23 = .ok (.ireturn, 1) := by decide +kernel
theorem dX5_settle_0 : decode cX5_settle 0 = .ok (.iload_n 1, 1) := by decide +kernel
theorem dX5_settle_1 : decode cX5_settle 1 = .ok (.ifCond .ge 17, 3) := by decide +kernel
theorem dX5_settle_4 : decode cX5_settle 4 = .ok (.aload_n 0, 1) := by decide +kernel
theorem dX5_settle_5 : decode cX5_settle 5 = .ok (.getfield 10, 3) := by decide +kernel
theorem dX5_settle_8 : decode cX5_settle 8 = .ok (.aload_n 0, 1) := by decide +kernel
theorem dX5_settle_9 : decode cX5_settle 9 = .ok (.getfield 16, 3) := by decide +kernel
theorem dX5_settle_12 : decode cX5_settle 12 = .ok (.invokevirtual 56, 3) := by decide +kernel
theorem dX5_settle_15 : decode cX5_settle 15 = .ok (.goto 14, 3) := by decide +kernel
theorem dX5_settle_18 : decode cX5_settle 18 = .ok (.aload_n 0, 1) := by decide +kernel
theorem dX5_settle_19 : decode cX5_settle 19 = .ok (.getfield 32, 3) := by decide +kernel
theorem dX5_settle_22 : decode cX5_settle 22 = .ok (.aload_n 0, 1) := by decide +kernel
theorem dX5_settle_23 : decode cX5_settle 23 = .ok (.getfield 16, 3) := by decide +kernel
theorem dX5_settle_26 : decode cX5_settle 26 = .ok (.invokevirtual 90, 3) := by decide +kernel
theorem dX5_settle_29 : decode cX5_settle 29 = .ok (.iload_n 1, 1) := by decide +kernel
theorem dX5_settle_30 : decode cX5_settle 30 = .ok (.ireturn, 1) := by decide +kernel
theorem dX5_undo_0 : decode cX5_undo 0 = .ok (.aload_n 0, 1) := by decide +kernel
theorem dX5_undo_1 : decode cX5_undo 1 = .ok (.getfield 32, 3) := by decide +kernel
theorem dX5_undo_4 : decode cX5_undo 4 = .ok (.getfield 124, 3) := by decide +kernel
theorem dX5_undo_7 : decode cX5_undo 7 = .ok (.ifCond .ne 6, 3) := by decide +kernel
theorem dX5_undo_10 : decode cX5_undo 10 = .ok (.bipush (-5), 2) := by decide +kernel
theorem dX5_undo_12 : decode cX5_undo 12 = .ok (.ireturn, 1) := by decide +kernel
theorem dX5_undo_13 : decode cX5_undo 13 = .ok (.aload_n 0, 1) := by decide +kernel
theorem dX5_undo_14 : decode cX5_undo 14 = .ok (.getfield 32, 3) := by decide +kernel
theorem dX5_undo_17 : decode cX5_undo 17 = .ok (.aload_n 0, 1) := by decide +kernel
theorem dX5_undo_18 : decode cX5_undo 18 = .ok (.getfield 10, 3) := by decide +kernel
theorem dX5_undo_21 : decode cX5_undo 21 = .ok (.invokevirtual 127, 3) := by decide +kernel
theorem dX5_undo_24 : decode cX5_undo 24 = .ok (.aload_n 0, 1) := by decide +kernel
theorem dX5_undo_25 : decode cX5_undo 25 = .ok (.getfield 32, 3) := by decide +kernel
theorem dX5_undo_28 : decode cX5_undo 28 = .ok (.getfield 124, 3) := by decide +kernel
theorem dX5_undo_31 : decode cX5_undo 31 = .ok (.ireturn, 1) := by decide +kernel
theorem dX5_keep_0 : decode cX5_keep 0 = .ok (.aload_n 0, 1) := by decide +kernel
theorem dX5_keep_1 : decode cX5_keep 1 = .ok (.getfield 22, 3) := by decide +kernel
theorem dX5_keep_4 : decode cX5_keep 4 = .ok (.aload_n 0, 1) := by decide +kernel
theorem dX5_keep_5 : decode cX5_keep 5 = .ok (.getfield 10, 3) := by decide +kernel
theorem dX5_keep_8 : decode cX5_keep 8 = .ok (.invokevirtual 56, 3) := by decide +kernel
theorem dX5_keep_11 : decode cX5_keep 11 = .ok (.aload_n 0, 1) := by decide +kernel
theorem dX5_keep_12 : decode cX5_keep 12 = .ok (.iconst 1, 1) := by decide +kernel
theorem dX5_keep_13 : decode cX5_keep 13 = .ok (.putfield 25, 3) := by decide +kernel
theorem dX5_keep_16 : decode cX5_keep 16 = .ok (.aload_n 0, 1) := by decide +kernel
theorem dX5_keep_17 : decode cX5_keep 17 = .ok (.getfield 10, 3) := by decide +kernel
theorem dX5_keep_20 : decode cX5_keep 20 = .ok (.getfield 130, 3) := by decide +kernel
theorem dX5_keep_23 : decode cX5_keep 23 = .ok (.ireturn, 1) := by decide +kernel
theorem dX5_restore_0 : decode cX5_restore 0 = .ok (.aload_n 0, 1) := by decide +kernel
theorem dX5_restore_1 : decode cX5_restore 1 = .ok (.getfield 25, 3) := by decide +kernel
theorem dX5_restore_4 : decode cX5_restore 4 = .ok (.ifCond .ne 6, 3) := by decide +kernel
theorem dX5_restore_7 : decode cX5_restore 7 = .ok (.bipush (-5), 2) := by decide +kernel
theorem dX5_restore_9 : decode cX5_restore 9 = .ok (.ireturn, 1) := by decide +kernel
theorem dX5_restore_10 : decode cX5_restore 10 = .ok (.aload_n 0, 1) := by decide +kernel
theorem dX5_restore_11 : decode cX5_restore 11 = .ok (.getfield 32, 3) := by decide +kernel
theorem dX5_restore_14 : decode cX5_restore 14 = .ok (.aload_n 0, 1) := by decide +kernel
theorem dX5_restore_15 : decode cX5_restore 15 = .ok (.getfield 10, 3) := by decide +kernel
theorem dX5_restore_18 : decode cX5_restore 18 = .ok (.invokevirtual 90, 3) := by decide +kernel
theorem dX5_restore_21 : decode cX5_restore 21 = .ok (.aload_n 0, 1) := by decide +kernel
theorem dX5_restore_22 : decode cX5_restore 22 = .ok (.getfield 10, 3) := by decide +kernel
theorem dX5_restore_25 : decode cX5_restore 25 = .ok (.aload_n 0, 1) := by decide +kernel
theorem dX5_restore_26 : decode cX5_restore 26 = .ok (.getfield 22, 3) := by decide +kernel
theorem dX5_restore_29 : decode cX5_restore 29 = .ok (.invokevirtual 56, 3) := by decide +kernel
theorem dX5_restore_32 : decode cX5_restore 32 = .ok (.aload_n 0, 1) := by decide +kernel
theorem dX5_restore_33 : decode cX5_restore 33 = .ok (.getfield 10, 3) := by decide +kernel
theorem dX5_restore_36 : decode cX5_restore 36 = .ok (.getfield 130, 3) := by decide +kernel
theorem dX5_restore_39 : decode cX5_restore 39 = .ok (.ireturn, 1) := by decide +kernel
theorem dX5_page_0 : decode cX5_page 0 = .ok (.iload_n 1, 1) := by decide +kernel
theorem dX5_page_1 : decode cX5_page 1 = .ok (.invokestatic 133, 3) := by decide +kernel
theorem dX5_page_4 : decode cX5_page 4 = .ok (.ifCond .ne 5, 3) := by decide +kernel
theorem dX5_page_7 : decode cX5_page 7 = .ok (.iconst (-1), 1) := by decide +kernel
theorem dX5_page_8 : decode cX5_page 8 = .ok (.ireturn, 1) := by decide +kernel
theorem dX5_page_9 : decode cX5_page 9 = .ok (.iload_n 2, 1) := by decide +kernel
theorem dX5_page_10 : decode cX5_page 10 = .ok (.ifCond .lt 8, 3) := by decide +kernel
theorem dX5_page_13 : decode cX5_page 13 = .ok (.iload_n 2, 1) := by decide +kernel
theorem dX5_page_14 : decode cX5_page 14 = .ok (.iconst 5, 1) := by decide +kernel
theorem dX5_page_15 : decode cX5_page 15 = .ok (.if_icmp .le 6, 3) := by decide +kernel
theorem dX5_page_18 : decode cX5_page 18 = .ok (.bipush (-2), 2) := by decide +kernel
theorem dX5_page_20 : decode cX5_page 20 = .ok (.ireturn, 1) := by decide +kernel
theorem dX5_page_21 : decode cX5_page 21 = .ok (.iload_n 2, 1) := by decide +kernel
theorem dX5_page_22 : decode cX5_page 22 = .ok (.iconst 4, 1) := by decide +kernel
theorem dX5_page_23 : decode cX5_page 23 = .ok (.if_icmp .ne 27, 3) := by decide +kernel
theorem dX5_page_26 : decode cX5_page 26 = .ok (.aload_n 0, 1) := by decide +kernel
theorem dX5_page_27 : decode cX5_page 27 = .ok (.getfield 10, 3) := by decide +kernel
theorem dX5_page_30 : decode cX5_page 30 = .ok (.getfield 137, 3) := by decide +kernel
theorem dX5_page_33 : decode cX5_page 33 = .ok (.iload_n 1, 1) := by decide +kernel
theorem dX5_page_34 : decode cX5_page 34 = .ok (.invokevirtual 141, 3) := by decide +kernel
theorem dX5_page_37 : decode cX5_page 37 = .ok (.istore_n 3, 1) := by decide +kernel
theorem dX5_page_38 : decode cX5_page 38 = .ok (.iload_n 3, 1) := by decide +kernel
theorem dX5_page_39 : decode cX5_page 39 = .ok (.iconst (-1), 1) := by decide +kernel
theorem dX5_page_40 : decode cX5_page 40 = .ok (.if_icmp .ne 8, 3) := by decide +kernel
theorem dX5_page_43 : decode cX5_page 43 = .ok (.bipush (-5), 2) := by decide +kernel
theorem dX5_page_45 : decode cX5_page 45 = .ok (.goto 4, 3) := by decide +kernel
theorem dX5_page_48 : decode cX5_page 48 = .ok (.iload_n 3, 1) := by decide +kernel
theorem dX5_page_49 : decode cX5_page 49 = .ok (.ireturn, 1) := by decide +kernel
theorem dX5_page_50 : decode cX5_page 50 = .ok (.iload_n 2, 1) := by decide +kernel
theorem dX5_page_51 : decode cX5_page 51 = .ok (.iconst 5, 1) := by decide +kernel
theorem dX5_page_52 : decode cX5_page 52 = .ok (.if_icmp .ne 13, 3) := by decide +kernel
theorem dX5_page_55 : decode cX5_page 55 = .ok (.aload_n 0, 1) := by decide +kernel
theorem dX5_page_56 : decode cX5_page 56 = .ok (.getfield 10, 3) := by decide +kernel
theorem dX5_page_59 : decode cX5_page 59 = .ok (.getfield 146, 3) := by decide +kernel
theorem dX5_page_62 : decode cX5_page 62 = .ok (.iload_n 1, 1) := by decide +kernel
theorem dX5_page_63 : decode cX5_page 63 = .ok (.iaload, 1) := by decide +kernel
theorem dX5_page_64 : decode cX5_page 64 = .ok (.ireturn, 1) := by decide +kernel
theorem dX5_page_65 : decode cX5_page 65 = .ok (.aload_n 0, 1) := by decide +kernel
theorem dX5_page_66 : decode cX5_page 66 = .ok (.getfield 10, 3) := by decide +kernel
theorem dX5_page_69 : decode cX5_page 69 = .ok (.iload_n 1, 1) := by decide +kernel
theorem dX5_page_70 : decode cX5_page 70 = .ok (.invokevirtual 150, 3) := by decide +kernel
theorem dX5_page_73 : decode cX5_page 73 = .ok (.ifCond .ne 6, 3) := by decide +kernel
theorem dX5_page_76 : decode cX5_page 76 = .ok (.bipush (-5), 2) := by decide +kernel
theorem dX5_page_78 : decode cX5_page 78 = .ok (.ireturn, 1) := by decide +kernel
theorem dX5_page_79 : decode cX5_page 79 = .ok (.aload_n 0, 1) := by decide +kernel
theorem dX5_page_80 : decode cX5_page 80 = .ok (.getfield 10, 3) := by decide +kernel
theorem dX5_page_83 : decode cX5_page 83 = .ok (.getfield 153, 3) := by decide +kernel
theorem dX5_page_86 : decode cX5_page 86 = .ok (.iload_n 1, 1) := by decide +kernel
theorem dX5_page_87 : decode cX5_page 87 = .ok (.iaload, 1) := by decide +kernel
theorem dX5_page_88 : decode cX5_page 88 = .ok (.istore_n 3, 1) := by decide +kernel
theorem dX5_page_89 : decode cX5_page 89 = .ok (.iload_n 2, 1) := by decide +kernel
theorem dX5_page_90 : decode cX5_page 90 = .ok (.tableswitch 56 0 2 #[26, 28, 38], 26) := by decide +kernel
theorem dX5_page_116 : decode cX5_page 116 = .ok (.iload_n 3, 1) := by decide +kernel
theorem dX5_page_117 : decode cX5_page 117 = .ok (.ireturn, 1) := by decide +kernel
theorem dX5_page_118 : decode cX5_page 118 = .ok (.aload_n 0, 1) := by decide +kernel
theorem dX5_page_119 : decode cX5_page 119 = .ok (.getfield 10, 3) := by decide +kernel
theorem dX5_page_122 : decode cX5_page 122 = .ok (.getfield 156, 3) := by decide +kernel
theorem dX5_page_125 : decode cX5_page 125 = .ok (.iload_n 3, 1) := by decide +kernel
theorem dX5_page_126 : decode cX5_page 126 = .ok (.iaload, 1) := by decide +kernel
theorem dX5_page_127 : decode cX5_page 127 = .ok (.ireturn, 1) := by decide +kernel
theorem dX5_page_128 : decode cX5_page 128 = .ok (.aload_n 0, 1) := by decide +kernel
theorem dX5_page_129 : decode cX5_page 129 = .ok (.getfield 10, 3) := by decide +kernel
theorem dX5_page_132 : decode cX5_page 132 = .ok (.getfield 130, 3) := by decide +kernel
theorem dX5_page_135 : decode cX5_page 135 = .ok (.aload_n 0, 1) := by decide +kernel
theorem dX5_page_136 : decode cX5_page 136 = .ok (.getfield 10, 3) := by decide +kernel
theorem dX5_page_139 : decode cX5_page 139 = .ok (.getfield 159, 3) := by decide +kernel
theorem dX5_page_142 : decode cX5_page 142 = .ok (.iload_n 3, 1) := by decide +kernel
theorem dX5_page_143 : decode cX5_page 143 = .ok (.iaload, 1) := by decide +kernel
theorem dX5_page_144 : decode cX5_page 144 = .ok (.isub, 1) := by decide +kernel
theorem dX5_page_145 : decode cX5_page 145 = .ok (.ireturn, 1) := by decide +kernel
theorem dX5_page_146 : decode cX5_page 146 = .ok (.aload_n 0, 1) := by decide +kernel
theorem dX5_page_147 : decode cX5_page 147 = .ok (.getfield 10, 3) := by decide +kernel
theorem dX5_page_150 : decode cX5_page 150 = .ok (.iload_n 3, 1) := by decide +kernel
theorem dX5_page_151 : decode cX5_page 151 = .ok (.invokevirtual 162, 3) := by decide +kernel
theorem dX5_page_154 : decode cX5_page 154 = .ok (.ireturn, 1) := by decide +kernel
theorem dX5_block_0 : decode cX5_block 0 = .ok (.iload_n 1, 1) := by decide +kernel
theorem dX5_block_1 : decode cX5_block 1 = .ok (.invokestatic 165, 3) := by decide +kernel
theorem dX5_block_4 : decode cX5_block 4 = .ok (.ifCond .ne 5, 3) := by decide +kernel
theorem dX5_block_7 : decode cX5_block 7 = .ok (.iconst (-1), 1) := by decide +kernel
theorem dX5_block_8 : decode cX5_block 8 = .ok (.ireturn, 1) := by decide +kernel
theorem dX5_block_9 : decode cX5_block 9 = .ok (.iload_n 2, 1) := by decide +kernel
theorem dX5_block_10 : decode cX5_block 10 = .ok (.tableswitch 182 0 9 #[54, 64, 74, 83, 92, 111, 120, 137, 154, 164], 54) := by decide +kernel
theorem dX5_block_64 : decode cX5_block 64 = .ok (.aload_n 0, 1) := by decide +kernel
theorem dX5_block_65 : decode cX5_block 65 = .ok (.getfield 10, 3) := by decide +kernel
theorem dX5_block_68 : decode cX5_block 68 = .ok (.getfield 168, 3) := by decide +kernel
theorem dX5_block_71 : decode cX5_block 71 = .ok (.iload_n 1, 1) := by decide +kernel
theorem dX5_block_72 : decode cX5_block 72 = .ok (.iaload, 1) := by decide +kernel
theorem dX5_block_73 : decode cX5_block 73 = .ok (.ireturn, 1) := by decide +kernel
theorem dX5_block_74 : decode cX5_block 74 = .ok (.aload_n 0, 1) := by decide +kernel
theorem dX5_block_75 : decode cX5_block 75 = .ok (.getfield 10, 3) := by decide +kernel
theorem dX5_block_78 : decode cX5_block 78 = .ok (.getfield 171, 3) := by decide +kernel
theorem dX5_block_81 : decode cX5_block 81 = .ok (.iload_n 1, 1) := by decide +kernel
theorem dX5_block_82 : decode cX5_block 82 = .ok (.iaload, 1) := by decide +kernel
theorem dX5_block_83 : decode cX5_block 83 = .ok (.ireturn, 1) := by decide +kernel
theorem dX5_block_84 : decode cX5_block 84 = .ok (.aload_n 0, 1) := by decide +kernel
theorem dX5_block_85 : decode cX5_block 85 = .ok (.getfield 10, 3) := by decide +kernel
theorem dX5_block_88 : decode cX5_block 88 = .ok (.iload_n 1, 1) := by decide +kernel
theorem dX5_block_89 : decode cX5_block 89 = .ok (.invokevirtual 174, 3) := by decide +kernel
theorem dX5_block_92 : decode cX5_block 92 = .ok (.ireturn, 1) := by decide +kernel
theorem dX5_block_93 : decode cX5_block 93 = .ok (.aload_n 0, 1) := by decide +kernel
theorem dX5_block_94 : decode cX5_block 94 = .ok (.getfield 10, 3) := by decide +kernel
theorem dX5_block_97 : decode cX5_block 97 = .ok (.iload_n 1, 1) := by decide +kernel
theorem dX5_block_98 : decode cX5_block 98 = .ok (.invokevirtual 177, 3) := by decide +kernel
theorem dX5_block_101 : decode cX5_block 101 = .ok (.ireturn, 1) := by decide +kernel
theorem dX5_block_102 : decode cX5_block 102 = .ok (.aload_n 0, 1) := by decide +kernel
theorem dX5_block_103 : decode cX5_block 103 = .ok (.getfield 10, 3) := by decide +kernel
theorem dX5_block_106 : decode cX5_block 106 = .ok (.getfield 180, 3) := by decide +kernel
theorem dX5_block_109 : decode cX5_block 109 = .ok (.iload_n 1, 1) := by decide +kernel
theorem dX5_block_110 : decode cX5_block 110 = .ok (.iaload, 1) := by decide +kernel
theorem dX5_block_111 : decode cX5_block 111 = .ok (.aload_n 0, 1) := by decide +kernel
theorem dX5_block_112 : decode cX5_block 112 = .ok (.getfield 10, 3) := by decide +kernel
theorem dX5_block_115 : decode cX5_block 115 = .ok (.iload_n 1, 1) := by decide +kernel
theorem dX5_block_116 : decode cX5_block 116 = .ok (.invokevirtual 177, 3) := by decide +kernel
theorem dX5_block_119 : decode cX5_block 119 = .ok (.isub, 1) := by decide +kernel
theorem dX5_block_120 : decode cX5_block 120 = .ok (.ireturn, 1) := by decide +kernel
theorem dX5_block_121 : decode cX5_block 121 = .ok (.aload_n 0, 1) := by decide +kernel
theorem dX5_block_122 : decode cX5_block 122 = .ok (.getfield 10, 3) := by decide +kernel
theorem dX5_block_125 : decode cX5_block 125 = .ok (.iload_n 1, 1) := by decide +kernel
theorem dX5_block_126 : decode cX5_block 126 = .ok (.invokevirtual 183, 3) := by decide +kernel
theorem dX5_block_129 : decode cX5_block 129 = .ok (.ireturn, 1) := by decide +kernel
theorem dX5_block_130 : decode cX5_block 130 = .ok (.aload_n 0, 1) := by decide +kernel
theorem dX5_block_131 : decode cX5_block 131 = .ok (.getfield 10, 3) := by decide +kernel
theorem dX5_block_134 : decode cX5_block 134 = .ok (.iload_n 1, 1) := by decide +kernel
theorem dX5_block_135 : decode cX5_block 135 = .ok (.invokevirtual 186, 3) := by decide +kernel
theorem dX5_block_138 : decode cX5_block 138 = .ok (.ifCond .eq 7, 3) := by decide +kernel
theorem dX5_block_141 : decode cX5_block 141 = .ok (.iconst 1, 1) := by decide +kernel
theorem dX5_block_142 : decode cX5_block 142 = .ok (.goto 4, 3) := by decide +kernel
theorem dX5_block_145 : decode cX5_block 145 = .ok (.iconst 0, 1) := by decide +kernel
theorem dX5_block_146 : decode cX5_block 146 = .ok (.ireturn, 1) := by decide +kernel
theorem dX5_block_147 : decode cX5_block 147 = .ok (.aload_n 0, 1) := by decide +kernel
theorem dX5_block_148 : decode cX5_block 148 = .ok (.getfield 10, 3) := by decide +kernel
theorem dX5_block_151 : decode cX5_block 151 = .ok (.iload_n 1, 1) := by decide +kernel
theorem dX5_block_152 : decode cX5_block 152 = .ok (.invokevirtual 189, 3) := by decide +kernel
theorem dX5_block_155 : decode cX5_block 155 = .ok (.ifCond .eq 7, 3) := by decide +kernel
theorem dX5_block_158 : decode cX5_block 158 = .ok (.iconst 1, 1) := by decide +kernel
theorem dX5_block_159 : decode cX5_block 159 = .ok (.goto 4, 3) := by decide +kernel
theorem dX5_block_162 : decode cX5_block 162 = .ok (.iconst 0, 1) := by decide +kernel
theorem dX5_block_163 : decode cX5_block 163 = .ok (.ireturn, 1) := by decide +kernel
theorem dX5_block_164 : decode cX5_block 164 = .ok (.aload_n 0, 1) := by decide +kernel
theorem dX5_block_165 : decode cX5_block 165 = .ok (.getfield 10, 3) := by decide +kernel
theorem dX5_block_168 : decode cX5_block 168 = .ok (.getfield 192, 3) := by decide +kernel
theorem dX5_block_171 : decode cX5_block 171 = .ok (.iload_n 1, 1) := by decide +kernel
theorem dX5_block_172 : decode cX5_block 172 = .ok (.iaload, 1) := by decide +kernel
theorem dX5_block_173 : decode cX5_block 173 = .ok (.ireturn, 1) := by decide +kernel
theorem dX5_block_174 : decode cX5_block 174 = .ok (.aload_n 0, 1) := by decide +kernel
theorem dX5_block_175 : decode cX5_block 175 = .ok (.getfield 10, 3) := by decide +kernel
theorem dX5_block_178 : decode cX5_block 178 = .ok (.getfield 195, 3) := by decide +kernel
theorem dX5_block_181 : decode cX5_block 181 = .ok (.iload_n 1, 1) := by decide +kernel
theorem dX5_block_182 : decode cX5_block 182 = .ok (.baload, 1) := by decide +kernel
theorem dX5_block_183 : decode cX5_block 183 = .ok (.ifCond .eq 7, 3) := by decide +kernel
theorem dX5_block_186 : decode cX5_block 186 = .ok (.iconst 1, 1) := by decide +kernel
theorem dX5_block_187 : decode cX5_block 187 = .ok (.goto 4, 3) := by decide +kernel
theorem dX5_block_190 : decode cX5_block 190 = .ok (.iconst 0, 1) := by decide +kernel
theorem dX5_block_191 : decode cX5_block 191 = .ok (.ireturn, 1) := by decide +kernel
theorem dX5_block_192 : decode cX5_block 192 = .ok (.bipush (-2), 2) := by decide +kernel
theorem dX5_block_194 : decode cX5_block 194 = .ok (.ireturn, 1) := by decide +kernel
theorem dX5_place_0 : decode cX5_place 0 = .ok (.iload_n 1, 1) := by decide +kernel
theorem dX5_place_1 : decode cX5_place 1 = .ok (.invokestatic 165, 3) := by decide +kernel
theorem dX5_place_4 : decode cX5_place 4 = .ok (.ifCond .eq 13, 3) := by decide +kernel
theorem dX5_place_7 : decode cX5_place 7 = .ok (.iload_n 2, 1) := by decide +kernel
theorem dX5_place_8 : decode cX5_place 8 = .ok (.ifCond .lt 9, 3) := by decide +kernel
theorem dX5_place_11 : decode cX5_place 11 = .ok (.iload_n 2, 1) := by decide +kernel
theorem dX5_place_12 : decode cX5_place 12 = .ok (.bipush 8, 2) := by decide +kernel
theorem dX5_place_14 : decode cX5_place 14 = .ok (.if_icmp .lt 5, 3) := by decide +kernel
theorem dX5_place_17 : decode cX5_place 17 = .ok (.iconst (-1), 1) := by decide +kernel
theorem dX5_place_18 : decode cX5_place 18 = .ok (.ireturn, 1) := by decide +kernel
theorem dX5_place_19 : decode cX5_place 19 = .ok (.iload_n 1, 1) := by decide +kernel
theorem dX5_place_20 : decode cX5_place 20 = .ok (.bipush 8, 2) := by decide +kernel
theorem dX5_place_22 : decode cX5_place 22 = .ok (.imul, 1) := by decide +kernel
theorem dX5_place_23 : decode cX5_place 23 = .ok (.iload_n 2, 1) := by decide +kernel
theorem dX5_place_24 : decode cX5_place 24 = .ok (.iadd, 1) := by decide +kernel
theorem dX5_place_25 : decode cX5_place 25 = .ok (.istore 4, 2) := by decide +kernel
theorem dX5_place_27 : decode cX5_place 27 = .ok (.aload_n 0, 1) := by decide +kernel
theorem dX5_place_28 : decode cX5_place 28 = .ok (.getfield 10, 3) := by decide +kernel
theorem dX5_place_31 : decode cX5_place 31 = .ok (.getfield 199, 3) := by decide +kernel
theorem dX5_place_34 : decode cX5_place 34 = .ok (.iload 4, 2) := by decide +kernel
theorem dX5_place_36 : decode cX5_place 36 = .ok (.iaload, 1) := by decide +kernel
theorem dX5_place_37 : decode cX5_place 37 = .ok (.istore 5, 2) := by decide +kernel
theorem dX5_place_39 : decode cX5_place 39 = .ok (.iload_n 3, 1) := by decide +kernel
theorem dX5_place_40 : decode cX5_place 40 = .ok (.tableswitch 80 0 2 #[28, 44, 69], 28) := by decide +kernel
theorem dX5_place_68 : decode cX5_place 68 = .ok (.iload 5, 2) := by decide +kernel
theorem dX5_place_70 : decode cX5_place 70 = .ok (.invokestatic 133, 3) := by decide +kernel
theorem dX5_place_73 : decode cX5_place 73 = .ok (.ifCond .eq 8, 3) := by decide +kernel
theorem dX5_place_76 : decode cX5_place 76 = .ok (.iload 5, 2) := by decide +kernel
theorem dX5_place_78 : decode cX5_place 78 = .ok (.goto 5, 3) := by decide +kernel
theorem dX5_place_81 : decode cX5_place 81 = .ok (.bipush (-5), 2) := by decide +kernel
theorem dX5_place_83 : decode cX5_place 83 = .ok (.ireturn, 1) := by decide +kernel
theorem dX5_place_84 : decode cX5_place 84 = .ok (.iload 5, 2) := by decide +kernel
theorem dX5_place_86 : decode cX5_place 86 = .ok (.invokestatic 133, 3) := by decide +kernel
theorem dX5_place_89 : decode cX5_place 89 = .ok (.ifCond .eq 7, 3) := by decide +kernel
theorem dX5_place_92 : decode cX5_place 92 = .ok (.iconst 1, 1) := by decide +kernel
theorem dX5_place_93 : decode cX5_place 93 = .ok (.goto 15, 3) := by decide +kernel
theorem dX5_place_96 : decode cX5_place 96 = .ok (.iload 5, 2) := by decide +kernel
theorem dX5_place_98 : decode cX5_place 98 = .ok (.bipush (-2), 2) := by decide +kernel
theorem dX5_place_100 : decode cX5_place 100 = .ok (.if_icmp .ne 7, 3) := by decide +kernel
theorem dX5_place_103 : decode cX5_place 103 = .ok (.iconst 2, 1) := by decide +kernel
theorem dX5_place_104 : decode cX5_place 104 = .ok (.goto 4, 3) := by decide +kernel
theorem dX5_place_107 : decode cX5_place 107 = .ok (.iconst 0, 1) := by decide +kernel
theorem dX5_place_108 : decode cX5_place 108 = .ok (.ireturn, 1) := by decide +kernel
theorem dX5_place_109 : decode cX5_place 109 = .ok (.aload_n 0, 1) := by decide +kernel
theorem dX5_place_110 : decode cX5_place 110 = .ok (.getfield 10, 3) := by decide +kernel
theorem dX5_place_113 : decode cX5_place 113 = .ok (.getfield 156, 3) := by decide +kernel
theorem dX5_place_116 : decode cX5_place 116 = .ok (.iload 4, 2) := by decide +kernel
theorem dX5_place_118 : decode cX5_place 118 = .ok (.iaload, 1) := by decide +kernel
theorem dX5_place_119 : decode cX5_place 119 = .ok (.ireturn, 1) := by decide +kernel
theorem dX5_place_120 : decode cX5_place 120 = .ok (.bipush (-2), 2) := by decide +kernel
theorem dX5_place_122 : decode cX5_place 122 = .ok (.ireturn, 1) := by decide +kernel
theorem dX5_count_0 : decode cX5_count 0 = .ok (.iload_n 1, 1) := by decide +kernel
theorem dX5_count_1 : decode cX5_count 1 = .ok (.tableswitch 193 0 12 #[67, 75, 83, 91, 115, 123, 131, 139, 147, 158, 169, 177, 185], 67) := by decide +kernel
theorem dX5_count_68 : decode cX5_count 68 = .ok (.aload_n 0, 1) := by decide +kernel
theorem dX5_count_69 : decode cX5_count 69 = .ok (.getfield 10, 3) := by decide +kernel
theorem dX5_count_72 : decode cX5_count 72 = .ok (.getfield 130, 3) := by decide +kernel
theorem dX5_count_75 : decode cX5_count 75 = .ok (.ireturn, 1) := by decide +kernel
theorem dX5_count_76 : decode cX5_count 76 = .ok (.aload_n 0, 1) := by decide +kernel
theorem dX5_count_77 : decode cX5_count 77 = .ok (.getfield 10, 3) := by decide +kernel
theorem dX5_count_80 : decode cX5_count 80 = .ok (.invokevirtual 227, 3) := by decide +kernel
theorem dX5_count_83 : decode cX5_count 83 = .ok (.ireturn, 1) := by decide +kernel
theorem dX5_count_84 : decode cX5_count 84 = .ok (.aload_n 0, 1) := by decide +kernel
theorem dX5_count_85 : decode cX5_count 85 = .ok (.getfield 10, 3) := by decide +kernel
theorem dX5_count_88 : decode cX5_count 88 = .ok (.invokevirtual 230, 3) := by decide +kernel
theorem dX5_count_91 : decode cX5_count 91 = .ok (.ireturn, 1) := by decide +kernel
theorem dX5_count_92 : decode cX5_count 92 = .ok (.aload_n 0, 1) := by decide +kernel
theorem dX5_count_93 : decode cX5_count 93 = .ok (.getfield 10, 3) := by decide +kernel
theorem dX5_count_96 : decode cX5_count 96 = .ok (.getfield 233, 3) := by decide +kernel
theorem dX5_count_99 : decode cX5_count 99 = .ok (.iconst (-1), 1) := by decide +kernel
theorem dX5_count_100 : decode cX5_count 100 = .ok (.if_icmp .ne 8, 3) := by decide +kernel
theorem dX5_count_103 : decode cX5_count 103 = .ok (.bipush (-5), 2) := by decide +kernel
theorem dX5_count_105 : decode cX5_count 105 = .ok (.goto 10, 3) := by decide +kernel
theorem dX5_count_108 : decode cX5_count 108 = .ok (.aload_n 0, 1) := by decide +kernel
theorem dX5_count_109 : decode cX5_count 109 = .ok (.getfield 10, 3) := by decide +kernel
theorem dX5_count_112 : decode cX5_count 112 = .ok (.getfield 233, 3) := by decide +kernel
theorem dX5_count_115 : decode cX5_count 115 = .ok (.ireturn, 1) := by decide +kernel
theorem dX5_count_116 : decode cX5_count 116 = .ok (.aload_n 0, 1) := by decide +kernel
theorem dX5_count_117 : decode cX5_count 117 = .ok (.getfield 10, 3) := by decide +kernel
theorem dX5_count_120 : decode cX5_count 120 = .ok (.invokevirtual 205, 3) := by decide +kernel
theorem dX5_count_123 : decode cX5_count 123 = .ok (.ireturn, 1) := by decide +kernel
theorem dX5_count_124 : decode cX5_count 124 = .ok (.aload_n 0, 1) := by decide +kernel
theorem dX5_count_125 : decode cX5_count 125 = .ok (.getfield 10, 3) := by decide +kernel
theorem dX5_count_128 : decode cX5_count 128 = .ok (.getfield 236, 3) := by decide +kernel
theorem dX5_count_131 : decode cX5_count 131 = .ok (.ireturn, 1) := by decide +kernel
theorem dX5_count_132 : decode cX5_count 132 = .ok (.aload_n 0, 1) := by decide +kernel
theorem dX5_count_133 : decode cX5_count 133 = .ok (.getfield 10, 3) := by decide +kernel
theorem dX5_count_136 : decode cX5_count 136 = .ok (.getfield 239, 3) := by decide +kernel
theorem dX5_count_139 : decode cX5_count 139 = .ok (.ireturn, 1) := by decide +kernel
theorem dX5_count_140 : decode cX5_count 140 = .ok (.aload_n 0, 1) := by decide +kernel
theorem dX5_count_141 : decode cX5_count 141 = .ok (.getfield 10, 3) := by decide +kernel
theorem dX5_count_144 : decode cX5_count 144 = .ok (.getfield 242, 3) := by decide +kernel
theorem dX5_count_147 : decode cX5_count 147 = .ok (.ireturn, 1) := by decide +kernel
theorem dX5_count_148 : decode cX5_count 148 = .ok (.aload_n 0, 1) := by decide +kernel
theorem dX5_count_149 : decode cX5_count 149 = .ok (.getfield 10, 3) := by decide +kernel
theorem dX5_count_152 : decode cX5_count 152 = .ok (.getfield 211, 3) := by decide +kernel
theorem dX5_count_155 : decode cX5_count 155 = .ok (.getfield 215, 3) := by decide +kernel
theorem dX5_count_158 : decode cX5_count 158 = .ok (.ireturn, 1) := by decide +kernel
theorem dX5_count_159 : decode cX5_count 159 = .ok (.aload_n 0, 1) := by decide +kernel
theorem dX5_count_160 : decode cX5_count 160 = .ok (.getfield 10, 3) := by decide +kernel
theorem dX5_count_163 : decode cX5_count 163 = .ok (.getfield 137, 3) := by decide +kernel
theorem dX5_count_166 : decode cX5_count 166 = .ok (.getfield 245, 3) := by decide +kernel
theorem dX5_count_169 : decode cX5_count 169 = .ok (.ireturn, 1) := by decide +kernel
theorem dX5_count_170 : decode cX5_count 170 = .ok (.aload_n 0, 1) := by decide +kernel
theorem dX5_count_171 : decode cX5_count 171 = .ok (.getfield 10, 3) := by decide +kernel
theorem dX5_count_174 : decode cX5_count 174 = .ok (.invokevirtual 246, 3) := by decide +kernel
theorem dX5_count_177 : decode cX5_count 177 = .ok (.ireturn, 1) := by decide +kernel
theorem dX5_count_178 : decode cX5_count 178 = .ok (.aload_n 0, 1) := by decide +kernel
theorem dX5_count_179 : decode cX5_count 179 = .ok (.getfield 32, 3) := by decide +kernel
theorem dX5_count_182 : decode cX5_count 182 = .ok (.getfield 124, 3) := by decide +kernel
theorem dX5_count_185 : decode cX5_count 185 = .ok (.ireturn, 1) := by decide +kernel
theorem dX5_count_186 : decode cX5_count 186 = .ok (.aload_n 0, 1) := by decide +kernel
theorem dX5_count_187 : decode cX5_count 187 = .ok (.getfield 39, 3) := by decide +kernel
theorem dX5_count_190 : decode cX5_count 190 = .ok (.getfield 249, 3) := by decide +kernel
theorem dX5_count_193 : decode cX5_count 193 = .ok (.ireturn, 1) := by decide +kernel
theorem dX5_count_194 : decode cX5_count 194 = .ok (.bipush (-2), 2) := by decide +kernel
theorem dX5_count_196 : decode cX5_count 196 = .ok (.ireturn, 1) := by decide +kernel
theorem dX5_setting_0 : decode cX5_setting 0 = .ok (.iload_n 1, 1) := by decide +kernel
theorem dX5_setting_1 : decode cX5_setting 1 = .ok (.invokestatic 252, 3) := by decide +kernel
theorem dX5_setting_4 : decode cX5_setting 4 = .ok (.ifCond .ne 5, 3) := by decide +kernel
theorem dX5_setting_7 : decode cX5_setting 7 = .ok (.iconst (-1), 1) := by decide +kernel
theorem dX5_setting_8 : decode cX5_setting 8 = .ok (.ireturn, 1) := by decide +kernel
theorem dX5_setting_9 : decode cX5_setting 9 = .ok (.aload_n 0, 1) := by decide +kernel
theorem dX5_setting_10 : decode cX5_setting 10 = .ok (.getfield 10, 3) := by decide +kernel
theorem dX5_setting_13 : decode cX5_setting 13 = .ok (.getfield 255, 3) := by decide +kernel
theorem dX5_setting_16 : decode cX5_setting 16 = .ok (.iload_n 1, 1) := by decide +kernel
theorem dX5_setting_17 : decode cX5_setting 17 = .ok (.iaload, 1) := by decide +kernel
theorem dX5_setting_18 : decode cX5_setting 18 = .ok (.ireturn, 1) := by decide +kernel
theorem dX5_isPage_0 : decode cX5_isPage 0 = .ok (.iload_n 0, 1) := by decide +kernel
theorem dX5_isPage_1 : decode cX5_isPage 1 = .ok (.ifCond .lt 13, 3) := by decide +kernel
theorem dX5_isPage_4 : decode cX5_isPage 4 = .ok (.iload_n 0, 1) := by decide +kernel
theorem dX5_isPage_5 : decode cX5_isPage 5 = .ok (.bipush 24, 2) := by decide +kernel
theorem dX5_isPage_7 : decode cX5_isPage 7 = .ok (.if_icmp .ge 7, 3) := by decide +kernel
theorem dX5_isPage_10 : decode cX5_isPage 10 = .ok (.iconst 1, 1) := by decide +kernel
theorem dX5_isPage_11 : decode cX5_isPage 11 = .ok (.goto 4, 3) := by decide +kernel
theorem dX5_isPage_14 : decode cX5_isPage 14 = .ok (.iconst 0, 1) := by decide +kernel
theorem dX5_isPage_15 : decode cX5_isPage 15 = .ok (.ireturn, 1) := by decide +kernel
theorem dX5_isBlock_0 : decode cX5_isBlock 0 = .ok (.iload_n 0, 1) := by decide +kernel
theorem dX5_isBlock_1 : decode cX5_isBlock 1 = .ok (.ifCond .lt 13, 3) := by decide +kernel
theorem dX5_isBlock_4 : decode cX5_isBlock 4 = .ok (.iload_n 0, 1) := by decide +kernel
theorem dX5_isBlock_5 : decode cX5_isBlock 5 = .ok (.bipush 6, 2) := by decide +kernel
theorem dX5_isBlock_7 : decode cX5_isBlock 7 = .ok (.if_icmp .ge 7, 3) := by decide +kernel
theorem dX5_isBlock_10 : decode cX5_isBlock 10 = .ok (.iconst 1, 1) := by decide +kernel
theorem dX5_isBlock_11 : decode cX5_isBlock 11 = .ok (.goto 4, 3) := by decide +kernel
theorem dX5_isBlock_14 : decode cX5_isBlock 14 = .ok (.iconst 0, 1) := by decide +kernel
theorem dX5_isBlock_15 : decode cX5_isBlock 15 = .ok (.ireturn, 1) := by decide +kernel
theorem dX5_isSetting_0 : decode cX5_isSetting 0 = .ok (.iload_n 0, 1) := by decide +kernel
theorem dX5_isSetting_1 : decode cX5_isSetting 1 = .ok (.ifCond .lt 12, 3) := by decide +kernel
theorem dX5_isSetting_4 : decode cX5_isSetting 4 = .ok (.iload_n 0, 1) := by decide +kernel
theorem dX5_isSetting_5 : decode cX5_isSetting 5 = .ok (.iconst 5, 1) := by decide +kernel
theorem dX5_isSetting_6 : decode cX5_isSetting 6 = .ok (.if_icmp .ge 7, 3) := by decide +kernel
theorem dX5_isSetting_9 : decode cX5_isSetting 9 = .ok (.iconst 1, 1) := by decide +kernel
theorem dX5_isSetting_10 : decode cX5_isSetting 10 = .ok (.goto 4, 3) := by decide +kernel
theorem dX5_isSetting_13 : decode cX5_isSetting 13 = .ok (.iconst 0, 1) := by decide +kernel
theorem dX5_isSetting_14 : decode cX5_isSetting 14 = .ok (.ireturn, 1) := by decide +kernel
theorem dL_low_0 : decode cL_low 0 = .ok (.iload_n 0, 1) := by decide +kernel
theorem dL_low_1 : decode cL_low 1 = .ok (.ldc 7, 2) := by decide +kernel
theorem dL_low_3 : decode cL_low 3 = .ok (.iand, 1) := by decide +kernel
theorem dL_low_4 : decode cL_low 4 = .ok (.iload_n 1, 1) := by decide +kernel
theorem dL_low_5 : decode cL_low 5 = .ok (.irem, 1) := by decide +kernel
theorem dL_low_6 : decode cL_low 6 = .ok (.ireturn, 1) := by decide +kernel
theorem dL_cell_0 : decode cL_cell 0 = .ok (.iload_n 1, 1) := by decide +kernel
theorem dL_cell_1 : decode cL_cell 1 = .ok (.aload_n 0, 1) := by decide +kernel
theorem dL_cell_2 : decode cL_cell 2 = .ok (.arraylength, 1) := by decide +kernel
theorem dL_cell_3 : decode cL_cell 3 = .ok (.if_icmp .ge 9, 3) := by decide +kernel
theorem dL_cell_6 : decode cL_cell 6 = .ok (.aload_n 0, 1) := by decide +kernel
theorem dL_cell_7 : decode cL_cell 7 = .ok (.iload_n 1, 1) := by decide +kernel
theorem dL_cell_8 : decode cL_cell 8 = .ok (.iaload, 1) := by decide +kernel
theorem dL_cell_9 : decode cL_cell 9 = .ok (.goto 11, 3) := by decide +kernel
theorem dL_cell_12 : decode cL_cell 12 = .ok (.ldc 8, 2) := by decide +kernel
theorem dL_cell_14 : decode cL_cell 14 = .ok (.iload_n 1, 1) := by decide +kernel
theorem dL_cell_15 : decode cL_cell 15 = .ok (.imul, 1) := by decide +kernel
theorem dL_cell_16 : decode cL_cell 16 = .ok (.sipush 977, 3) := by decide +kernel
theorem dL_cell_19 : decode cL_cell 19 = .ok (.iadd, 1) := by decide +kernel
theorem dL_cell_20 : decode cL_cell 20 = .ok (.ireturn, 1) := by decide +kernel
theorem dL_act_0 : decode cL_act 0 = .ok (.aload_n 1, 1) := by decide +kernel
theorem dL_act_1 : decode cL_act 1 = .ok (.iload_n 2, 1) := by decide +kernel
theorem dL_act_2 : decode cL_act 2 = .ok (.iconst 1, 1) := by decide +kernel
theorem dL_act_3 : decode cL_act 3 = .ok (.iadd, 1) := by decide +kernel
theorem dL_act_4 : decode cL_act 4 = .ok (.invokestatic 9, 3) := by decide +kernel
theorem dL_act_7 : decode cL_act 7 = .ok (.istore_n 3, 1) := by decide +kernel
theorem dL_act_8 : decode cL_act 8 = .ok (.aload_n 1, 1) := by decide +kernel
theorem dL_act_9 : decode cL_act 9 = .ok (.iload_n 2, 1) := by decide +kernel
theorem dL_act_10 : decode cL_act 10 = .ok (.iconst 2, 1) := by decide +kernel
theorem dL_act_11 : decode cL_act 11 = .ok (.iadd, 1) := by decide +kernel
theorem dL_act_12 : decode cL_act 12 = .ok (.invokestatic 9, 3) := by decide +kernel
theorem dL_act_15 : decode cL_act 15 = .ok (.istore 4, 2) := by decide +kernel
theorem dL_act_17 : decode cL_act 17 = .ok (.aload_n 1, 1) := by decide +kernel
theorem dL_act_18 : decode cL_act 18 = .ok (.iload_n 2, 1) := by decide +kernel
theorem dL_act_19 : decode cL_act 19 = .ok (.invokestatic 9, 3) := by decide +kernel
theorem dL_act_22 : decode cL_act 22 = .ok (.bipush 16, 2) := by decide +kernel
theorem dL_act_24 : decode cL_act 24 = .ok (.invokestatic 15, 3) := by decide +kernel
theorem dL_act_27 : decode cL_act 27 = .ok (.tableswitch 231 0 14 #[73, 73, 73, 73, 84, 84, 84, 84, 95, 106, 117, 117, 131, 156, 214], 73) := by decide +kernel
theorem dL_act_100 : decode cL_act 100 = .ok (.aload_n 0, 1) := by decide +kernel
theorem dL_act_101 : decode cL_act 101 = .ok (.iload_n 3, 1) := by decide +kernel
theorem dL_act_102 : decode cL_act 102 = .ok (.bipush 14, 2) := by decide +kernel
theorem dL_act_104 : decode cL_act 104 = .ok (.invokestatic 15, 3) := by decide +kernel
theorem dL_act_107 : decode cL_act 107 = .ok (.invokevirtual 19, 3) := by decide +kernel
theorem dL_act_110 : decode cL_act 110 = .ok (.ireturn, 1) := by decide +kernel
theorem dL_act_111 : decode cL_act 111 = .ok (.aload_n 0, 1) := by decide +kernel
theorem dL_act_112 : decode cL_act 112 = .ok (.iload_n 3, 1) := by decide +kernel
theorem dL_act_113 : decode cL_act 113 = .ok (.bipush 14, 2) := by decide +kernel
theorem dL_act_115 : decode cL_act 115 = .ok (.invokestatic 15, 3) := by decide +kernel
theorem dL_act_118 : decode cL_act 118 = .ok (.invokevirtual 25, 3) := by decide +kernel
theorem dL_act_121 : decode cL_act 121 = .ok (.ireturn, 1) := by decide +kernel
theorem dL_act_122 : decode cL_act 122 = .ok (.aload_n 0, 1) := by decide +kernel
theorem dL_act_123 : decode cL_act 123 = .ok (.iload_n 3, 1) := by decide +kernel
theorem dL_act_124 : decode cL_act 124 = .ok (.bipush 14, 2) := by decide +kernel
theorem dL_act_126 : decode cL_act 126 = .ok (.invokestatic 15, 3) := by decide +kernel
theorem dL_act_129 : decode cL_act 129 = .ok (.invokevirtual 28, 3) := by decide +kernel
theorem dL_act_132 : decode cL_act 132 = .ok (.ireturn, 1) := by decide +kernel
theorem dL_act_133 : decode cL_act 133 = .ok (.aload_n 0, 1) := by decide +kernel
theorem dL_act_134 : decode cL_act 134 = .ok (.iload_n 3, 1) := by decide +kernel
theorem dL_act_135 : decode cL_act 135 = .ok (.bipush 6, 2) := by decide +kernel
theorem dL_act_137 : decode cL_act 137 = .ok (.invokestatic 15, 3) := by decide +kernel
theorem dL_act_140 : decode cL_act 140 = .ok (.invokevirtual 31, 3) := by decide +kernel
theorem dL_act_143 : decode cL_act 143 = .ok (.ireturn, 1) := by decide +kernel
theorem dL_act_144 : decode cL_act 144 = .ok (.aload_n 0, 1) := by decide +kernel
theorem dL_act_145 : decode cL_act 145 = .ok (.iconst 1, 1) := by decide +kernel
theorem dL_act_146 : decode cL_act 146 = .ok (.iload 4, 2) := by decide +kernel
theorem dL_act_148 : decode cL_act 148 = .ok (.bipush 30, 2) := by decide +kernel
theorem dL_act_150 : decode cL_act 150 = .ok (.invokestatic 15, 3) := by decide +kernel
theorem dL_act_153 : decode cL_act 153 = .ok (.iadd, 1) := by decide +kernel
theorem dL_act_154 : decode cL_act 154 = .ok (.invokevirtual 34, 3) := by decide +kernel
theorem dL_act_157 : decode cL_act 157 = .ok (.ireturn, 1) := by decide +kernel
theorem dL_act_158 : decode cL_act 158 = .ok (.aload_n 0, 1) := by decide +kernel
theorem dL_act_159 : decode cL_act 159 = .ok (.iload_n 3, 1) := by decide +kernel
theorem dL_act_160 : decode cL_act 160 = .ok (.bipush 6, 2) := by decide +kernel
theorem dL_act_162 : decode cL_act 162 = .ok (.invokestatic 15, 3) := by decide +kernel
theorem dL_act_165 : decode cL_act 165 = .ok (.iload 4, 2) := by decide +kernel
theorem dL_act_167 : decode cL_act 167 = .ok (.iconst 2, 1) := by decide +kernel
theorem dL_act_168 : decode cL_act 168 = .ok (.invokestatic 15, 3) := by decide +kernel
theorem dL_act_171 : decode cL_act 171 = .ok (.ifCond .ne 7, 3) := by decide +kernel
theorem dL_act_174 : decode cL_act 174 = .ok (.iconst 1, 1) := by decide +kernel
theorem dL_act_175 : decode cL_act 175 = .ok (.goto 4, 3) := by decide +kernel
theorem dL_act_178 : decode cL_act 178 = .ok (.iconst 0, 1) := by decide +kernel
theorem dL_act_179 : decode cL_act 179 = .ok (.invokevirtual 37, 3) := by decide +kernel
theorem dL_act_182 : decode cL_act 182 = .ok (.ireturn, 1) := by decide +kernel
theorem dL_act_183 : decode cL_act 183 = .ok (.aload_n 0, 1) := by decide +kernel
theorem dL_act_184 : decode cL_act 184 = .ok (.iload_n 3, 1) := by decide +kernel
theorem dL_act_185 : decode cL_act 185 = .ok (.iconst 5, 1) := by decide +kernel
theorem dL_act_186 : decode cL_act 186 = .ok (.invokestatic 15, 3) := by decide +kernel
theorem dL_act_189 : decode cL_act 189 = .ok (.iload_n 3, 1) := by decide +kernel
theorem dL_act_190 : decode cL_act 190 = .ok (.iconst 5, 1) := by decide +kernel
theorem dL_act_191 : decode cL_act 191 = .ok (.invokestatic 15, 3) := by decide +kernel
theorem dL_act_194 : decode cL_act 194 = .ok (.ifCond .ne 16, 3) := by decide +kernel
theorem dL_act_197 : decode cL_act 197 = .ok (.bipush 10, 2) := by decide +kernel
theorem dL_act_199 : decode cL_act 199 = .ok (.iload 4, 2) := by decide +kernel
theorem dL_act_201 : decode cL_act 201 = .ok (.bipush 91, 2) := by decide +kernel
theorem dL_act_203 : decode cL_act 203 = .ok (.invokestatic 15, 3) := by decide +kernel
theorem dL_act_206 : decode cL_act 206 = .ok (.iadd, 1) := by decide +kernel
theorem dL_act_207 : decode cL_act 207 = .ok (.goto 30, 3) := by decide +kernel
theorem dL_act_210 : decode cL_act 210 = .ok (.iload_n 3, 1) := by decide +kernel
theorem dL_act_211 : decode cL_act 211 = .ok (.iconst 5, 1) := by decide +kernel
theorem dL_act_212 : decode cL_act 212 = .ok (.invokestatic 15, 3) := by decide +kernel
theorem dL_act_215 : decode cL_act 215 = .ok (.iconst 1, 1) := by decide +kernel
theorem dL_act_216 : decode cL_act 216 = .ok (.if_icmp .ne 15, 3) := by decide +kernel
theorem dL_act_219 : decode cL_act 219 = .ok (.iconst 1, 1) := by decide +kernel
theorem dL_act_220 : decode cL_act 220 = .ok (.iload 4, 2) := by decide +kernel
theorem dL_act_222 : decode cL_act 222 = .ok (.bipush 60, 2) := by decide +kernel
theorem dL_act_224 : decode cL_act 224 = .ok (.invokestatic 15, 3) := by decide +kernel
theorem dL_act_227 : decode cL_act 227 = .ok (.iadd, 1) := by decide +kernel
theorem dL_act_228 : decode cL_act 228 = .ok (.goto 9, 3) := by decide +kernel
theorem dL_act_231 : decode cL_act 231 = .ok (.iload 4, 2) := by decide +kernel
theorem dL_act_233 : decode cL_act 233 = .ok (.iconst 2, 1) := by decide +kernel
theorem dL_act_234 : decode cL_act 234 = .ok (.invokestatic 15, 3) := by decide +kernel
theorem dL_act_237 : decode cL_act 237 = .ok (.invokevirtual 41, 3) := by decide +kernel
theorem dL_act_240 : decode cL_act 240 = .ok (.ireturn, 1) := by decide +kernel
theorem dL_act_241 : decode cL_act 241 = .ok (.aload_n 0, 1) := by decide +kernel
theorem dL_act_242 : decode cL_act 242 = .ok (.iload_n 3, 1) := by decide +kernel
theorem dL_act_243 : decode cL_act 243 = .ok (.bipush 6, 2) := by decide +kernel
theorem dL_act_245 : decode cL_act 245 = .ok (.invokestatic 15, 3) := by decide +kernel
theorem dL_act_248 : decode cL_act 248 = .ok (.iload 4, 2) := by decide +kernel
theorem dL_act_250 : decode cL_act 250 = .ok (.iconst 3, 1) := by decide +kernel
theorem dL_act_251 : decode cL_act 251 = .ok (.invokestatic 15, 3) := by decide +kernel
theorem dL_act_254 : decode cL_act 254 = .ok (.invokevirtual 44, 3) := by decide +kernel
theorem dL_act_257 : decode cL_act 257 = .ok (.ireturn, 1) := by decide +kernel
theorem dL_act_258 : decode cL_act 258 = .ok (.iload 4, 2) := by decide +kernel
theorem dL_act_260 : decode cL_act 260 = .ok (.iconst 3, 1) := by decide +kernel
theorem dL_act_261 : decode cL_act 261 = .ok (.invokestatic 15, 3) := by decide +kernel
theorem dL_act_264 : decode cL_act 264 = .ok (.ifCond .ne 10, 3) := by decide +kernel
theorem dL_act_267 : decode cL_act 267 = .ok (.aload_n 0, 1) := by decide +kernel
theorem dL_act_268 : decode cL_act 268 = .ok (.invokevirtual 47, 3) := by decide +kernel
theorem dL_act_271 : decode cL_act 271 = .ok (.goto 24, 3) := by decide +kernel
theorem dL_act_274 : decode cL_act 274 = .ok (.iload 4, 2) := by decide +kernel
theorem dL_act_276 : decode cL_act 276 = .ok (.iconst 3, 1) := by decide +kernel
theorem dL_act_277 : decode cL_act 277 = .ok (.invokestatic 15, 3) := by decide +kernel
theorem dL_act_280 : decode cL_act 280 = .ok (.iconst 1, 1) := by decide +kernel
theorem dL_act_281 : decode cL_act 281 = .ok (.if_icmp .ne 10, 3) := by decide +kernel
theorem dL_act_284 : decode cL_act 284 = .ok (.aload_n 0, 1) := by decide +kernel
theorem dL_act_285 : decode cL_act 285 = .ok (.invokevirtual 51, 3) := by decide +kernel
theorem dL_act_288 : decode cL_act 288 = .ok (.goto 7, 3) := by decide +kernel
theorem dL_act_291 : decode cL_act 291 = .ok (.aload_n 0, 1) := by decide +kernel
theorem dL_act_292 : decode cL_act 292 = .ok (.invokevirtual 54, 3) := by decide +kernel
theorem dL_act_295 : decode cL_act 295 = .ok (.ireturn, 1) := by decide +kernel
theorem dL_store_0 : decode cL_store 0 = .ok (.iconst 0, 1) := by decide +kernel
theorem dL_store_1 : decode cL_store 1 = .ok (.istore_n 1, 1) := by decide +kernel
theorem dL_store_2 : decode cL_store 2 = .ok (.iconst 0, 1) := by decide +kernel
theorem dL_store_3 : decode cL_store 3 = .ok (.istore_n 2, 1) := by decide +kernel
theorem dL_store_4 : decode cL_store 4 = .ok (.iconst 0, 1) := by decide +kernel
theorem dL_store_5 : decode cL_store 5 = .ok (.istore_n 3, 1) := by decide +kernel
theorem dL_store_6 : decode cL_store 6 = .ok (.aload_n 0, 1) := by decide +kernel
theorem dL_store_7 : decode cL_store 7 = .ok (.iconst 3, 1) := by decide +kernel
theorem dL_store_8 : decode cL_store 8 = .ok (.invokevirtual 57, 3) := by decide +kernel
theorem dL_store_11 : decode cL_store 11 = .ok (.istore 4, 2) := by decide +kernel
theorem dL_store_13 : decode cL_store 13 = .ok (.iconst 1, 1) := by decide +kernel
theorem dL_store_14 : decode cL_store 14 = .ok (.istore 5, 2) := by decide +kernel
theorem dL_store_16 : decode cL_store 16 = .ok (.iconst 0, 1) := by decide +kernel
theorem dL_store_17 : decode cL_store 17 = .ok (.istore 6, 2) := by decide +kernel
theorem dL_store_19 : decode cL_store 19 = .ok (.iload 6, 2) := by decide +kernel
theorem dL_store_21 : decode cL_store 21 = .ok (.bipush 6, 2) := by decide +kernel
theorem dL_store_23 : decode cL_store 23 = .ok (.if_icmp .ge 460, 3) := by decide +kernel
theorem dL_store_26 : decode cL_store 26 = .ok (.iload 5, 2) := by decide +kernel
theorem dL_store_28 : decode cL_store 28 = .ok (.ifCond .eq 455, 3) := by decide +kernel
theorem dL_store_31 : decode cL_store 31 = .ok (.iconst 0, 1) := by decide +kernel
theorem dL_store_32 : decode cL_store 32 = .ok (.istore 7, 2) := by decide +kernel
theorem dL_store_34 : decode cL_store 34 = .ok (.iconst 0, 1) := by decide +kernel
theorem dL_store_35 : decode cL_store 35 = .ok (.istore 8, 2) := by decide +kernel
theorem dL_store_37 : decode cL_store 37 = .ok (.iconst 0, 1) := by decide +kernel
theorem dL_store_38 : decode cL_store 38 = .ok (.istore 9, 2) := by decide +kernel
theorem dL_store_40 : decode cL_store 40 = .ok (.iconst 0, 1) := by decide +kernel
theorem dL_store_41 : decode cL_store 41 = .ok (.istore 10, 2) := by decide +kernel
theorem dL_store_43 : decode cL_store 43 = .ok (.iload 10, 2) := by decide +kernel
theorem dL_store_45 : decode cL_store 45 = .ok (.bipush 8, 2) := by decide +kernel
theorem dL_store_47 : decode cL_store 47 = .ok (.if_icmp .ge 194, 3) := by decide +kernel
theorem dL_store_50 : decode cL_store 50 = .ok (.iload 5, 2) := by decide +kernel
theorem dL_store_52 : decode cL_store 52 = .ok (.ifCond .eq 189, 3) := by decide +kernel
theorem dL_store_55 : decode cL_store 55 = .ok (.aload_n 0, 1) := by decide +kernel
theorem dL_store_56 : decode cL_store 56 = .ok (.iload 6, 2) := by decide +kernel
theorem dL_store_58 : decode cL_store 58 = .ok (.iload 10, 2) := by decide +kernel
theorem dL_store_60 : decode cL_store 60 = .ok (.iconst 1, 1) := by decide +kernel
theorem dL_store_61 : decode cL_store 61 = .ok (.invokevirtual 60, 3) := by decide +kernel
theorem dL_store_64 : decode cL_store 64 = .ok (.istore 11, 2) := by decide +kernel
theorem dL_store_66 : decode cL_store 66 = .ok (.aload_n 0, 1) := by decide +kernel
theorem dL_store_67 : decode cL_store 67 = .ok (.iload 6, 2) := by decide +kernel
theorem dL_store_69 : decode cL_store 69 = .ok (.iload 10, 2) := by decide +kernel
theorem dL_store_71 : decode cL_store 71 = .ok (.iconst 0, 1) := by decide +kernel
theorem dL_store_72 : decode cL_store 72 = .ok (.invokevirtual 60, 3) := by decide +kernel
theorem dL_store_75 : decode cL_store 75 = .ok (.istore 12, 2) := by decide +kernel
theorem dL_store_77 : decode cL_store 77 = .ok (.iload 11, 2) := by decide +kernel
theorem dL_store_79 : decode cL_store 79 = .ok (.iconst 1, 1) := by decide +kernel
theorem dL_store_80 : decode cL_store 80 = .ok (.if_icmp .ne 7, 3) := by decide +kernel
theorem dL_store_83 : decode cL_store 83 = .ok (.iconst 1, 1) := by decide +kernel
theorem dL_store_84 : decode cL_store 84 = .ok (.goto 4, 3) := by decide +kernel
theorem dL_store_87 : decode cL_store 87 = .ok (.iconst 0, 1) := by decide +kernel
theorem dL_store_88 : decode cL_store 88 = .ok (.iload 12, 2) := by decide +kernel
theorem dL_store_90 : decode cL_store 90 = .ok (.ifCond .lt 7, 3) := by decide +kernel
theorem dL_store_93 : decode cL_store 93 = .ok (.iconst 1, 1) := by decide +kernel
theorem dL_store_94 : decode cL_store 94 = .ok (.goto 4, 3) := by decide +kernel
theorem dL_store_97 : decode cL_store 97 = .ok (.iconst 0, 1) := by decide +kernel
theorem dL_store_98 : decode cL_store 98 = .ok (.if_icmp .ne 66, 3) := by decide +kernel
theorem dL_store_101 : decode cL_store 101 = .ok (.iload 12, 2) := by decide +kernel
theorem dL_store_103 : decode cL_store 103 = .ok (.ifCond .lt 40, 3) := by decide +kernel
theorem dL_store_106 : decode cL_store 106 = .ok (.aload_n 0, 1) := by decide +kernel
theorem dL_store_107 : decode cL_store 107 = .ok (.iload 12, 2) := by decide +kernel
theorem dL_store_109 : decode cL_store 109 = .ok (.iconst 0, 1) := by decide +kernel
theorem dL_store_110 : decode cL_store 110 = .ok (.invokevirtual 64, 3) := by decide +kernel
theorem dL_store_113 : decode cL_store 113 = .ok (.bipush 8, 2) := by decide +kernel
theorem dL_store_115 : decode cL_store 115 = .ok (.iload 6, 2) := by decide +kernel
theorem dL_store_117 : decode cL_store 117 = .ok (.imul, 1) := by decide +kernel
theorem dL_store_118 : decode cL_store 118 = .ok (.iload 10, 2) := by decide +kernel
theorem dL_store_120 : decode cL_store 120 = .ok (.iadd, 1) := by decide +kernel
theorem dL_store_121 : decode cL_store 121 = .ok (.if_icmp .ne 43, 3) := by decide +kernel
theorem dL_store_124 : decode cL_store 124 = .ok (.aload_n 0, 1) := by decide +kernel
theorem dL_store_125 : decode cL_store 125 = .ok (.iload 12, 2) := by decide +kernel
theorem dL_store_127 : decode cL_store 127 = .ok (.iconst 1, 1) := by decide +kernel
theorem dL_store_128 : decode cL_store 128 = .ok (.invokevirtual 64, 3) := by decide +kernel
theorem dL_store_131 : decode cL_store 131 = .ok (.aload_n 0, 1) := by decide +kernel
theorem dL_store_132 : decode cL_store 132 = .ok (.iload 6, 2) := by decide +kernel
theorem dL_store_134 : decode cL_store 134 = .ok (.iload 10, 2) := by decide +kernel
theorem dL_store_136 : decode cL_store 136 = .ok (.iconst 2, 1) := by decide +kernel
theorem dL_store_137 : decode cL_store 137 = .ok (.invokevirtual 60, 3) := by decide +kernel
theorem dL_store_140 : decode cL_store 140 = .ok (.if_icmp .ne 24, 3) := by decide +kernel
theorem dL_store_143 : decode cL_store 143 = .ok (.iload 11, 2) := by decide +kernel
theorem dL_store_145 : decode cL_store 145 = .ok (.ifCond .gt 15, 3) := by decide +kernel
theorem dL_store_148 : decode cL_store 148 = .ok (.aload_n 0, 1) := by decide +kernel
theorem dL_store_149 : decode cL_store 149 = .ok (.iload 6, 2) := by decide +kernel
theorem dL_store_151 : decode cL_store 151 = .ok (.iload 10, 2) := by decide +kernel
theorem dL_store_153 : decode cL_store 153 = .ok (.iconst 2, 1) := by decide +kernel
theorem dL_store_154 : decode cL_store 154 = .ok (.invokevirtual 60, 3) := by decide +kernel
theorem dL_store_157 : decode cL_store 157 = .ok (.ifCond .ne 7, 3) := by decide +kernel
theorem dL_store_160 : decode cL_store 160 = .ok (.iconst 1, 1) := by decide +kernel
theorem dL_store_161 : decode cL_store 161 = .ok (.goto 4, 3) := by decide +kernel
theorem dL_store_164 : decode cL_store 164 = .ok (.iconst 0, 1) := by decide +kernel
theorem dL_store_165 : decode cL_store 165 = .ok (.istore 5, 2) := by decide +kernel
theorem dL_store_167 : decode cL_store 167 = .ok (.iload 7, 2) := by decide +kernel
theorem dL_store_169 : decode cL_store 169 = .ok (.iload 11, 2) := by decide +kernel
theorem dL_store_171 : decode cL_store 171 = .ok (.iconst 1, 1) := by decide +kernel
theorem dL_store_172 : decode cL_store 172 = .ok (.if_icmp .ne 7, 3) := by decide +kernel
theorem dL_store_175 : decode cL_store 175 = .ok (.iconst 1, 1) := by decide +kernel
theorem dL_store_176 : decode cL_store 176 = .ok (.goto 4, 3) := by decide +kernel
theorem dL_store_179 : decode cL_store 179 = .ok (.iconst 0, 1) := by decide +kernel
theorem dL_store_180 : decode cL_store 180 = .ok (.iadd, 1) := by decide +kernel
theorem dL_store_181 : decode cL_store 181 = .ok (.istore 7, 2) := by decide +kernel
theorem dL_store_183 : decode cL_store 183 = .ok (.iload 8, 2) := by decide +kernel
theorem dL_store_185 : decode cL_store 185 = .ok (.iload 11, 2) := by decide +kernel
theorem dL_store_187 : decode cL_store 187 = .ok (.iconst 2, 1) := by decide +kernel
theorem dL_store_188 : decode cL_store 188 = .ok (.if_icmp .ne 7, 3) := by decide +kernel
theorem dL_store_191 : decode cL_store 191 = .ok (.iconst 1, 1) := by decide +kernel
theorem dL_store_192 : decode cL_store 192 = .ok (.goto 4, 3) := by decide +kernel
theorem dL_store_195 : decode cL_store 195 = .ok (.iconst 0, 1) := by decide +kernel
theorem dL_store_196 : decode cL_store 196 = .ok (.iadd, 1) := by decide +kernel
theorem dL_store_197 : decode cL_store 197 = .ok (.istore 8, 2) := by decide +kernel
theorem dL_store_199 : decode cL_store 199 = .ok (.iload 11, 2) := by decide +kernel
theorem dL_store_201 : decode cL_store 201 = .ok (.iconst 1, 1) := by decide +kernel
theorem dL_store_202 : decode cL_store 202 = .ok (.if_icmp .ne 29, 3) := by decide +kernel
theorem dL_store_205 : decode cL_store 205 = .ok (.aload_n 0, 1) := by decide +kernel
theorem dL_store_206 : decode cL_store 206 = .ok (.iload 6, 2) := by decide +kernel
theorem dL_store_208 : decode cL_store 208 = .ok (.iload 10, 2) := by decide +kernel
theorem dL_store_210 : decode cL_store 210 = .ok (.iconst 2, 1) := by decide +kernel
theorem dL_store_211 : decode cL_store 211 = .ok (.invokevirtual 60, 3) := by decide +kernel
theorem dL_store_214 : decode cL_store 214 = .ok (.iload 9, 2) := by decide +kernel
theorem dL_store_216 : decode cL_store 216 = .ok (.if_icmp .le 15, 3) := by decide +kernel
theorem dL_store_219 : decode cL_store 219 = .ok (.aload_n 0, 1) := by decide +kernel
theorem dL_store_220 : decode cL_store 220 = .ok (.iload 6, 2) := by decide +kernel
theorem dL_store_222 : decode cL_store 222 = .ok (.iload 10, 2) := by decide +kernel
theorem dL_store_224 : decode cL_store 224 = .ok (.iconst 2, 1) := by decide +kernel
theorem dL_store_225 : decode cL_store 225 = .ok (.invokevirtual 60, 3) := by decide +kernel
theorem dL_store_228 : decode cL_store 228 = .ok (.goto 5, 3) := by decide +kernel
theorem dL_store_231 : decode cL_store 231 = .ok (.iload 9, 2) := by decide +kernel
theorem dL_store_233 : decode cL_store 233 = .ok (.istore 9, 2) := by decide +kernel
theorem dL_store_235 : decode cL_store 235 = .ok (.iinc 10 1, 3) := by decide +kernel
theorem dL_store_238 : decode cL_store 238 = .ok (.goto (-195), 3) := by decide +kernel
theorem dL_store_241 : decode cL_store 241 = .ok (.aload_n 0, 1) := by decide +kernel
theorem dL_store_242 : decode cL_store 242 = .ok (.iload 6, 2) := by decide +kernel
theorem dL_store_244 : decode cL_store 244 = .ok (.iconst 0, 1) := by decide +kernel
theorem dL_store_245 : decode cL_store 245 = .ok (.invokevirtual 67, 3) := by decide +kernel
theorem dL_store_248 : decode cL_store 248 = .ok (.istore 10, 2) := by decide +kernel
theorem dL_store_250 : decode cL_store 250 = .ok (.iload 10, 2) := by decide +kernel
theorem dL_store_252 : decode cL_store 252 = .ok (.ifCond .ne 19, 3) := by decide +kernel
theorem dL_store_255 : decode cL_store 255 = .ok (.sipush 400, 3) := by decide +kernel
theorem dL_store_258 : decode cL_store 258 = .ok (.iconst 4, 1) := by decide +kernel
theorem dL_store_259 : decode cL_store 259 = .ok (.aload_n 0, 1) := by decide +kernel
theorem dL_store_260 : decode cL_store 260 = .ok (.iload 6, 2) := by decide +kernel
theorem dL_store_262 : decode cL_store 262 = .ok (.iconst 1, 1) := by decide +kernel
theorem dL_store_263 : decode cL_store 263 = .ok (.invokevirtual 67, 3) := by decide +kernel
theorem dL_store_266 : decode cL_store 266 = .ok (.imul, 1) := by decide +kernel
theorem dL_store_267 : decode cL_store 267 = .ok (.isub, 1) := by decide +kernel
theorem dL_store_268 : decode cL_store 268 = .ok (.goto 38, 3) := by decide +kernel
theorem dL_store_271 : decode cL_store 271 = .ok (.iload 10, 2) := by decide +kernel
theorem dL_store_273 : decode cL_store 273 = .ok (.iconst 1, 1) := by decide +kernel
theorem dL_store_274 : decode cL_store 274 = .ok (.if_icmp .ne 19, 3) := by decide +kernel
theorem dL_store_277 : decode cL_store 277 = .ok (.sipush 200, 3) := by decide +kernel
theorem dL_store_280 : decode cL_store 280 = .ok (.iconst 5, 1) := by decide +kernel
theorem dL_store_281 : decode cL_store 281 = .ok (.aload_n 0, 1) := by decide +kernel
theorem dL_store_282 : decode cL_store 282 = .ok (.iload 6, 2) := by decide +kernel
theorem dL_store_284 : decode cL_store 284 = .ok (.iconst 1, 1) := by decide +kernel
theorem dL_store_285 : decode cL_store 285 = .ok (.invokevirtual 67, 3) := by decide +kernel
theorem dL_store_288 : decode cL_store 288 = .ok (.imul, 1) := by decide +kernel
theorem dL_store_289 : decode cL_store 289 = .ok (.isub, 1) := by decide +kernel
theorem dL_store_290 : decode cL_store 290 = .ok (.goto 16, 3) := by decide +kernel
theorem dL_store_293 : decode cL_store 293 = .ok (.bipush 100, 2) := by decide +kernel
theorem dL_store_295 : decode cL_store 295 = .ok (.bipush 10, 2) := by decide +kernel
theorem dL_store_297 : decode cL_store 297 = .ok (.aload_n 0, 1) := by decide +kernel
theorem dL_store_298 : decode cL_store 298 = .ok (.iload 6, 2) := by decide +kernel
theorem dL_store_300 : decode cL_store 300 = .ok (.iconst 1, 1) := by decide +kernel
theorem dL_store_301 : decode cL_store 301 = .ok (.invokevirtual 67, 3) := by decide +kernel
theorem dL_store_304 : decode cL_store 304 = .ok (.imul, 1) := by decide +kernel
theorem dL_store_305 : decode cL_store 305 = .ok (.isub, 1) := by decide +kernel
theorem dL_store_306 : decode cL_store 306 = .ok (.istore 11, 2) := by decide +kernel
theorem dL_store_308 : decode cL_store 308 = .ok (.iload 11, 2) := by decide +kernel
theorem dL_store_310 : decode cL_store 310 = .ok (.bipush 20, 2) := by decide +kernel
theorem dL_store_312 : decode cL_store 312 = .ok (.if_icmp .ge 8, 3) := by decide +kernel
theorem dL_store_315 : decode cL_store 315 = .ok (.bipush 20, 2) := by decide +kernel
theorem dL_store_317 : decode cL_store 317 = .ok (.goto 5, 3) := by decide +kernel
theorem dL_store_320 : decode cL_store 320 = .ok (.iload 11, 2) := by decide +kernel
theorem dL_store_322 : decode cL_store 322 = .ok (.istore 11, 2) := by decide +kernel
theorem dL_store_324 : decode cL_store 324 = .ok (.iload 7, 2) := by decide +kernel
theorem dL_store_326 : decode cL_store 326 = .ok (.iload 8, 2) := by decide +kernel
theorem dL_store_328 : decode cL_store 328 = .ok (.iadd, 1) := by decide +kernel
theorem dL_store_329 : decode cL_store 329 = .ok (.ifCond .ne 14, 3) := by decide +kernel
theorem dL_store_332 : decode cL_store 332 = .ok (.iload 6, 2) := by decide +kernel
theorem dL_store_334 : decode cL_store 334 = .ok (.iload 4, 2) := by decide +kernel
theorem dL_store_336 : decode cL_store 336 = .ok (.if_icmp .eq 7, 3) := by decide +kernel
theorem dL_store_339 : decode cL_store 339 = .ok (.iconst 1, 1) := by decide +kernel
theorem dL_store_340 : decode cL_store 340 = .ok (.goto 4, 3) := by decide +kernel
theorem dL_store_343 : decode cL_store 343 = .ok (.iconst 0, 1) := by decide +kernel
theorem dL_store_344 : decode cL_store 344 = .ok (.istore 12, 2) := by decide +kernel
theorem dL_store_346 : decode cL_store 346 = .ok (.iload 5, 2) := by decide +kernel
theorem dL_store_348 : decode cL_store 348 = .ok (.ifCond .eq 83, 3) := by decide +kernel
theorem dL_store_351 : decode cL_store 351 = .ok (.aload_n 0, 1) := by decide +kernel
theorem dL_store_352 : decode cL_store 352 = .ok (.iload 6, 2) := by decide +kernel
theorem dL_store_354 : decode cL_store 354 = .ok (.iconst 2, 1) := by decide +kernel
theorem dL_store_355 : decode cL_store 355 = .ok (.invokevirtual 67, 3) := by decide +kernel
theorem dL_store_358 : decode cL_store 358 = .ok (.iload 11, 2) := by decide +kernel
theorem dL_store_360 : decode cL_store 360 = .ok (.if_icmp .ne 71, 3) := by decide +kernel
theorem dL_store_363 : decode cL_store 363 = .ok (.aload_n 0, 1) := by decide +kernel
theorem dL_store_364 : decode cL_store 364 = .ok (.iload 6, 2) := by decide +kernel
theorem dL_store_366 : decode cL_store 366 = .ok (.iconst 3, 1) := by decide +kernel
theorem dL_store_367 : decode cL_store 367 = .ok (.invokevirtual 67, 3) := by decide +kernel
theorem dL_store_370 : decode cL_store 370 = .ok (.iload 7, 2) := by decide +kernel
theorem dL_store_372 : decode cL_store 372 = .ok (.if_icmp .ne 59, 3) := by decide +kernel
theorem dL_store_375 : decode cL_store 375 = .ok (.aload_n 0, 1) := by decide +kernel
theorem dL_store_376 : decode cL_store 376 = .ok (.iload 6, 2) := by decide +kernel
theorem dL_store_378 : decode cL_store 378 = .ok (.iconst 4, 1) := by decide +kernel
theorem dL_store_379 : decode cL_store 379 = .ok (.invokevirtual 67, 3) := by decide +kernel
theorem dL_store_382 : decode cL_store 382 = .ok (.iload 8, 2) := by decide +kernel
theorem dL_store_384 : decode cL_store 384 = .ok (.if_icmp .ne 47, 3) := by decide +kernel
theorem dL_store_387 : decode cL_store 387 = .ok (.aload_n 0, 1) := by decide +kernel
theorem dL_store_388 : decode cL_store 388 = .ok (.iload 6, 2) := by decide +kernel
theorem dL_store_390 : decode cL_store 390 = .ok (.iconst 5, 1) := by decide +kernel
theorem dL_store_391 : decode cL_store 391 = .ok (.invokevirtual 67, 3) := by decide +kernel
theorem dL_store_394 : decode cL_store 394 = .ok (.iload 9, 2) := by decide +kernel
theorem dL_store_396 : decode cL_store 396 = .ok (.if_icmp .ne 35, 3) := by decide +kernel
theorem dL_store_399 : decode cL_store 399 = .ok (.iload 9, 2) := by decide +kernel
theorem dL_store_401 : decode cL_store 401 = .ok (.iload 11, 2) := by decide +kernel
theorem dL_store_403 : decode cL_store 403 = .ok (.if_icmp .gt 28, 3) := by decide +kernel
theorem dL_store_406 : decode cL_store 406 = .ok (.aload_n 0, 1) := by decide +kernel
theorem dL_store_407 : decode cL_store 407 = .ok (.iload 6, 2) := by decide +kernel
theorem dL_store_409 : decode cL_store 409 = .ok (.bipush 7, 2) := by decide +kernel
theorem dL_store_411 : decode cL_store 411 = .ok (.invokevirtual 67, 3) := by decide +kernel
theorem dL_store_414 : decode cL_store 414 = .ok (.iload 12, 2) := by decide +kernel
theorem dL_store_416 : decode cL_store 416 = .ok (.ifCond .eq 7, 3) := by decide +kernel
theorem dL_store_419 : decode cL_store 419 = .ok (.iconst 1, 1) := by decide +kernel
theorem dL_store_420 : decode cL_store 420 = .ok (.goto 4, 3) := by decide +kernel
theorem dL_store_423 : decode cL_store 423 = .ok (.iconst 0, 1) := by decide +kernel
theorem dL_store_424 : decode cL_store 424 = .ok (.if_icmp .ne 7, 3) := by decide +kernel
theorem dL_store_427 : decode cL_store 427 = .ok (.iconst 1, 1) := by decide +kernel
theorem dL_store_428 : decode cL_store 428 = .ok (.goto 4, 3) := by decide +kernel
theorem dL_store_431 : decode cL_store 431 = .ok (.iconst 0, 1) := by decide +kernel
theorem dL_store_432 : decode cL_store 432 = .ok (.istore 5, 2) := by decide +kernel
theorem dL_store_434 : decode cL_store 434 = .ok (.iload_n 1, 1) := by decide +kernel
theorem dL_store_435 : decode cL_store 435 = .ok (.iload 7, 2) := by decide +kernel
theorem dL_store_437 : decode cL_store 437 = .ok (.iadd, 1) := by decide +kernel
theorem dL_store_438 : decode cL_store 438 = .ok (.istore_n 1, 1) := by decide +kernel
theorem dL_store_439 : decode cL_store 439 = .ok (.iload_n 2, 1) := by decide +kernel
theorem dL_store_440 : decode cL_store 440 = .ok (.iload 12, 2) := by decide +kernel
theorem dL_store_442 : decode cL_store 442 = .ok (.ifCond .eq 7, 3) := by decide +kernel
theorem dL_store_445 : decode cL_store 445 = .ok (.iconst 1, 1) := by decide +kernel
theorem dL_store_446 : decode cL_store 446 = .ok (.goto 4, 3) := by decide +kernel
theorem dL_store_449 : decode cL_store 449 = .ok (.iconst 0, 1) := by decide +kernel
theorem dL_store_450 : decode cL_store 450 = .ok (.iadd, 1) := by decide +kernel
theorem dL_store_451 : decode cL_store 451 = .ok (.istore_n 2, 1) := by decide +kernel
theorem dL_store_452 : decode cL_store 452 = .ok (.bipush 100, 2) := by decide +kernel
theorem dL_store_454 : decode cL_store 454 = .ok (.iload 9, 2) := by decide +kernel
theorem dL_store_456 : decode cL_store 456 = .ok (.imul, 1) := by decide +kernel
theorem dL_store_457 : decode cL_store 457 = .ok (.iload 11, 2) := by decide +kernel
theorem dL_store_459 : decode cL_store 459 = .ok (.idiv, 1) := by decide +kernel
theorem dL_store_460 : decode cL_store 460 = .ok (.iload_n 3, 1) := by decide +kernel
theorem dL_store_461 : decode cL_store 461 = .ok (.if_icmp .le 14, 3) := by decide +kernel
theorem dL_store_464 : decode cL_store 464 = .ok (.bipush 100, 2) := by decide +kernel
theorem dL_store_466 : decode cL_store 466 = .ok (.iload 9, 2) := by decide +kernel
theorem dL_store_468 : decode cL_store 468 = .ok (.imul, 1) := by decide +kernel
theorem dL_store_469 : decode cL_store 469 = .ok (.iload 11, 2) := by decide +kernel
theorem dL_store_471 : decode cL_store 471 = .ok (.idiv, 1) := by decide +kernel
theorem dL_store_472 : decode cL_store 472 = .ok (.goto 4, 3) := by decide +kernel
theorem dL_store_475 : decode cL_store 475 = .ok (.iload_n 3, 1) := by decide +kernel
theorem dL_store_476 : decode cL_store 476 = .ok (.istore_n 3, 1) := by decide +kernel
theorem dL_store_477 : decode cL_store 477 = .ok (.iinc 6 1, 3) := by decide +kernel
theorem dL_store_480 : decode cL_store 480 = .ok (.goto (-461), 3) := by decide +kernel
theorem dL_store_483 : decode cL_store 483 = .ok (.iload 5, 2) := by decide +kernel
theorem dL_store_485 : decode cL_store 485 = .ok (.ifCond .eq 53, 3) := by decide +kernel
theorem dL_store_488 : decode cL_store 488 = .ok (.aload_n 0, 1) := by decide +kernel
theorem dL_store_489 : decode cL_store 489 = .ok (.iconst 1, 1) := by decide +kernel
theorem dL_store_490 : decode cL_store 490 = .ok (.invokevirtual 57, 3) := by decide +kernel
theorem dL_store_493 : decode cL_store 493 = .ok (.iload_n 1, 1) := by decide +kernel
theorem dL_store_494 : decode cL_store 494 = .ok (.if_icmp .ne 44, 3) := by decide +kernel
theorem dL_store_497 : decode cL_store 497 = .ok (.aload_n 0, 1) := by decide +kernel
theorem dL_store_498 : decode cL_store 498 = .ok (.iconst 2, 1) := by decide +kernel
theorem dL_store_499 : decode cL_store 499 = .ok (.invokevirtual 57, 3) := by decide +kernel
theorem dL_store_502 : decode cL_store 502 = .ok (.iload_n 2, 1) := by decide +kernel
theorem dL_store_503 : decode cL_store 503 = .ok (.if_icmp .ne 35, 3) := by decide +kernel
theorem dL_store_506 : decode cL_store 506 = .ok (.aload_n 0, 1) := by decide +kernel
theorem dL_store_507 : decode cL_store 507 = .ok (.bipush 10, 2) := by decide +kernel
theorem dL_store_509 : decode cL_store 509 = .ok (.invokevirtual 57, 3) := by decide +kernel
theorem dL_store_512 : decode cL_store 512 = .ok (.iload_n 3, 1) := by decide +kernel
theorem dL_store_513 : decode cL_store 513 = .ok (.if_icmp .ne 25, 3) := by decide +kernel
theorem dL_store_516 : decode cL_store 516 = .ok (.iload 4, 2) := by decide +kernel
theorem dL_store_518 : decode cL_store 518 = .ok (.bipush (-5), 2) := by decide +kernel
theorem dL_store_520 : decode cL_store 520 = .ok (.if_icmp .eq 14, 3) := by decide +kernel
theorem dL_store_523 : decode cL_store 523 = .ok (.aload_n 0, 1) := by decide +kernel
theorem dL_store_524 : decode cL_store 524 = .ok (.iload 4, 2) := by decide +kernel
theorem dL_store_526 : decode cL_store 526 = .ok (.bipush 7, 2) := by decide +kernel
theorem dL_store_528 : decode cL_store 528 = .ok (.invokevirtual 67, 3) := by decide +kernel
theorem dL_store_531 : decode cL_store 531 = .ok (.ifCond .ne 7, 3) := by decide +kernel
theorem dL_store_534 : decode cL_store 534 = .ok (.iconst 1, 1) := by decide +kernel
theorem dL_store_535 : decode cL_store 535 = .ok (.goto 4, 3) := by decide +kernel
theorem dL_store_538 : decode cL_store 538 = .ok (.iconst 0, 1) := by decide +kernel
theorem dL_store_539 : decode cL_store 539 = .ok (.ireturn, 1) := by decide +kernel
theorem dL_buffer_0 : decode cL_buffer 0 = .ok (.iconst 0, 1) := by decide +kernel
theorem dL_buffer_1 : decode cL_buffer 1 = .ok (.istore_n 1, 1) := by decide +kernel
theorem dL_buffer_2 : decode cL_buffer 2 = .ok (.iconst 0, 1) := by decide +kernel
theorem dL_buffer_3 : decode cL_buffer 3 = .ok (.istore_n 2, 1) := by decide +kernel
theorem dL_buffer_4 : decode cL_buffer 4 = .ok (.iconst 0, 1) := by decide +kernel
theorem dL_buffer_5 : decode cL_buffer 5 = .ok (.istore_n 3, 1) := by decide +kernel
theorem dL_buffer_6 : decode cL_buffer 6 = .ok (.aload_n 0, 1) := by decide +kernel
theorem dL_buffer_7 : decode cL_buffer 7 = .ok (.bipush 9, 2) := by decide +kernel
theorem dL_buffer_9 : decode cL_buffer 9 = .ok (.invokevirtual 57, 3) := by decide +kernel
theorem dL_buffer_12 : decode cL_buffer 12 = .ok (.aload_n 0, 1) := by decide +kernel
theorem dL_buffer_13 : decode cL_buffer 13 = .ok (.iconst 3, 1) := by decide +kernel
theorem dL_buffer_14 : decode cL_buffer 14 = .ok (.invokevirtual 70, 3) := by decide +kernel
theorem dL_buffer_17 : decode cL_buffer 17 = .ok (.if_icmp .gt 7, 3) := by decide +kernel
theorem dL_buffer_20 : decode cL_buffer 20 = .ok (.iconst 1, 1) := by decide +kernel
theorem dL_buffer_21 : decode cL_buffer 21 = .ok (.goto 4, 3) := by decide +kernel
theorem dL_buffer_24 : decode cL_buffer 24 = .ok (.iconst 0, 1) := by decide +kernel
theorem dL_buffer_25 : decode cL_buffer 25 = .ok (.istore 4, 2) := by decide +kernel
theorem dL_buffer_27 : decode cL_buffer 27 = .ok (.iconst 0, 1) := by decide +kernel
theorem dL_buffer_28 : decode cL_buffer 28 = .ok (.istore 5, 2) := by decide +kernel
theorem dL_buffer_30 : decode cL_buffer 30 = .ok (.iload 5, 2) := by decide +kernel
theorem dL_buffer_32 : decode cL_buffer 32 = .ok (.bipush 24, 2) := by decide +kernel
theorem dL_buffer_34 : decode cL_buffer 34 = .ok (.if_icmp .ge 116, 3) := by decide +kernel
theorem dL_buffer_37 : decode cL_buffer 37 = .ok (.aload_n 0, 1) := by decide +kernel
theorem dL_buffer_38 : decode cL_buffer 38 = .ok (.iload 5, 2) := by decide +kernel
theorem dL_buffer_40 : decode cL_buffer 40 = .ok (.iconst 4, 1) := by decide +kernel
theorem dL_buffer_41 : decode cL_buffer 41 = .ok (.invokevirtual 64, 3) := by decide +kernel
theorem dL_buffer_44 : decode cL_buffer 44 = .ok (.istore 6, 2) := by decide +kernel
theorem dL_buffer_46 : decode cL_buffer 46 = .ok (.iload 4, 2) := by decide +kernel
theorem dL_buffer_48 : decode cL_buffer 48 = .ok (.ifCond .eq 54, 3) := by decide +kernel
theorem dL_buffer_51 : decode cL_buffer 51 = .ok (.iload 6, 2) := by decide +kernel
theorem dL_buffer_53 : decode cL_buffer 53 = .ok (.bipush (-5), 2) := by decide +kernel
theorem dL_buffer_55 : decode cL_buffer 55 = .ok (.if_icmp .eq 24, 3) := by decide +kernel
theorem dL_buffer_58 : decode cL_buffer 58 = .ok (.iload 6, 2) := by decide +kernel
theorem dL_buffer_60 : decode cL_buffer 60 = .ok (.aload_n 0, 1) := by decide +kernel
theorem dL_buffer_61 : decode cL_buffer 61 = .ok (.bipush 9, 2) := by decide +kernel
theorem dL_buffer_63 : decode cL_buffer 63 = .ok (.invokevirtual 57, 3) := by decide +kernel
theorem dL_buffer_66 : decode cL_buffer 66 = .ok (.if_icmp .ge 36, 3) := by decide +kernel
theorem dL_buffer_69 : decode cL_buffer 69 = .ok (.aload_n 0, 1) := by decide +kernel
theorem dL_buffer_70 : decode cL_buffer 70 = .ok (.iload 5, 2) := by decide +kernel
theorem dL_buffer_72 : decode cL_buffer 72 = .ok (.iconst 0, 1) := by decide +kernel
theorem dL_buffer_73 : decode cL_buffer 73 = .ok (.invokevirtual 64, 3) := by decide +kernel
theorem dL_buffer_76 : decode cL_buffer 76 = .ok (.ifCond .lt 26, 3) := by decide +kernel
theorem dL_buffer_79 : decode cL_buffer 79 = .ok (.iload_n 3, 1) := by decide +kernel
theorem dL_buffer_80 : decode cL_buffer 80 = .ok (.iload 6, 2) := by decide +kernel
theorem dL_buffer_82 : decode cL_buffer 82 = .ok (.ifCond .ge 8, 3) := by decide +kernel
theorem dL_buffer_85 : decode cL_buffer 85 = .ok (.bipush 30, 2) := by decide +kernel
theorem dL_buffer_87 : decode cL_buffer 87 = .ok (.goto 5, 3) := by decide +kernel
theorem dL_buffer_90 : decode cL_buffer 90 = .ok (.iload 6, 2) := by decide +kernel
theorem dL_buffer_92 : decode cL_buffer 92 = .ok (.ishr, 1) := by decide +kernel
theorem dL_buffer_93 : decode cL_buffer 93 = .ok (.iconst 1, 1) := by decide +kernel
theorem dL_buffer_94 : decode cL_buffer 94 = .ok (.iand, 1) := by decide +kernel
theorem dL_buffer_95 : decode cL_buffer 95 = .ok (.ifCond .ne 7, 3) := by decide +kernel
theorem dL_buffer_98 : decode cL_buffer 98 = .ok (.iconst 1, 1) := by decide +kernel
theorem dL_buffer_99 : decode cL_buffer 99 = .ok (.goto 4, 3) := by decide +kernel
theorem dL_buffer_102 : decode cL_buffer 102 = .ok (.iconst 0, 1) := by decide +kernel
theorem dL_buffer_103 : decode cL_buffer 103 = .ok (.istore 4, 2) := by decide +kernel
theorem dL_buffer_105 : decode cL_buffer 105 = .ok (.iload_n 3, 1) := by decide +kernel
theorem dL_buffer_106 : decode cL_buffer 106 = .ok (.iload 6, 2) := by decide +kernel
theorem dL_buffer_108 : decode cL_buffer 108 = .ok (.ifCond .ge 7, 3) := by decide +kernel
theorem dL_buffer_111 : decode cL_buffer 111 = .ok (.iconst 0, 1) := by decide +kernel
theorem dL_buffer_112 : decode cL_buffer 112 = .ok (.goto 7, 3) := by decide +kernel
theorem dL_buffer_115 : decode cL_buffer 115 = .ok (.iconst 1, 1) := by decide +kernel
theorem dL_buffer_116 : decode cL_buffer 116 = .ok (.iload 6, 2) := by decide +kernel
theorem dL_buffer_118 : decode cL_buffer 118 = .ok (.ishl, 1) := by decide +kernel
theorem dL_buffer_119 : decode cL_buffer 119 = .ok (.ior, 1) := by decide +kernel
theorem dL_buffer_120 : decode cL_buffer 120 = .ok (.istore_n 3, 1) := by decide +kernel
theorem dL_buffer_121 : decode cL_buffer 121 = .ok (.iload_n 1, 1) := by decide +kernel
theorem dL_buffer_122 : decode cL_buffer 122 = .ok (.iload 6, 2) := by decide +kernel
theorem dL_buffer_124 : decode cL_buffer 124 = .ok (.ifCond .ge 7, 3) := by decide +kernel
theorem dL_buffer_127 : decode cL_buffer 127 = .ok (.iconst 0, 1) := by decide +kernel
theorem dL_buffer_128 : decode cL_buffer 128 = .ok (.goto 4, 3) := by decide +kernel
theorem dL_buffer_131 : decode cL_buffer 131 = .ok (.iconst 1, 1) := by decide +kernel
theorem dL_buffer_132 : decode cL_buffer 132 = .ok (.iadd, 1) := by decide +kernel
theorem dL_buffer_133 : decode cL_buffer 133 = .ok (.istore_n 1, 1) := by decide +kernel
theorem dL_buffer_134 : decode cL_buffer 134 = .ok (.iload_n 2, 1) := by decide +kernel
theorem dL_buffer_135 : decode cL_buffer 135 = .ok (.aload_n 0, 1) := by decide +kernel
theorem dL_buffer_136 : decode cL_buffer 136 = .ok (.iload 5, 2) := by decide +kernel
theorem dL_buffer_138 : decode cL_buffer 138 = .ok (.iconst 5, 1) := by decide +kernel
theorem dL_buffer_139 : decode cL_buffer 139 = .ok (.invokevirtual 64, 3) := by decide +kernel
theorem dL_buffer_142 : decode cL_buffer 142 = .ok (.iadd, 1) := by decide +kernel
theorem dL_buffer_143 : decode cL_buffer 143 = .ok (.istore_n 2, 1) := by decide +kernel
theorem dL_buffer_144 : decode cL_buffer 144 = .ok (.iinc 5 1, 3) := by decide +kernel
theorem dL_buffer_147 : decode cL_buffer 147 = .ok (.goto (-117), 3) := by decide +kernel
theorem dL_buffer_150 : decode cL_buffer 150 = .ok (.iload 4, 2) := by decide +kernel
theorem dL_buffer_152 : decode cL_buffer 152 = .ok (.ifCond .eq 40, 3) := by decide +kernel
theorem dL_buffer_155 : decode cL_buffer 155 = .ok (.iload_n 1, 1) := by decide +kernel
theorem dL_buffer_156 : decode cL_buffer 156 = .ok (.aload_n 0, 1) := by decide +kernel
theorem dL_buffer_157 : decode cL_buffer 157 = .ok (.bipush 9, 2) := by decide +kernel
theorem dL_buffer_159 : decode cL_buffer 159 = .ok (.invokevirtual 57, 3) := by decide +kernel
theorem dL_buffer_162 : decode cL_buffer 162 = .ok (.if_icmp .ne 30, 3) := by decide +kernel
theorem dL_buffer_165 : decode cL_buffer 165 = .ok (.iload_n 2, 1) := by decide +kernel
theorem dL_buffer_166 : decode cL_buffer 166 = .ok (.aload_n 0, 1) := by decide +kernel
theorem dL_buffer_167 : decode cL_buffer 167 = .ok (.iconst 5, 1) := by decide +kernel
theorem dL_buffer_168 : decode cL_buffer 168 = .ok (.invokevirtual 57, 3) := by decide +kernel
theorem dL_buffer_171 : decode cL_buffer 171 = .ok (.if_icmp .ne 21, 3) := by decide +kernel
theorem dL_buffer_174 : decode cL_buffer 174 = .ok (.aload_n 0, 1) := by decide +kernel
theorem dL_buffer_175 : decode cL_buffer 175 = .ok (.bipush 6, 2) := by decide +kernel
theorem dL_buffer_177 : decode cL_buffer 177 = .ok (.invokevirtual 57, 3) := by decide +kernel
theorem dL_buffer_180 : decode cL_buffer 180 = .ok (.aload_n 0, 1) := by decide +kernel
theorem dL_buffer_181 : decode cL_buffer 181 = .ok (.iconst 5, 1) := by decide +kernel
theorem dL_buffer_182 : decode cL_buffer 182 = .ok (.invokevirtual 57, 3) := by decide +kernel
theorem dL_buffer_185 : decode cL_buffer 185 = .ok (.if_icmp .gt 7, 3) := by decide +kernel
theorem dL_buffer_188 : decode cL_buffer 188 = .ok (.iconst 1, 1) := by decide +kernel
theorem dL_buffer_189 : decode cL_buffer 189 = .ok (.goto 4, 3) := by decide +kernel
theorem dL_buffer_192 : decode cL_buffer 192 = .ok (.iconst 0, 1) := by decide +kernel
theorem dL_buffer_193 : decode cL_buffer 193 = .ok (.ireturn, 1) := by decide +kernel
theorem dL_law_0 : decode cL_law 0 = .ok (.new 20, 3) := by decide +kernel
theorem dL_law_3 : decode cL_law 3 = .ok (.dup, 1) := by decide +kernel
theorem dL_law_4 : decode cL_law 4 = .ok (.invokespecial 73, 3) := by decide +kernel
theorem dL_law_7 : decode cL_law 7 = .ok (.astore_n 1, 1) := by decide +kernel
theorem dL_law_8 : decode cL_law 8 = .ok (.iconst 1, 1) := by decide +kernel
theorem dL_law_9 : decode cL_law 9 = .ok (.istore_n 2, 1) := by decide +kernel
theorem dL_law_10 : decode cL_law 10 = .ok (.aload_n 0, 1) := by decide +kernel
theorem dL_law_11 : decode cL_law 11 = .ok (.arraylength, 1) := by decide +kernel
theorem dL_law_12 : decode cL_law 12 = .ok (.iconst 3, 1) := by decide +kernel
theorem dL_law_13 : decode cL_law 13 = .ok (.idiv, 1) := by decide +kernel
theorem dL_law_14 : decode cL_law 14 = .ok (.bipush 40, 2) := by decide +kernel
theorem dL_law_16 : decode cL_law 16 = .ok (.if_icmp .le 8, 3) := by decide +kernel
theorem dL_law_19 : decode cL_law 19 = .ok (.bipush 40, 2) := by decide +kernel
theorem dL_law_21 : decode cL_law 21 = .ok (.goto 7, 3) := by decide +kernel
theorem dL_law_24 : decode cL_law 24 = .ok (.aload_n 0, 1) := by decide +kernel
theorem dL_law_25 : decode cL_law 25 = .ok (.arraylength, 1) := by decide +kernel
theorem dL_law_26 : decode cL_law 26 = .ok (.iconst 3, 1) := by decide +kernel
theorem dL_law_27 : decode cL_law 27 = .ok (.idiv, 1) := by decide +kernel
theorem dL_law_28 : decode cL_law 28 = .ok (.istore_n 3, 1) := by decide +kernel
theorem dL_law_29 : decode cL_law 29 = .ok (.iconst 0, 1) := by decide +kernel
theorem dL_law_30 : decode cL_law 30 = .ok (.istore 4, 2) := by decide +kernel
theorem dL_law_32 : decode cL_law 32 = .ok (.iload 4, 2) := by decide +kernel
theorem dL_law_34 : decode cL_law 34 = .ok (.iload_n 3, 1) := by decide +kernel
theorem dL_law_35 : decode cL_law 35 = .ok (.if_icmp .ge 326, 3) := by decide +kernel
theorem dL_law_38 : decode cL_law 38 = .ok (.iload_n 2, 1) := by decide +kernel
theorem dL_law_39 : decode cL_law 39 = .ok (.ifCond .eq 322, 3) := by decide +kernel
theorem dL_law_42 : decode cL_law 42 = .ok (.aload_n 1, 1) := by decide +kernel
theorem dL_law_43 : decode cL_law 43 = .ok (.bipush 11, 2) := by decide +kernel
theorem dL_law_45 : decode cL_law 45 = .ok (.invokevirtual 57, 3) := by decide +kernel
theorem dL_law_48 : decode cL_law 48 = .ok (.istore 5, 2) := by decide +kernel
theorem dL_law_50 : decode cL_law 50 = .ok (.aload_n 1, 1) := by decide +kernel
theorem dL_law_51 : decode cL_law 51 = .ok (.iconst 0, 1) := by decide +kernel
theorem dL_law_52 : decode cL_law 52 = .ok (.invokevirtual 57, 3) := by decide +kernel
theorem dL_law_55 : decode cL_law 55 = .ok (.istore 6, 2) := by decide +kernel
theorem dL_law_57 : decode cL_law 57 = .ok (.aload_n 1, 1) := by decide +kernel
theorem dL_law_58 : decode cL_law 58 = .ok (.bipush 7, 2) := by decide +kernel
theorem dL_law_60 : decode cL_law 60 = .ok (.invokevirtual 57, 3) := by decide +kernel
theorem dL_law_63 : decode cL_law 63 = .ok (.istore 7, 2) := by decide +kernel
theorem dL_law_65 : decode cL_law 65 = .ok (.aload_n 1, 1) := by decide +kernel
theorem dL_law_66 : decode cL_law 66 = .ok (.bipush 8, 2) := by decide +kernel
theorem dL_law_68 : decode cL_law 68 = .ok (.invokevirtual 57, 3) := by decide +kernel
theorem dL_law_71 : decode cL_law 71 = .ok (.istore 8, 2) := by decide +kernel
theorem dL_law_73 : decode cL_law 73 = .ok (.aload_n 0, 1) := by decide +kernel
theorem dL_law_74 : decode cL_law 74 = .ok (.iconst 3, 1) := by decide +kernel
theorem dL_law_75 : decode cL_law 75 = .ok (.iload 4, 2) := by decide +kernel
theorem dL_law_77 : decode cL_law 77 = .ok (.imul, 1) := by decide +kernel
theorem dL_law_78 : decode cL_law 78 = .ok (.invokestatic 9, 3) := by decide +kernel
theorem dL_law_81 : decode cL_law 81 = .ok (.bipush 16, 2) := by decide +kernel
theorem dL_law_83 : decode cL_law 83 = .ok (.invokestatic 15, 3) := by decide +kernel
theorem dL_law_86 : decode cL_law 86 = .ok (.iconst 3, 1) := by decide +kernel
theorem dL_law_87 : decode cL_law 87 = .ok (.if_icmp .le 39, 3) := by decide +kernel
theorem dL_law_90 : decode cL_law 90 = .ok (.aload_n 0, 1) := by decide +kernel
theorem dL_law_91 : decode cL_law 91 = .ok (.iconst 3, 1) := by decide +kernel
theorem dL_law_92 : decode cL_law 92 = .ok (.iload 4, 2) := by decide +kernel
theorem dL_law_94 : decode cL_law 94 = .ok (.imul, 1) := by decide +kernel
theorem dL_law_95 : decode cL_law 95 = .ok (.invokestatic 9, 3) := by decide +kernel
theorem dL_law_98 : decode cL_law 98 = .ok (.bipush 16, 2) := by decide +kernel
theorem dL_law_100 : decode cL_law 100 = .ok (.invokestatic 15, 3) := by decide +kernel
theorem dL_law_103 : decode cL_law 103 = .ok (.bipush 8, 2) := by decide +kernel
theorem dL_law_105 : decode cL_law 105 = .ok (.if_icmp .ge 21, 3) := by decide +kernel
theorem dL_law_108 : decode cL_law 108 = .ok (.aload_n 0, 1) := by decide +kernel
theorem dL_law_109 : decode cL_law 109 = .ok (.iconst 3, 1) := by decide +kernel
theorem dL_law_110 : decode cL_law 110 = .ok (.iload 4, 2) := by decide +kernel
theorem dL_law_112 : decode cL_law 112 = .ok (.imul, 1) := by decide +kernel
theorem dL_law_113 : decode cL_law 113 = .ok (.iconst 1, 1) := by decide +kernel
theorem dL_law_114 : decode cL_law 114 = .ok (.iadd, 1) := by decide +kernel
theorem dL_law_115 : decode cL_law 115 = .ok (.invokestatic 9, 3) := by decide +kernel
theorem dL_law_118 : decode cL_law 118 = .ok (.bipush 14, 2) := by decide +kernel
theorem dL_law_120 : decode cL_law 120 = .ok (.invokestatic 15, 3) := by decide +kernel
theorem dL_law_123 : decode cL_law 123 = .ok (.goto 4, 3) := by decide +kernel
theorem dL_law_126 : decode cL_law 126 = .ok (.iconst (-1), 1) := by decide +kernel
theorem dL_law_127 : decode cL_law 127 = .ok (.istore 9, 2) := by decide +kernel
theorem dL_law_129 : decode cL_law 129 = .ok (.iload 9, 2) := by decide +kernel
theorem dL_law_131 : decode cL_law 131 = .ok (.ifCond .lt 17, 3) := by decide +kernel
theorem dL_law_134 : decode cL_law 134 = .ok (.aload_n 1, 1) := by decide +kernel
theorem dL_law_135 : decode cL_law 135 = .ok (.iload 9, 2) := by decide +kernel
theorem dL_law_137 : decode cL_law 137 = .ok (.iconst 4, 1) := by decide +kernel
theorem dL_law_138 : decode cL_law 138 = .ok (.invokevirtual 64, 3) := by decide +kernel
theorem dL_law_141 : decode cL_law 141 = .ok (.ifCond .lt 7, 3) := by decide +kernel
theorem dL_law_144 : decode cL_law 144 = .ok (.iconst 1, 1) := by decide +kernel
theorem dL_law_145 : decode cL_law 145 = .ok (.goto 4, 3) := by decide +kernel
theorem dL_law_148 : decode cL_law 148 = .ok (.iconst 0, 1) := by decide +kernel
theorem dL_law_149 : decode cL_law 149 = .ok (.istore 10, 2) := by decide +kernel
theorem dL_law_151 : decode cL_law 151 = .ok (.iload 9, 2) := by decide +kernel
theorem dL_law_153 : decode cL_law 153 = .ok (.ifCond .lt 13, 3) := by decide +kernel
theorem dL_law_156 : decode cL_law 156 = .ok (.aload_n 1, 1) := by decide +kernel
theorem dL_law_157 : decode cL_law 157 = .ok (.iload 9, 2) := by decide +kernel
theorem dL_law_159 : decode cL_law 159 = .ok (.iconst 1, 1) := by decide +kernel
theorem dL_law_160 : decode cL_law 160 = .ok (.invokevirtual 64, 3) := by decide +kernel
theorem dL_law_163 : decode cL_law 163 = .ok (.goto 4, 3) := by decide +kernel
theorem dL_law_166 : decode cL_law 166 = .ok (.iconst 0, 1) := by decide +kernel
theorem dL_law_167 : decode cL_law 167 = .ok (.istore 11, 2) := by decide +kernel
theorem dL_law_169 : decode cL_law 169 = .ok (.aload_n 1, 1) := by decide +kernel
theorem dL_law_170 : decode cL_law 170 = .ok (.aload_n 0, 1) := by decide +kernel
theorem dL_law_171 : decode cL_law 171 = .ok (.iconst 3, 1) := by decide +kernel
theorem dL_law_172 : decode cL_law 172 = .ok (.iload 4, 2) := by decide +kernel
theorem dL_law_174 : decode cL_law 174 = .ok (.imul, 1) := by decide +kernel
theorem dL_law_175 : decode cL_law 175 = .ok (.invokestatic 74, 3) := by decide +kernel
theorem dL_law_178 : decode cL_law 178 = .ok (.istore 12, 2) := by decide +kernel
theorem dL_law_180 : decode cL_law 180 = .ok (.iload 12, 2) := by decide +kernel
theorem dL_law_182 : decode cL_law 182 = .ok (.ifCond .ge 46, 3) := by decide +kernel
theorem dL_law_185 : decode cL_law 185 = .ok (.aload_n 1, 1) := by decide +kernel
theorem dL_law_186 : decode cL_law 186 = .ok (.bipush 11, 2) := by decide +kernel
theorem dL_law_188 : decode cL_law 188 = .ok (.invokevirtual 57, 3) := by decide +kernel
theorem dL_law_191 : decode cL_law 191 = .ok (.iload 5, 2) := by decide +kernel
theorem dL_law_193 : decode cL_law 193 = .ok (.if_icmp .ne 39, 3) := by decide +kernel
theorem dL_law_196 : decode cL_law 196 = .ok (.aload_n 1, 1) := by decide +kernel
theorem dL_law_197 : decode cL_law 197 = .ok (.iconst 0, 1) := by decide +kernel
theorem dL_law_198 : decode cL_law 198 = .ok (.invokevirtual 57, 3) := by decide +kernel
theorem dL_law_201 : decode cL_law 201 = .ok (.iload 6, 2) := by decide +kernel
theorem dL_law_203 : decode cL_law 203 = .ok (.if_icmp .ne 29, 3) := by decide +kernel
theorem dL_law_206 : decode cL_law 206 = .ok (.aload_n 1, 1) := by decide +kernel
theorem dL_law_207 : decode cL_law 207 = .ok (.bipush 7, 2) := by decide +kernel
theorem dL_law_209 : decode cL_law 209 = .ok (.invokevirtual 57, 3) := by decide +kernel
theorem dL_law_212 : decode cL_law 212 = .ok (.iload 7, 2) := by decide +kernel
theorem dL_law_214 : decode cL_law 214 = .ok (.if_icmp .ne 18, 3) := by decide +kernel
theorem dL_law_217 : decode cL_law 217 = .ok (.aload_n 1, 1) := by decide +kernel
theorem dL_law_218 : decode cL_law 218 = .ok (.bipush 8, 2) := by decide +kernel
theorem dL_law_220 : decode cL_law 220 = .ok (.invokevirtual 57, 3) := by decide +kernel
theorem dL_law_223 : decode cL_law 223 = .ok (.iload 8, 2) := by decide +kernel
theorem dL_law_225 : decode cL_law 225 = .ok (.if_icmp .ne 7, 3) := by decide +kernel
theorem dL_law_228 : decode cL_law 228 = .ok (.iconst 1, 1) := by decide +kernel
theorem dL_law_229 : decode cL_law 229 = .ok (.goto 4, 3) := by decide +kernel
theorem dL_law_232 : decode cL_law 232 = .ok (.iconst 0, 1) := by decide +kernel
theorem dL_law_233 : decode cL_law 233 = .ok (.istore_n 2, 1) := by decide +kernel
theorem dL_law_234 : decode cL_law 234 = .ok (.iload 9, 2) := by decide +kernel
theorem dL_law_236 : decode cL_law 236 = .ok (.ifCond .lt 95, 3) := by decide +kernel
theorem dL_law_239 : decode cL_law 239 = .ok (.iload 12, 2) := by decide +kernel
theorem dL_law_241 : decode cL_law 241 = .ok (.ifCond .lt 90, 3) := by decide +kernel
theorem dL_law_244 : decode cL_law 244 = .ok (.iload_n 2, 1) := by decide +kernel
theorem dL_law_245 : decode cL_law 245 = .ok (.ifCond .eq 84, 3) := by decide +kernel
theorem dL_law_248 : decode cL_law 248 = .ok (.iload 12, 2) := by decide +kernel
theorem dL_law_250 : decode cL_law 250 = .ok (.ifCond .ne 7, 3) := by decide +kernel
theorem dL_law_253 : decode cL_law 253 = .ok (.iconst 1, 1) := by decide +kernel
theorem dL_law_254 : decode cL_law 254 = .ok (.goto 4, 3) := by decide +kernel
theorem dL_law_257 : decode cL_law 257 = .ok (.iconst 0, 1) := by decide +kernel
theorem dL_law_258 : decode cL_law 258 = .ok (.iload 10, 2) := by decide +kernel
theorem dL_law_260 : decode cL_law 260 = .ok (.if_icmp .ne 69, 3) := by decide +kernel
theorem dL_law_263 : decode cL_law 263 = .ok (.iload 12, 2) := by decide +kernel
theorem dL_law_265 : decode cL_law 265 = .ok (.ifCond .ne 18, 3) := by decide +kernel
theorem dL_law_268 : decode cL_law 268 = .ok (.aload_n 1, 1) := by decide +kernel
theorem dL_law_269 : decode cL_law 269 = .ok (.iload 9, 2) := by decide +kernel
theorem dL_law_271 : decode cL_law 271 = .ok (.iconst 1, 1) := by decide +kernel
theorem dL_law_272 : decode cL_law 272 = .ok (.invokevirtual 64, 3) := by decide +kernel
theorem dL_law_275 : decode cL_law 275 = .ok (.iload 11, 2) := by decide +kernel
theorem dL_law_277 : decode cL_law 277 = .ok (.if_icmp .ne 52, 3) := by decide +kernel
theorem dL_law_280 : decode cL_law 280 = .ok (.goto 27, 3) := by decide +kernel
theorem dL_law_283 : decode cL_law 283 = .ok (.aload_n 1, 1) := by decide +kernel
theorem dL_law_284 : decode cL_law 284 = .ok (.iload 9, 2) := by decide +kernel
theorem dL_law_286 : decode cL_law 286 = .ok (.iconst 1, 1) := by decide +kernel
theorem dL_law_287 : decode cL_law 287 = .ok (.invokevirtual 64, 3) := by decide +kernel
theorem dL_law_290 : decode cL_law 290 = .ok (.iload 12, 2) := by decide +kernel
theorem dL_law_292 : decode cL_law 292 = .ok (.iconst 1, 1) := by decide +kernel
theorem dL_law_293 : decode cL_law 293 = .ok (.if_icmp .ne 10, 3) := by decide +kernel
theorem dL_law_296 : decode cL_law 296 = .ok (.iload 11, 2) := by decide +kernel
theorem dL_law_298 : decode cL_law 298 = .ok (.iconst 1, 1) := by decide +kernel
theorem dL_law_299 : decode cL_law 299 = .ok (.iadd, 1) := by decide +kernel
theorem dL_law_300 : decode cL_law 300 = .ok (.goto 4, 3) := by decide +kernel
theorem dL_law_303 : decode cL_law 303 = .ok (.iconst 1, 1) := by decide +kernel
theorem dL_law_304 : decode cL_law 304 = .ok (.if_icmp .ne 25, 3) := by decide +kernel
theorem dL_law_307 : decode cL_law 307 = .ok (.aload_n 1, 1) := by decide +kernel
theorem dL_law_308 : decode cL_law 308 = .ok (.iconst 3, 1) := by decide +kernel
theorem dL_law_309 : decode cL_law 309 = .ok (.invokevirtual 70, 3) := by decide +kernel
theorem dL_law_312 : decode cL_law 312 = .ok (.ifCond .eq 13, 3) := by decide +kernel
theorem dL_law_315 : decode cL_law 315 = .ok (.aload_n 1, 1) := by decide +kernel
theorem dL_law_316 : decode cL_law 316 = .ok (.iload 9, 2) := by decide +kernel
theorem dL_law_318 : decode cL_law 318 = .ok (.iconst 4, 1) := by decide +kernel
theorem dL_law_319 : decode cL_law 319 = .ok (.invokevirtual 64, 3) := by decide +kernel
theorem dL_law_322 : decode cL_law 322 = .ok (.ifCond .ne 7, 3) := by decide +kernel
theorem dL_law_325 : decode cL_law 325 = .ok (.iconst 1, 1) := by decide +kernel
theorem dL_law_326 : decode cL_law 326 = .ok (.goto 4, 3) := by decide +kernel
theorem dL_law_329 : decode cL_law 329 = .ok (.iconst 0, 1) := by decide +kernel
theorem dL_law_330 : decode cL_law 330 = .ok (.istore_n 2, 1) := by decide +kernel
theorem dL_law_331 : decode cL_law 331 = .ok (.iload_n 2, 1) := by decide +kernel
theorem dL_law_332 : decode cL_law 332 = .ok (.ifCond .eq 21, 3) := by decide +kernel
theorem dL_law_335 : decode cL_law 335 = .ok (.aload_n 1, 1) := by decide +kernel
theorem dL_law_336 : decode cL_law 336 = .ok (.invokestatic 78, 3) := by decide +kernel
theorem dL_law_339 : decode cL_law 339 = .ok (.ifCond .eq 14, 3) := by decide +kernel
theorem dL_law_342 : decode cL_law 342 = .ok (.aload_n 1, 1) := by decide +kernel
theorem dL_law_343 : decode cL_law 343 = .ok (.invokestatic 82, 3) := by decide +kernel
theorem dL_law_346 : decode cL_law 346 = .ok (.ifCond .eq 7, 3) := by decide +kernel
theorem dL_law_349 : decode cL_law 349 = .ok (.iconst 1, 1) := by decide +kernel
theorem dL_law_350 : decode cL_law 350 = .ok (.goto 4, 3) := by decide +kernel
theorem dL_law_353 : decode cL_law 353 = .ok (.iconst 0, 1) := by decide +kernel
theorem dL_law_354 : decode cL_law 354 = .ok (.istore_n 2, 1) := by decide +kernel
theorem dL_law_355 : decode cL_law 355 = .ok (.iinc 4 1, 3) := by decide +kernel
theorem dL_law_358 : decode cL_law 358 = .ok (.goto (-326), 3) := by decide +kernel
theorem dL_law_361 : decode cL_law 361 = .ok (.iload_n 2, 1) := by decide +kernel
theorem dL_law_362 : decode cL_law 362 = .ok (.ireturn, 1) := by decide +kernel
