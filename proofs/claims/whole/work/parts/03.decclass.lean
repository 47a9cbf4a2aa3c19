theorem dX0_init_0 : decode cX0_init 0 = .ok (.aload_n 0, 1) := by decide +kernel
theorem dX0_init_1 : decode cX0_init 1 = .ok (.invokespecial 3, 3) := by decide +kernel
theorem dX0_init_4 : decode cX0_init 4 = .ok (.aload_n 0, 1) := by decide +kernel
theorem dX0_init_5 : decode cX0_init 5 = .ok (.iconst 0, 1) := by decide +kernel
theorem dX0_init_6 : decode cX0_init 6 = .ok (.putfield 9, 3) := by decide +kernel
theorem dX0_init_9 : decode cX0_init 9 = .ok (.aload_n 0, 1) := by decide +kernel
theorem dX0_init_10 : decode cX0_init 10 = .ok (.iconst 0, 1) := by decide +kernel
theorem dX0_init_11 : decode cX0_init 11 = .ok (.putfield 15, 3) := by decide +kernel
theorem dX0_init_14 : decode cX0_init 14 = .ok (.aload_n 0, 1) := by decide +kernel
theorem dX0_init_15 : decode cX0_init 15 = .ok (.iconst 0, 1) := by decide +kernel
theorem dX0_init_16 : decode cX0_init 16 = .ok (.putfield 18, 3) := by decide +kernel
theorem dX0_init_19 : decode cX0_init 19 = .ok (.aload_n 0, 1) := by decide +kernel
theorem dX0_init_20 : decode cX0_init 20 = .ok (.iconst 0, 1) := by decide +kernel
theorem dX0_init_21 : decode cX0_init 21 = .ok (.putfield 21, 3) := by decide +kernel
theorem dX0_init_24 : decode cX0_init 24 = .ok (.aload_n 0, 1) := by decide +kernel
theorem dX0_init_25 : decode cX0_init 25 = .ok (.iconst 0, 1) := by decide +kernel
theorem dX0_init_26 : decode cX0_init 26 = .ok (.putfield 24, 3) := by decide +kernel
theorem dX0_init_29 : decode cX0_init 29 = .ok (.aload_n 0, 1) := by decide +kernel
theorem dX0_init_30 : decode cX0_init 30 = .ok (.iload_n 1, 1) := by decide +kernel
theorem dX0_init_31 : decode cX0_init 31 = .ok (.putfield 27, 3) := by decide +kernel
theorem dX0_init_34 : decode cX0_init 34 = .ok (.aload_n 0, 1) := by decide +kernel
theorem dX0_init_35 : decode cX0_init 35 = .ok (.iload_n 2, 1) := by decide +kernel
theorem dX0_init_36 : decode cX0_init 36 = .ok (.putfield 30, 3) := by decide +kernel
theorem dX0_init_39 : decode cX0_init 39 = .ok (.aload_n 0, 1) := by decide +kernel
theorem dX0_init_40 : decode cX0_init 40 = .ok (.iload_n 3, 1) := by decide +kernel
theorem dX0_init_41 : decode cX0_init 41 = .ok (.putfield 33, 3) := by decide +kernel
theorem dX0_init_44 : decode cX0_init 44 = .ok (.aload_n 0, 1) := by decide +kernel
theorem dX0_init_45 : decode cX0_init 45 = .ok (.iload 4, 2) := by decide +kernel
theorem dX0_init_47 : decode cX0_init 47 = .ok (.putfield 36, 3) := by decide +kernel
theorem dX0_init_50 : decode cX0_init 50 = .ok (.return_, 1) := by decide +kernel
theorem dX0_number_0 : decode cX0_number 0 = .ok (.iload_n 1, 1) := by decide +kernel
theorem dX0_number_1 : decode cX0_number 1 = .ok (.tableswitch 87 0 7 #[47, 52, 57, 62, 67, 72, 77, 82], 47) := by decide +kernel
theorem dX0_number_48 : decode cX0_number 48 = .ok (.aload_n 0, 1) := by decide +kernel
theorem dX0_number_49 : decode cX0_number 49 = .ok (.getfield 27, 3) := by decide +kernel
theorem dX0_number_52 : decode cX0_number 52 = .ok (.ireturn, 1) := by decide +kernel
theorem dX0_number_53 : decode cX0_number 53 = .ok (.aload_n 0, 1) := by decide +kernel
theorem dX0_number_54 : decode cX0_number 54 = .ok (.getfield 30, 3) := by decide +kernel
theorem dX0_number_57 : decode cX0_number 57 = .ok (.ireturn, 1) := by decide +kernel
theorem dX0_number_58 : decode cX0_number 58 = .ok (.aload_n 0, 1) := by decide +kernel
theorem dX0_number_59 : decode cX0_number 59 = .ok (.getfield 33, 3) := by decide +kernel
theorem dX0_number_62 : decode cX0_number 62 = .ok (.ireturn, 1) := by decide +kernel
theorem dX0_number_63 : decode cX0_number 63 = .ok (.aload_n 0, 1) := by decide +kernel
theorem dX0_number_64 : decode cX0_number 64 = .ok (.getfield 36, 3) := by decide +kernel
theorem dX0_number_67 : decode cX0_number 67 = .ok (.ireturn, 1) := by decide +kernel
theorem dX0_number_68 : decode cX0_number 68 = .ok (.aload_n 0, 1) := by decide +kernel
theorem dX0_number_69 : decode cX0_number 69 = .ok (.getfield 9, 3) := by decide +kernel
theorem dX0_number_72 : decode cX0_number 72 = .ok (.ireturn, 1) := by decide +kernel
theorem dX0_number_73 : decode cX0_number 73 = .ok (.aload_n 0, 1) := by decide +kernel
theorem dX0_number_74 : decode cX0_number 74 = .ok (.getfield 15, 3) := by decide +kernel
theorem dX0_number_77 : decode cX0_number 77 = .ok (.ireturn, 1) := by decide +kernel
theorem dX0_number_78 : decode cX0_number 78 = .ok (.aload_n 0, 1) := by decide +kernel
theorem dX0_number_79 : decode cX0_number 79 = .ok (.getfield 18, 3) := by decide +kernel
theorem dX0_number_82 : decode cX0_number 82 = .ok (.ireturn, 1) := by decide +kernel
theorem dX0_number_83 : decode cX0_number 83 = .ok (.aload_n 0, 1) := by decide +kernel
theorem dX0_number_84 : decode cX0_number 84 = .ok (.getfield 21, 3) := by decide +kernel
theorem dX0_number_87 : decode cX0_number 87 = .ok (.ireturn, 1) := by decide +kernel
theorem dX0_number_88 : decode cX0_number 88 = .ok (.iconst (-1), 1) := by decide +kernel
theorem dX0_number_89 : decode cX0_number 89 = .ok (.ireturn, 1) := by decide +kernel
theorem dX1_init_0 : decode cX1_init 0 = .ok (.aload_n 0, 1) := by decide +kernel
theorem dX1_init_1 : decode cX1_init 1 = .ok (.invokespecial 3, 3) := by decide +kernel
theorem dX1_init_4 : decode cX1_init 4 = .ok (.aload_n 0, 1) := by decide +kernel
theorem dX1_init_5 : decode cX1_init 5 = .ok (.bipush 12, 2) := by decide +kernel
theorem dX1_init_7 : decode cX1_init 7 = .ok (.anewarray 9, 3) := by decide +kernel
theorem dX1_init_10 : decode cX1_init 10 = .ok (.putfield 11, 3) := by decide +kernel
theorem dX1_init_13 : decode cX1_init 13 = .ok (.aload_n 0, 1) := by decide +kernel
theorem dX1_init_14 : decode cX1_init 14 = .ok (.bipush 120, 2) := by decide +kernel
theorem dX1_init_16 : decode cX1_init 16 = .ok (.newarray .int, 2) := by decide +kernel
theorem dX1_init_18 : decode cX1_init 18 = .ok (.putfield 17, 3) := by decide +kernel
theorem dX1_init_21 : decode cX1_init 21 = .ok (.aload_n 0, 1) := by decide +kernel
theorem dX1_init_22 : decode cX1_init 22 = .ok (.bipush 120, 2) := by decide +kernel
theorem dX1_init_24 : decode cX1_init 24 = .ok (.newarray .int, 2) := by decide +kernel
theorem dX1_init_26 : decode cX1_init 26 = .ok (.putfield 21, 3) := by decide +kernel
theorem dX1_init_29 : decode cX1_init 29 = .ok (.aload_n 0, 1) := by decide +kernel
theorem dX1_init_30 : decode cX1_init 30 = .ok (.bipush 120, 2) := by decide +kernel
theorem dX1_init_32 : decode cX1_init 32 = .ok (.newarray .int, 2) := by decide +kernel
theorem dX1_init_34 : decode cX1_init 34 = .ok (.putfield 24, 3) := by decide +kernel
theorem dX1_init_37 : decode cX1_init 37 = .ok (.aload_n 0, 1) := by decide +kernel
theorem dX1_init_38 : decode cX1_init 38 = .ok (.iconst (-1), 1) := by decide +kernel
theorem dX1_init_39 : decode cX1_init 39 = .ok (.putfield 27, 3) := by decide +kernel
theorem dX1_init_42 : decode cX1_init 42 = .ok (.iconst 0, 1) := by decide +kernel
theorem dX1_init_43 : decode cX1_init 43 = .ok (.istore_n 1, 1) := by decide +kernel
theorem dX1_init_44 : decode cX1_init 44 = .ok (.iload_n 1, 1) := by decide +kernel
theorem dX1_init_45 : decode cX1_init 45 = .ok (.bipush 12, 2) := by decide +kernel
theorem dX1_init_47 : decode cX1_init 47 = .ok (.if_icmp .ge 22, 3) := by decide +kernel
theorem dX1_init_50 : decode cX1_init 50 = .ok (.aload_n 0, 1) := by decide +kernel
theorem dX1_init_51 : decode cX1_init 51 = .ok (.getfield 11, 3) := by decide +kernel
theorem dX1_init_54 : decode cX1_init 54 = .ok (.iload_n 1, 1) := by decide +kernel
theorem dX1_init_55 : decode cX1_init 55 = .ok (.new 9, 3) := by decide +kernel
theorem dX1_init_58 : decode cX1_init 58 = .ok (.dup, 1) := by decide +kernel
theorem dX1_init_59 : decode cX1_init 59 = .ok (.invokespecial 31, 3) := by decide +kernel
theorem dX1_init_62 : decode cX1_init 62 = .ok (.aastore, 1) := by decide +kernel
theorem dX1_init_63 : decode cX1_init 63 = .ok (.iinc 1 1, 3) := by decide +kernel
theorem dX1_init_66 : decode cX1_init 66 = .ok (.goto (-22), 3) := by decide +kernel
theorem dX1_init_69 : decode cX1_init 69 = .ok (.return_, 1) := by decide +kernel
theorem dX1_wipe_0 : decode cX1_wipe 0 = .ok (.iconst 0, 1) := by decide +kernel
theorem dX1_wipe_1 : decode cX1_wipe 1 = .ok (.istore_n 1, 1) := by decide +kernel
theorem dX1_wipe_2 : decode cX1_wipe 2 = .ok (.iload_n 1, 1) := by decide +kernel
theorem dX1_wipe_3 : decode cX1_wipe 3 = .ok (.bipush 12, 2) := by decide +kernel
theorem dX1_wipe_5 : decode cX1_wipe 5 = .ok (.if_icmp .ge 23, 3) := by decide +kernel
theorem dX1_wipe_8 : decode cX1_wipe 8 = .ok (.aload_n 0, 1) := by decide +kernel
theorem dX1_wipe_9 : decode cX1_wipe 9 = .ok (.iload_n 1, 1) := by decide +kernel
theorem dX1_wipe_10 : decode cX1_wipe 10 = .ok (.invokevirtual 32, 3) := by decide +kernel
theorem dX1_wipe_13 : decode cX1_wipe 13 = .ok (.astore_n 2, 1) := by decide +kernel
theorem dX1_wipe_14 : decode cX1_wipe 14 = .ok (.aload_n 2, 1) := by decide +kernel
theorem dX1_wipe_15 : decode cX1_wipe 15 = .ok (.ifnull 7, 3) := by decide +kernel
theorem dX1_wipe_18 : decode cX1_wipe 18 = .ok (.aload_n 2, 1) := by decide +kernel
theorem dX1_wipe_19 : decode cX1_wipe 19 = .ok (.invokevirtual 36, 3) := by decide +kernel
theorem dX1_wipe_22 : decode cX1_wipe 22 = .ok (.iinc 1 1, 3) := by decide +kernel
theorem dX1_wipe_25 : decode cX1_wipe 25 = .ok (.goto (-23), 3) := by decide +kernel
theorem dX1_wipe_28 : decode cX1_wipe 28 = .ok (.aload_n 0, 1) := by decide +kernel
theorem dX1_wipe_29 : decode cX1_wipe 29 = .ok (.getfield 17, 3) := by decide +kernel
theorem dX1_wipe_32 : decode cX1_wipe 32 = .ok (.iconst 0, 1) := by decide +kernel
theorem dX1_wipe_33 : decode cX1_wipe 33 = .ok (.invokestatic 39, 3) := by decide +kernel
theorem dX1_wipe_36 : decode cX1_wipe 36 = .ok (.aload_n 0, 1) := by decide +kernel
theorem dX1_wipe_37 : decode cX1_wipe 37 = .ok (.getfield 21, 3) := by decide +kernel
theorem dX1_wipe_40 : decode cX1_wipe 40 = .ok (.iconst 0, 1) := by decide +kernel
theorem dX1_wipe_41 : decode cX1_wipe 41 = .ok (.invokestatic 39, 3) := by decide +kernel
theorem dX1_wipe_44 : decode cX1_wipe 44 = .ok (.aload_n 0, 1) := by decide +kernel
theorem dX1_wipe_45 : decode cX1_wipe 45 = .ok (.getfield 24, 3) := by decide +kernel
theorem dX1_wipe_48 : decode cX1_wipe 48 = .ok (.iconst 0, 1) := by decide +kernel
theorem dX1_wipe_49 : decode cX1_wipe 49 = .ok (.invokestatic 39, 3) := by decide +kernel
theorem dX1_wipe_52 : decode cX1_wipe 52 = .ok (.aload_n 0, 1) := by decide +kernel
theorem dX1_wipe_53 : decode cX1_wipe 53 = .ok (.iconst (-1), 1) := by decide +kernel
theorem dX1_wipe_54 : decode cX1_wipe 54 = .ok (.putfield 27, 3) := by decide +kernel
theorem dX1_wipe_57 : decode cX1_wipe 57 = .ok (.return_, 1) := by decide +kernel
theorem dX1_at_0 : decode cX1_at 0 = .ok (.iload_n 1, 1) := by decide +kernel
theorem dX1_at_1 : decode cX1_at 1 = .ok (.invokestatic 45, 3) := by decide +kernel
theorem dX1_at_4 : decode cX1_at 4 = .ok (.ifCond .eq 12, 3) := by decide +kernel
theorem dX1_at_7 : decode cX1_at 7 = .ok (.aload_n 0, 1) := by decide +kernel
theorem dX1_at_8 : decode cX1_at 8 = .ok (.getfield 11, 3) := by decide +kernel
theorem dX1_at_11 : decode cX1_at 11 = .ok (.iload_n 1, 1) := by decide +kernel
theorem dX1_at_12 : decode cX1_at 12 = .ok (.aaload, 1) := by decide +kernel
theorem dX1_at_13 : decode cX1_at 13 = .ok (.goto 4, 3) := by decide +kernel
theorem dX1_at_16 : decode cX1_at 16 = .ok (.aconst_null, 1) := by decide +kernel
theorem dX1_at_17 : decode cX1_at 17 = .ok (.areturn, 1) := by decide +kernel
theorem dX1_isRow_0 : decode cX1_isRow 0 = .ok (.iload_n 1, 1) := by decide +kernel
theorem dX1_isRow_1 : decode cX1_isRow 1 = .ok (.invokestatic 49, 3) := by decide +kernel
theorem dX1_isRow_4 : decode cX1_isRow 4 = .ok (.ifCond .eq 27, 3) := by decide +kernel
theorem dX1_isRow_7 : decode cX1_isRow 7 = .ok (.aload_n 0, 1) := by decide +kernel
theorem dX1_isRow_8 : decode cX1_isRow 8 = .ok (.getfield 17, 3) := by decide +kernel
theorem dX1_isRow_11 : decode cX1_isRow 11 = .ok (.iload_n 1, 1) := by decide +kernel
theorem dX1_isRow_12 : decode cX1_isRow 12 = .ok (.iaload, 1) := by decide +kernel
theorem dX1_isRow_13 : decode cX1_isRow 13 = .ok (.iconst 1, 1) := by decide +kernel
theorem dX1_isRow_14 : decode cX1_isRow 14 = .ok (.if_icmp .eq 13, 3) := by decide +kernel
theorem dX1_isRow_17 : decode cX1_isRow 17 = .ok (.aload_n 0, 1) := by decide +kernel
theorem dX1_isRow_18 : decode cX1_isRow 18 = .ok (.getfield 17, 3) := by decide +kernel
theorem dX1_isRow_21 : decode cX1_isRow 21 = .ok (.iload_n 1, 1) := by decide +kernel
theorem dX1_isRow_22 : decode cX1_isRow 22 = .ok (.iaload, 1) := by decide +kernel
theorem dX1_isRow_23 : decode cX1_isRow 23 = .ok (.iconst 2, 1) := by decide +kernel
theorem dX1_isRow_24 : decode cX1_isRow 24 = .ok (.if_icmp .ne 7, 3) := by decide +kernel
theorem dX1_isRow_27 : decode cX1_isRow 27 = .ok (.iconst 1, 1) := by decide +kernel
theorem dX1_isRow_28 : decode cX1_isRow 28 = .ok (.goto 4, 3) := by decide +kernel
theorem dX1_isRow_31 : decode cX1_isRow 31 = .ok (.iconst 0, 1) := by decide +kernel
theorem dX1_isRow_32 : decode cX1_isRow 32 = .ok (.ireturn, 1) := by decide +kernel
theorem dX1_fitsRow_0 : decode cX1_fitsRow 0 = .ok (.iload_n 1, 1) := by decide +kernel
theorem dX1_fitsRow_1 : decode cX1_fitsRow 1 = .ok (.invokestatic 49, 3) := by decide +kernel
theorem dX1_fitsRow_4 : decode cX1_fitsRow 4 = .ok (.ifCond .eq 33, 3) := by decide +kernel
theorem dX1_fitsRow_7 : decode cX1_fitsRow 7 = .ok (.aload_n 0, 1) := by decide +kernel
theorem dX1_fitsRow_8 : decode cX1_fitsRow 8 = .ok (.getfield 17, 3) := by decide +kernel
theorem dX1_fitsRow_11 : decode cX1_fitsRow 11 = .ok (.iload_n 1, 1) := by decide +kernel
theorem dX1_fitsRow_12 : decode cX1_fitsRow 12 = .ok (.iaload, 1) := by decide +kernel
theorem dX1_fitsRow_13 : decode cX1_fitsRow 13 = .ok (.iconst 2, 1) := by decide +kernel
theorem dX1_fitsRow_14 : decode cX1_fitsRow 14 = .ok (.if_icmp .ne 23, 3) := by decide +kernel
theorem dX1_fitsRow_17 : decode cX1_fitsRow 17 = .ok (.iload_n 2, 1) := by decide +kernel
theorem dX1_fitsRow_18 : decode cX1_fitsRow 18 = .ok (.sipush (-32768), 3) := by decide +kernel
theorem dX1_fitsRow_21 : decode cX1_fitsRow 21 = .ok (.if_icmp .lt 14, 3) := by decide +kernel
theorem dX1_fitsRow_24 : decode cX1_fitsRow 24 = .ok (.iload_n 2, 1) := by decide +kernel
theorem dX1_fitsRow_25 : decode cX1_fitsRow 25 = .ok (.sipush 32767, 3) := by decide +kernel
theorem dX1_fitsRow_28 : decode cX1_fitsRow 28 = .ok (.if_icmp .gt 7, 3) := by decide +kernel
theorem dX1_fitsRow_31 : decode cX1_fitsRow 31 = .ok (.iconst 1, 1) := by decide +kernel
theorem dX1_fitsRow_32 : decode cX1_fitsRow 32 = .ok (.goto 4, 3) := by decide +kernel
theorem dX1_fitsRow_35 : decode cX1_fitsRow 35 = .ok (.iconst 0, 1) := by decide +kernel
theorem dX1_fitsRow_36 : decode cX1_fitsRow 36 = .ok (.ireturn, 1) := by decide +kernel
theorem dX1_fitsRow_37 : decode cX1_fitsRow 37 = .ok (.iload_n 2, 1) := by decide +kernel
theorem dX1_fitsRow_38 : decode cX1_fitsRow 38 = .ok (.bipush (-128), 2) := by decide +kernel
theorem dX1_fitsRow_40 : decode cX1_fitsRow 40 = .ok (.if_icmp .lt 13, 3) := by decide +kernel
theorem dX1_fitsRow_43 : decode cX1_fitsRow 43 = .ok (.iload_n 2, 1) := by decide +kernel
theorem dX1_fitsRow_44 : decode cX1_fitsRow 44 = .ok (.bipush 127, 2) := by decide +kernel
theorem dX1_fitsRow_46 : decode cX1_fitsRow 46 = .ok (.if_icmp .gt 7, 3) := by decide +kernel
theorem dX1_fitsRow_49 : decode cX1_fitsRow 49 = .ok (.iconst 1, 1) := by decide +kernel
theorem dX1_fitsRow_50 : decode cX1_fitsRow 50 = .ok (.goto 4, 3) := by decide +kernel
theorem dX1_fitsRow_53 : decode cX1_fitsRow 53 = .ok (.iconst 0, 1) := by decide +kernel
theorem dX1_fitsRow_54 : decode cX1_fitsRow 54 = .ok (.ireturn, 1) := by decide +kernel
theorem dX1_rowLength_0 : decode cX1_rowLength 0 = .ok (.iload_n 1, 1) := by decide +kernel
theorem dX1_rowLength_1 : decode cX1_rowLength 1 = .ok (.invokestatic 49, 3) := by decide +kernel
theorem dX1_rowLength_4 : decode cX1_rowLength 4 = .ok (.ifCond .eq 12, 3) := by decide +kernel
theorem dX1_rowLength_7 : decode cX1_rowLength 7 = .ok (.aload_n 0, 1) := by decide +kernel
theorem dX1_rowLength_8 : decode cX1_rowLength 8 = .ok (.getfield 21, 3) := by decide +kernel
theorem dX1_rowLength_11 : decode cX1_rowLength 11 = .ok (.iload_n 1, 1) := by decide +kernel
theorem dX1_rowLength_12 : decode cX1_rowLength 12 = .ok (.iaload, 1) := by decide +kernel
theorem dX1_rowLength_13 : decode cX1_rowLength 13 = .ok (.goto 4, 3) := by decide +kernel
theorem dX1_rowLength_16 : decode cX1_rowLength 16 = .ok (.iconst 0, 1) := by decide +kernel
theorem dX1_rowLength_17 : decode cX1_rowLength 17 = .ok (.ireturn, 1) := by decide +kernel
theorem dX1_isOpen_0 : decode cX1_isOpen 0 = .ok (.iload_n 1, 1) := by decide +kernel
theorem dX1_isOpen_1 : decode cX1_isOpen 1 = .ok (.invokestatic 49, 3) := by decide +kernel
theorem dX1_isOpen_4 : decode cX1_isOpen 4 = .ok (.ifCond .ne 5, 3) := by decide +kernel
theorem dX1_isOpen_7 : decode cX1_isOpen 7 = .ok (.iconst 0, 1) := by decide +kernel
theorem dX1_isOpen_8 : decode cX1_isOpen 8 = .ok (.ireturn, 1) := by decide +kernel
theorem dX1_isOpen_9 : decode cX1_isOpen 9 = .ok (.aload_n 0, 1) := by decide +kernel
theorem dX1_isOpen_10 : decode cX1_isOpen 10 = .ok (.getfield 17, 3) := by decide +kernel
theorem dX1_isOpen_13 : decode cX1_isOpen 13 = .ok (.iload_n 1, 1) := by decide +kernel
theorem dX1_isOpen_14 : decode cX1_isOpen 14 = .ok (.iaload, 1) := by decide +kernel
theorem dX1_isOpen_15 : decode cX1_isOpen 15 = .ok (.iconst 3, 1) := by decide +kernel
theorem dX1_isOpen_16 : decode cX1_isOpen 16 = .ok (.if_icmp .eq 22, 3) := by decide +kernel
theorem dX1_isOpen_19 : decode cX1_isOpen 19 = .ok (.aload_n 0, 1) := by decide +kernel
theorem dX1_isOpen_20 : decode cX1_isOpen 20 = .ok (.iload_n 1, 1) := by decide +kernel
theorem dX1_isOpen_21 : decode cX1_isOpen 21 = .ok (.invokevirtual 52, 3) := by decide +kernel
theorem dX1_isOpen_24 : decode cX1_isOpen 24 = .ok (.ifCond .eq 18, 3) := by decide +kernel
theorem dX1_isOpen_27 : decode cX1_isOpen 27 = .ok (.aload_n 0, 1) := by decide +kernel
theorem dX1_isOpen_28 : decode cX1_isOpen 28 = .ok (.getfield 21, 3) := by decide +kernel
theorem dX1_isOpen_31 : decode cX1_isOpen 31 = .ok (.iload_n 1, 1) := by decide +kernel
theorem dX1_isOpen_32 : decode cX1_isOpen 32 = .ok (.iaload, 1) := by decide +kernel
theorem dX1_isOpen_33 : decode cX1_isOpen 33 = .ok (.bipush 30, 2) := by decide +kernel
theorem dX1_isOpen_35 : decode cX1_isOpen 35 = .ok (.if_icmp .ge 7, 3) := by decide +kernel
theorem dX1_isOpen_38 : decode cX1_isOpen 38 = .ok (.iconst 1, 1) := by decide +kernel
theorem dX1_isOpen_39 : decode cX1_isOpen 39 = .ok (.goto 4, 3) := by decide +kernel
theorem dX1_isOpen_42 : decode cX1_isOpen 42 = .ok (.iconst 0, 1) := by decide +kernel
theorem dX1_isOpen_43 : decode cX1_isOpen 43 = .ok (.ireturn, 1) := by decide +kernel
theorem dX1_heldDays_0 : decode cX1_heldDays 0 = .ok (.aload_n 0, 1) := by decide +kernel
theorem dX1_heldDays_1 : decode cX1_heldDays 1 = .ok (.iload_n 1, 1) := by decide +kernel
theorem dX1_heldDays_2 : decode cX1_heldDays 2 = .ok (.invokevirtual 55, 3) := by decide +kernel
theorem dX1_heldDays_5 : decode cX1_heldDays 5 = .ok (.ifCond .eq 14, 3) := by decide +kernel
theorem dX1_heldDays_8 : decode cX1_heldDays 8 = .ok (.iload_n 2, 1) := by decide +kernel
theorem dX1_heldDays_9 : decode cX1_heldDays 9 = .ok (.ifCond .eq 7, 3) := by decide +kernel
theorem dX1_heldDays_12 : decode cX1_heldDays 12 = .ok (.iconst 0, 1) := by decide +kernel
theorem dX1_heldDays_13 : decode cX1_heldDays 13 = .ok (.goto 5, 3) := by decide +kernel
theorem dX1_heldDays_16 : decode cX1_heldDays 16 = .ok (.ldc 58, 2) := by decide +kernel
theorem dX1_heldDays_18 : decode cX1_heldDays 18 = .ok (.ireturn, 1) := by decide +kernel
theorem dX1_heldDays_19 : decode cX1_heldDays 19 = .ok (.aload_n 0, 1) := by decide +kernel
theorem dX1_heldDays_20 : decode cX1_heldDays 20 = .ok (.iload_n 1, 1) := by decide +kernel
theorem dX1_heldDays_21 : decode cX1_heldDays 21 = .ok (.invokevirtual 52, 3) := by decide +kernel
theorem dX1_heldDays_24 : decode cX1_heldDays 24 = .ok (.ifCond .eq 12, 3) := by decide +kernel
theorem dX1_heldDays_27 : decode cX1_heldDays 27 = .ok (.aload_n 0, 1) := by decide +kernel
theorem dX1_heldDays_28 : decode cX1_heldDays 28 = .ok (.getfield 24, 3) := by decide +kernel
theorem dX1_heldDays_31 : decode cX1_heldDays 31 = .ok (.iload_n 1, 1) := by decide +kernel
theorem dX1_heldDays_32 : decode cX1_heldDays 32 = .ok (.iaload, 1) := by decide +kernel
theorem dX1_heldDays_33 : decode cX1_heldDays 33 = .ok (.goto 5, 3) := by decide +kernel
theorem dX1_heldDays_36 : decode cX1_heldDays 36 = .ok (.ldc 58, 2) := by decide +kernel
theorem dX1_heldDays_38 : decode cX1_heldDays 38 = .ok (.ireturn, 1) := by decide +kernel
theorem dX1_isHeld_0 : decode cX1_isHeld 0 = .ok (.iload_n 1, 1) := by decide +kernel
theorem dX1_isHeld_1 : decode cX1_isHeld 1 = .ok (.invokestatic 59, 3) := by decide +kernel
theorem dX1_isHeld_4 : decode cX1_isHeld 4 = .ok (.ifCond .eq 26, 3) := by decide +kernel
theorem dX1_isHeld_7 : decode cX1_isHeld 7 = .ok (.aload_n 0, 1) := by decide +kernel
theorem dX1_isHeld_8 : decode cX1_isHeld 8 = .ok (.iload_n 1, 1) := by decide +kernel
theorem dX1_isHeld_9 : decode cX1_isHeld 9 = .ok (.bipush 30, 2) := by decide +kernel
theorem dX1_isHeld_11 : decode cX1_isHeld 11 = .ok (.idiv, 1) := by decide +kernel
theorem dX1_isHeld_12 : decode cX1_isHeld 12 = .ok (.iload_n 2, 1) := by decide +kernel
theorem dX1_isHeld_13 : decode cX1_isHeld 13 = .ok (.invokevirtual 62, 3) := by decide +kernel
theorem dX1_isHeld_16 : decode cX1_isHeld 16 = .ok (.iload_n 1, 1) := by decide +kernel
theorem dX1_isHeld_17 : decode cX1_isHeld 17 = .ok (.bipush 30, 2) := by decide +kernel
theorem dX1_isHeld_19 : decode cX1_isHeld 19 = .ok (.irem, 1) := by decide +kernel
theorem dX1_isHeld_20 : decode cX1_isHeld 20 = .ok (.ishr, 1) := by decide +kernel
theorem dX1_isHeld_21 : decode cX1_isHeld 21 = .ok (.iconst 1, 1) := by decide +kernel
theorem dX1_isHeld_22 : decode cX1_isHeld 22 = .ok (.iand, 1) := by decide +kernel
theorem dX1_isHeld_23 : decode cX1_isHeld 23 = .ok (.ifCond .eq 7, 3) := by decide +kernel
theorem dX1_isHeld_26 : decode cX1_isHeld 26 = .ok (.iconst 1, 1) := by decide +kernel
theorem dX1_isHeld_27 : decode cX1_isHeld 27 = .ok (.goto 4, 3) := by decide +kernel
theorem dX1_isHeld_30 : decode cX1_isHeld 30 = .ok (.iconst 0, 1) := by decide +kernel
theorem dX1_isHeld_31 : decode cX1_isHeld 31 = .ok (.ireturn, 1) := by decide +kernel
theorem dX1_isToldHeld_0 : decode cX1_isToldHeld 0 = .ok (.iload_n 1, 1) := by decide +kernel
theorem dX1_isToldHeld_1 : decode cX1_isToldHeld 1 = .ok (.bipush 30, 2) := by decide +kernel
theorem dX1_isToldHeld_3 : decode cX1_isToldHeld 3 = .ok (.idiv, 1) := by decide +kernel
theorem dX1_isToldHeld_4 : decode cX1_isToldHeld 4 = .ok (.istore_n 2, 1) := by decide +kernel
theorem dX1_isToldHeld_5 : decode cX1_isToldHeld 5 = .ok (.iload_n 1, 1) := by decide +kernel
theorem dX1_isToldHeld_6 : decode cX1_isToldHeld 6 = .ok (.invokestatic 59, 3) := by decide +kernel
theorem dX1_isToldHeld_9 : decode cX1_isToldHeld 9 = .ok (.ifCond .eq 32, 3) := by decide +kernel
theorem dX1_isToldHeld_12 : decode cX1_isToldHeld 12 = .ok (.aload_n 0, 1) := by decide +kernel
theorem dX1_isToldHeld_13 : decode cX1_isToldHeld 13 = .ok (.iload_n 2, 1) := by decide +kernel
theorem dX1_isToldHeld_14 : decode cX1_isToldHeld 14 = .ok (.invokevirtual 52, 3) := by decide +kernel
theorem dX1_isToldHeld_17 : decode cX1_isToldHeld 17 = .ok (.ifCond .eq 24, 3) := by decide +kernel
theorem dX1_isToldHeld_20 : decode cX1_isToldHeld 20 = .ok (.aload_n 0, 1) := by decide +kernel
theorem dX1_isToldHeld_21 : decode cX1_isToldHeld 21 = .ok (.iload_n 2, 1) := by decide +kernel
theorem dX1_isToldHeld_22 : decode cX1_isToldHeld 22 = .ok (.invokevirtual 55, 3) := by decide +kernel
theorem dX1_isToldHeld_25 : decode cX1_isToldHeld 25 = .ok (.ifCond .ne 16, 3) := by decide +kernel
theorem dX1_isToldHeld_28 : decode cX1_isToldHeld 28 = .ok (.aload_n 0, 1) := by decide +kernel
theorem dX1_isToldHeld_29 : decode cX1_isToldHeld 29 = .ok (.iload_n 1, 1) := by decide +kernel
theorem dX1_isToldHeld_30 : decode cX1_isToldHeld 30 = .ok (.iconst 0, 1) := by decide +kernel
theorem dX1_isToldHeld_31 : decode cX1_isToldHeld 31 = .ok (.invokevirtual 66, 3) := by decide +kernel
theorem dX1_isToldHeld_34 : decode cX1_isToldHeld 34 = .ok (.ifCond .eq 7, 3) := by decide +kernel
theorem dX1_isToldHeld_37 : decode cX1_isToldHeld 37 = .ok (.iconst 1, 1) := by decide +kernel
theorem dX1_isToldHeld_38 : decode cX1_isToldHeld 38 = .ok (.goto 4, 3) := by decide +kernel
theorem dX1_isToldHeld_41 : decode cX1_isToldHeld 41 = .ok (.iconst 0, 1) := by decide +kernel
theorem dX1_isToldHeld_42 : decode cX1_isToldHeld 42 = .ok (.ireturn, 1) := by decide +kernel
theorem dX1_leastOf_0 : decode cX1_leastOf 0 = .ok (.iconst 0, 1) := by decide +kernel
theorem dX1_leastOf_1 : decode cX1_leastOf 1 = .ok (.istore 4, 2) := by decide +kernel
theorem dX1_leastOf_3 : decode cX1_leastOf 3 = .ok (.iload 4, 2) := by decide +kernel
theorem dX1_leastOf_5 : decode cX1_leastOf 5 = .ok (.bipush 12, 2) := by decide +kernel
theorem dX1_leastOf_7 : decode cX1_leastOf 7 = .ok (.if_icmp .ge 53, 3) := by decide +kernel
theorem dX1_leastOf_10 : decode cX1_leastOf 10 = .ok (.aload_n 0, 1) := by decide +kernel
theorem dX1_leastOf_11 : decode cX1_leastOf 11 = .ok (.iload 4, 2) := by decide +kernel
theorem dX1_leastOf_13 : decode cX1_leastOf 13 = .ok (.invokevirtual 32, 3) := by decide +kernel
theorem dX1_leastOf_16 : decode cX1_leastOf 16 = .ok (.astore 5, 2) := by decide +kernel
theorem dX1_leastOf_18 : decode cX1_leastOf 18 = .ok (.aload 5, 2) := by decide +kernel
theorem dX1_leastOf_20 : decode cX1_leastOf 20 = .ok (.ifnull 34, 3) := by decide +kernel
theorem dX1_leastOf_23 : decode cX1_leastOf 23 = .ok (.aload 5, 2) := by decide +kernel
theorem dX1_leastOf_25 : decode cX1_leastOf 25 = .ok (.iload_n 1, 1) := by decide +kernel
theorem dX1_leastOf_26 : decode cX1_leastOf 26 = .ok (.iload_n 2, 1) := by decide +kernel
theorem dX1_leastOf_27 : decode cX1_leastOf 27 = .ok (.invokevirtual 70, 3) := by decide +kernel
theorem dX1_leastOf_30 : decode cX1_leastOf 30 = .ok (.ifCond .eq 24, 3) := by decide +kernel
theorem dX1_leastOf_33 : decode cX1_leastOf 33 = .ok (.aload 5, 2) := by decide +kernel
theorem dX1_leastOf_35 : decode cX1_leastOf 35 = .ok (.getfield 74, 3) := by decide +kernel
theorem dX1_leastOf_38 : decode cX1_leastOf 38 = .ok (.iload_n 3, 1) := by decide +kernel
theorem dX1_leastOf_39 : decode cX1_leastOf 39 = .ok (.if_icmp .gt 15, 3) := by decide +kernel
theorem dX1_leastOf_42 : decode cX1_leastOf 42 = .ok (.iload_n 3, 1) := by decide +kernel
theorem dX1_leastOf_43 : decode cX1_leastOf 43 = .ok (.aload 5, 2) := by decide +kernel
theorem dX1_leastOf_45 : decode cX1_leastOf 45 = .ok (.getfield 77, 3) := by decide +kernel
theorem dX1_leastOf_48 : decode cX1_leastOf 48 = .ok (.if_icmp .gt 6, 3) := by decide +kernel
theorem dX1_leastOf_51 : decode cX1_leastOf 51 = .ok (.iload 4, 2) := by decide +kernel
theorem dX1_leastOf_53 : decode cX1_leastOf 53 = .ok (.ireturn, 1) := by decide +kernel
theorem dX1_leastOf_54 : decode cX1_leastOf 54 = .ok (.iinc 4 1, 3) := by decide +kernel
theorem dX1_leastOf_57 : decode cX1_leastOf 57 = .ok (.goto (-54), 3) := by decide +kernel
theorem dX1_leastOf_60 : decode cX1_leastOf 60 = .ok (.iconst (-1), 1) := by decide +kernel
theorem dX1_leastOf_61 : decode cX1_leastOf 61 = .ok (.ireturn, 1) := by decide +kernel
theorem dX1_setRow_0 : decode cX1_setRow 0 = .ok (.iload_n 1, 1) := by decide +kernel
theorem dX1_setRow_1 : decode cX1_setRow 1 = .ok (.invokestatic 49, 3) := by decide +kernel
theorem dX1_setRow_4 : decode cX1_setRow 4 = .ok (.ifCond .eq 37, 3) := by decide +kernel
theorem dX1_setRow_7 : decode cX1_setRow 7 = .ok (.aload_n 0, 1) := by decide +kernel
theorem dX1_setRow_8 : decode cX1_setRow 8 = .ok (.getfield 17, 3) := by decide +kernel
theorem dX1_setRow_11 : decode cX1_setRow 11 = .ok (.iload_n 1, 1) := by decide +kernel
theorem dX1_setRow_12 : decode cX1_setRow 12 = .ok (.iload_n 2, 1) := by decide +kernel
theorem dX1_setRow_13 : decode cX1_setRow 13 = .ok (.ifCond .eq 7, 3) := by decide +kernel
theorem dX1_setRow_16 : decode cX1_setRow 16 = .ok (.iconst 2, 1) := by decide +kernel
theorem dX1_setRow_17 : decode cX1_setRow 17 = .ok (.goto 4, 3) := by decide +kernel
theorem dX1_setRow_20 : decode cX1_setRow 20 = .ok (.iconst 1, 1) := by decide +kernel
theorem dX1_setRow_21 : decode cX1_setRow 21 = .ok (.iastore, 1) := by decide +kernel
theorem dX1_setRow_22 : decode cX1_setRow 22 = .ok (.aload_n 0, 1) := by decide +kernel
theorem dX1_setRow_23 : decode cX1_setRow 23 = .ok (.getfield 21, 3) := by decide +kernel
theorem dX1_setRow_26 : decode cX1_setRow 26 = .ok (.iload_n 1, 1) := by decide +kernel
theorem dX1_setRow_27 : decode cX1_setRow 27 = .ok (.iload_n 3, 1) := by decide +kernel
theorem dX1_setRow_28 : decode cX1_setRow 28 = .ok (.iastore, 1) := by decide +kernel
theorem dX1_setRow_29 : decode cX1_setRow 29 = .ok (.aload_n 0, 1) := by decide +kernel
theorem dX1_setRow_30 : decode cX1_setRow 30 = .ok (.getfield 24, 3) := by decide +kernel
theorem dX1_setRow_33 : decode cX1_setRow 33 = .ok (.iload_n 1, 1) := by decide +kernel
theorem dX1_setRow_34 : decode cX1_setRow 34 = .ok (.iload_n 3, 1) := by decide +kernel
theorem dX1_setRow_35 : decode cX1_setRow 35 = .ok (.iconst 1, 1) := by decide +kernel
theorem dX1_setRow_36 : decode cX1_setRow 36 = .ok (.isub, 1) := by decide +kernel
theorem dX1_setRow_37 : decode cX1_setRow 37 = .ok (.invokestatic 80, 3) := by decide +kernel
theorem dX1_setRow_40 : decode cX1_setRow 40 = .ok (.iastore, 1) := by decide +kernel
theorem dX1_setRow_41 : decode cX1_setRow 41 = .ok (.return_, 1) := by decide +kernel
theorem dX1_setDay_0 : decode cX1_setDay 0 = .ok (.iload_n 1, 1) := by decide +kernel
theorem dX1_setDay_1 : decode cX1_setDay 1 = .ok (.invokestatic 49, 3) := by decide +kernel
theorem dX1_setDay_4 : decode cX1_setDay 4 = .ok (.ifCond .eq 48, 3) := by decide +kernel
theorem dX1_setDay_7 : decode cX1_setDay 7 = .ok (.iload_n 2, 1) := by decide +kernel
theorem dX1_setDay_8 : decode cX1_setDay 8 = .ok (.ifCond .lt 44, 3) := by decide +kernel
theorem dX1_setDay_11 : decode cX1_setDay 11 = .ok (.iload_n 2, 1) := by decide +kernel
theorem dX1_setDay_12 : decode cX1_setDay 12 = .ok (.bipush 30, 2) := by decide +kernel
theorem dX1_setDay_14 : decode cX1_setDay 14 = .ok (.if_icmp .ge 38, 3) := by decide +kernel
theorem dX1_setDay_17 : decode cX1_setDay 17 = .ok (.aload_n 0, 1) := by decide +kernel
theorem dX1_setDay_18 : decode cX1_setDay 18 = .ok (.getfield 24, 3) := by decide +kernel
theorem dX1_setDay_21 : decode cX1_setDay 21 = .ok (.iload_n 1, 1) := by decide +kernel
theorem dX1_setDay_22 : decode cX1_setDay 22 = .ok (.iload_n 3, 1) := by decide +kernel
theorem dX1_setDay_23 : decode cX1_setDay 23 = .ok (.ifCond .eq 16, 3) := by decide +kernel
theorem dX1_setDay_26 : decode cX1_setDay 26 = .ok (.aload_n 0, 1) := by decide +kernel
theorem dX1_setDay_27 : decode cX1_setDay 27 = .ok (.getfield 24, 3) := by decide +kernel
theorem dX1_setDay_30 : decode cX1_setDay 30 = .ok (.iload_n 1, 1) := by decide +kernel
theorem dX1_setDay_31 : decode cX1_setDay 31 = .ok (.iaload, 1) := by decide +kernel
theorem dX1_setDay_32 : decode cX1_setDay 32 = .ok (.iconst 1, 1) := by decide +kernel
theorem dX1_setDay_33 : decode cX1_setDay 33 = .ok (.iload_n 2, 1) := by decide +kernel
theorem dX1_setDay_34 : decode cX1_setDay 34 = .ok (.ishl, 1) := by decide +kernel
theorem dX1_setDay_35 : decode cX1_setDay 35 = .ok (.ior, 1) := by decide +kernel
theorem dX1_setDay_36 : decode cX1_setDay 36 = .ok (.goto 15, 3) := by decide +kernel
theorem dX1_setDay_39 : decode cX1_setDay 39 = .ok (.aload_n 0, 1) := by decide +kernel
theorem dX1_setDay_40 : decode cX1_setDay 40 = .ok (.getfield 24, 3) := by decide +kernel
theorem dX1_setDay_43 : decode cX1_setDay 43 = .ok (.iload_n 1, 1) := by decide +kernel
theorem dX1_setDay_44 : decode cX1_setDay 44 = .ok (.iaload, 1) := by decide +kernel
theorem dX1_setDay_45 : decode cX1_setDay 45 = .ok (.iconst 1, 1) := by decide +kernel
theorem dX1_setDay_46 : decode cX1_setDay 46 = .ok (.iload_n 2, 1) := by decide +kernel
theorem dX1_setDay_47 : decode cX1_setDay 47 = .ok (.ishl, 1) := by decide +kernel
theorem dX1_setDay_48 : decode cX1_setDay 48 = .ok (.iconst (-1), 1) := by decide +kernel
theorem dX1_setDay_49 : decode cX1_setDay 49 = .ok (.ixor, 1) := by decide +kernel
theorem dX1_setDay_50 : decode cX1_setDay 50 = .ok (.iand, 1) := by decide +kernel
theorem dX1_setDay_51 : decode cX1_setDay 51 = .ok (.iastore, 1) := by decide +kernel
theorem dX1_setDay_52 : decode cX1_setDay 52 = .ok (.return_, 1) := by decide +kernel
theorem dX1_setTorn_0 : decode cX1_setTorn 0 = .ok (.iload_n 1, 1) := by decide +kernel
theorem dX1_setTorn_1 : decode cX1_setTorn 1 = .ok (.invokestatic 49, 3) := by decide +kernel
theorem dX1_setTorn_4 : decode cX1_setTorn 4 = .ok (.ifCond .eq 10, 3) := by decide +kernel
theorem dX1_setTorn_7 : decode cX1_setTorn 7 = .ok (.aload_n 0, 1) := by decide +kernel
theorem dX1_setTorn_8 : decode cX1_setTorn 8 = .ok (.getfield 17, 3) := by decide +kernel
theorem dX1_setTorn_11 : decode cX1_setTorn 11 = .ok (.iload_n 1, 1) := by decide +kernel
theorem dX1_setTorn_12 : decode cX1_setTorn 12 = .ok (.iconst 3, 1) := by decide +kernel
theorem dX1_setTorn_13 : decode cX1_setTorn 13 = .ok (.iastore, 1) := by decide +kernel
theorem dX1_setTorn_14 : decode cX1_setTorn 14 = .ok (.return_, 1) := by decide +kernel
theorem dX1_copyRow_0 : decode cX1_copyRow 0 = .ok (.iload_n 2, 1) := by decide +kernel
theorem dX1_copyRow_1 : decode cX1_copyRow 1 = .ok (.invokestatic 49, 3) := by decide +kernel
theorem dX1_copyRow_4 : decode cX1_copyRow 4 = .ok (.ifCond .eq 46, 3) := by decide +kernel
theorem dX1_copyRow_7 : decode cX1_copyRow 7 = .ok (.iload_n 3, 1) := by decide +kernel
theorem dX1_copyRow_8 : decode cX1_copyRow 8 = .ok (.invokestatic 49, 3) := by decide +kernel
theorem dX1_copyRow_11 : decode cX1_copyRow 11 = .ok (.ifCond .eq 39, 3) := by decide +kernel
theorem dX1_copyRow_14 : decode cX1_copyRow 14 = .ok (.aload_n 0, 1) := by decide +kernel
theorem dX1_copyRow_15 : decode cX1_copyRow 15 = .ok (.getfield 17, 3) := by decide +kernel
theorem dX1_copyRow_18 : decode cX1_copyRow 18 = .ok (.iload_n 3, 1) := by decide +kernel
theorem dX1_copyRow_19 : decode cX1_copyRow 19 = .ok (.aload_n 1, 1) := by decide +kernel
theorem dX1_copyRow_20 : decode cX1_copyRow 20 = .ok (.getfield 17, 3) := by decide +kernel
theorem dX1_copyRow_23 : decode cX1_copyRow 23 = .ok (.iload_n 2, 1) := by decide +kernel
theorem dX1_copyRow_24 : decode cX1_copyRow 24 = .ok (.iaload, 1) := by decide +kernel
theorem dX1_copyRow_25 : decode cX1_copyRow 25 = .ok (.iastore, 1) := by decide +kernel
theorem dX1_copyRow_26 : decode cX1_copyRow 26 = .ok (.aload_n 0, 1) := by decide +kernel
theorem dX1_copyRow_27 : decode cX1_copyRow 27 = .ok (.getfield 21, 3) := by decide +kernel
theorem dX1_copyRow_30 : decode cX1_copyRow 30 = .ok (.iload_n 3, 1) := by decide +kernel
theorem dX1_copyRow_31 : decode cX1_copyRow 31 = .ok (.aload_n 1, 1) := by decide +kernel
theorem dX1_copyRow_32 : decode cX1_copyRow 32 = .ok (.getfield 21, 3) := by decide +kernel
theorem dX1_copyRow_35 : decode cX1_copyRow 35 = .ok (.iload_n 2, 1) := by decide +kernel
theorem dX1_copyRow_36 : decode cX1_copyRow 36 = .ok (.iaload, 1) := by decide +kernel
theorem dX1_copyRow_37 : decode cX1_copyRow 37 = .ok (.iastore, 1) := by decide +kernel
theorem dX1_copyRow_38 : decode cX1_copyRow 38 = .ok (.aload_n 0, 1) := by decide +kernel
theorem dX1_copyRow_39 : decode cX1_copyRow 39 = .ok (.getfield 24, 3) := by decide +kernel
theorem dX1_copyRow_42 : decode cX1_copyRow 42 = .ok (.iload_n 3, 1) := by decide +kernel
theorem dX1_copyRow_43 : decode cX1_copyRow 43 = .ok (.aload_n 1, 1) := by decide +kernel
theorem dX1_copyRow_44 : decode cX1_copyRow 44 = .ok (.getfield 24, 3) := by decide +kernel
theorem dX1_copyRow_47 : decode cX1_copyRow 47 = .ok (.iload_n 2, 1) := by decide +kernel
theorem dX1_copyRow_48 : decode cX1_copyRow 48 = .ok (.iaload, 1) := by decide +kernel
theorem dX1_copyRow_49 : decode cX1_copyRow 49 = .ok (.iastore, 1) := by decide +kernel
theorem dX1_copyRow_50 : decode cX1_copyRow 50 = .ok (.return_, 1) := by decide +kernel
theorem dX2_init_0 : decode cX2_init 0 = .ok (.aload_n 0, 1) := by decide +kernel
theorem dX2_init_1 : decode cX2_init 1 = .ok (.invokespecial 3, 3) := by decide +kernel
theorem dX2_init_4 : decode cX2_init 4 = .ok (.aload_n 0, 1) := by decide +kernel
theorem dX2_init_5 : decode cX2_init 5 = .ok (.iconst 0, 1) := by decide +kernel
theorem dX2_init_6 : decode cX2_init 6 = .ok (.putfield 9, 3) := by decide +kernel
theorem dX2_init_9 : decode cX2_init 9 = .ok (.aload_n 0, 1) := by decide +kernel
theorem dX2_init_10 : decode cX2_init 10 = .ok (.iconst 0, 1) := by decide +kernel
theorem dX2_init_11 : decode cX2_init 11 = .ok (.putfield 15, 3) := by decide +kernel
theorem dX2_init_14 : decode cX2_init 14 = .ok (.aload_n 0, 1) := by decide +kernel
theorem dX2_init_15 : decode cX2_init 15 = .ok (.iconst 0, 1) := by decide +kernel
theorem dX2_init_16 : decode cX2_init 16 = .ok (.putfield 18, 3) := by decide +kernel
theorem dX2_init_19 : decode cX2_init 19 = .ok (.aload_n 0, 1) := by decide +kernel
theorem dX2_init_20 : decode cX2_init 20 = .ok (.iconst 0, 1) := by decide +kernel
theorem dX2_init_21 : decode cX2_init 21 = .ok (.putfield 21, 3) := by decide +kernel
theorem dX2_init_24 : decode cX2_init 24 = .ok (.aload_n 0, 1) := by decide +kernel
theorem dX2_init_25 : decode cX2_init 25 = .ok (.iconst 0, 1) := by decide +kernel
theorem dX2_init_26 : decode cX2_init 26 = .ok (.putfield 24, 3) := by decide +kernel
theorem dX2_init_29 : decode cX2_init 29 = .ok (.aload_n 0, 1) := by decide +kernel
theorem dX2_init_30 : decode cX2_init 30 = .ok (.iconst (-1), 1) := by decide +kernel
theorem dX2_init_31 : decode cX2_init 31 = .ok (.putfield 27, 3) := by decide +kernel
theorem dX2_init_34 : decode cX2_init 34 = .ok (.aload_n 0, 1) := by decide +kernel
theorem dX2_init_35 : decode cX2_init 35 = .ok (.iconst 0, 1) := by decide +kernel
theorem dX2_init_36 : decode cX2_init 36 = .ok (.putfield 30, 3) := by decide +kernel
theorem dX2_init_39 : decode cX2_init 39 = .ok (.aload_n 0, 1) := by decide +kernel
theorem dX2_init_40 : decode cX2_init 40 = .ok (.iconst 0, 1) := by decide +kernel
theorem dX2_init_41 : decode cX2_init 41 = .ok (.putfield 33, 3) := by decide +kernel
theorem dX2_init_44 : decode cX2_init 44 = .ok (.aload_n 0, 1) := by decide +kernel
theorem dX2_init_45 : decode cX2_init 45 = .ok (.iconst 0, 1) := by decide +kernel
theorem dX2_init_46 : decode cX2_init 46 = .ok (.putfield 36, 3) := by decide +kernel
theorem dX2_init_49 : decode cX2_init 49 = .ok (.return_, 1) := by decide +kernel
theorem dX2_wipe_0 : decode cX2_wipe 0 = .ok (.aload_n 0, 1) := by decide +kernel
theorem dX2_wipe_1 : decode cX2_wipe 1 = .ok (.iconst 0, 1) := by decide +kernel
theorem dX2_wipe_2 : decode cX2_wipe 2 = .ok (.putfield 9, 3) := by decide +kernel
theorem dX2_wipe_5 : decode cX2_wipe 5 = .ok (.aload_n 0, 1) := by decide +kernel
theorem dX2_wipe_6 : decode cX2_wipe 6 = .ok (.iconst 0, 1) := by decide +kernel
theorem dX2_wipe_7 : decode cX2_wipe 7 = .ok (.putfield 15, 3) := by decide +kernel
theorem dX2_wipe_10 : decode cX2_wipe 10 = .ok (.aload_n 0, 1) := by decide +kernel
theorem dX2_wipe_11 : decode cX2_wipe 11 = .ok (.iconst 0, 1) := by decide +kernel
theorem dX2_wipe_12 : decode cX2_wipe 12 = .ok (.putfield 18, 3) := by decide +kernel
theorem dX2_wipe_15 : decode cX2_wipe 15 = .ok (.aload_n 0, 1) := by decide +kernel
theorem dX2_wipe_16 : decode cX2_wipe 16 = .ok (.iconst 0, 1) := by decide +kernel
theorem dX2_wipe_17 : decode cX2_wipe 17 = .ok (.putfield 21, 3) := by decide +kernel
theorem dX2_wipe_20 : decode cX2_wipe 20 = .ok (.aload_n 0, 1) := by decide +kernel
theorem dX2_wipe_21 : decode cX2_wipe 21 = .ok (.iconst 0, 1) := by decide +kernel
theorem dX2_wipe_22 : decode cX2_wipe 22 = .ok (.putfield 24, 3) := by decide +kernel
theorem dX2_wipe_25 : decode cX2_wipe 25 = .ok (.aload_n 0, 1) := by decide +kernel
theorem dX2_wipe_26 : decode cX2_wipe 26 = .ok (.iconst (-1), 1) := by decide +kernel
theorem dX2_wipe_27 : decode cX2_wipe 27 = .ok (.putfield 27, 3) := by decide +kernel
theorem dX2_wipe_30 : decode cX2_wipe 30 = .ok (.aload_n 0, 1) := by decide +kernel
theorem dX2_wipe_31 : decode cX2_wipe 31 = .ok (.iconst 0, 1) := by decide +kernel
theorem dX2_wipe_32 : decode cX2_wipe 32 = .ok (.putfield 30, 3) := by decide +kernel
theorem dX2_wipe_35 : decode cX2_wipe 35 = .ok (.aload_n 0, 1) := by decide +kernel
theorem dX2_wipe_36 : decode cX2_wipe 36 = .ok (.iconst 0, 1) := by decide +kernel
theorem dX2_wipe_37 : decode cX2_wipe 37 = .ok (.putfield 33, 3) := by decide +kernel
theorem dX2_wipe_40 : decode cX2_wipe 40 = .ok (.aload_n 0, 1) := by decide +kernel
theorem dX2_wipe_41 : decode cX2_wipe 41 = .ok (.iconst 0, 1) := by decide +kernel
theorem dX2_wipe_42 : decode cX2_wipe 42 = .ok (.putfield 36, 3) := by decide +kernel
theorem dX2_wipe_45 : decode cX2_wipe 45 = .ok (.return_, 1) := by decide +kernel
theorem dX2_runs_0 : decode cX2_runs 0 = .ok (.aload_n 0, 1) := by decide +kernel
theorem dX2_runs_1 : decode cX2_runs 1 = .ok (.getfield 9, 3) := by decide +kernel
theorem dX2_runs_4 : decode cX2_runs 4 = .ok (.iconst 2, 1) := by decide +kernel
theorem dX2_runs_5 : decode cX2_runs 5 = .ok (.if_icmp .lt 15, 3) := by decide +kernel
theorem dX2_runs_8 : decode cX2_runs 8 = .ok (.aload_n 0, 1) := by decide +kernel
theorem dX2_runs_9 : decode cX2_runs 9 = .ok (.getfield 9, 3) := by decide +kernel
theorem dX2_runs_12 : decode cX2_runs 12 = .ok (.iconst 5, 1) := by decide +kernel
theorem dX2_runs_13 : decode cX2_runs 13 = .ok (.if_icmp .gt 7, 3) := by decide +kernel
theorem dX2_runs_16 : decode cX2_runs 16 = .ok (.iconst 1, 1) := by decide +kernel
theorem dX2_runs_17 : decode cX2_runs 17 = .ok (.goto 4, 3) := by decide +kernel
theorem dX2_runs_20 : decode cX2_runs 20 = .ok (.iconst 0, 1) := by decide +kernel
theorem dX2_runs_21 : decode cX2_runs 21 = .ok (.ireturn, 1) := by decide +kernel
theorem dX2_isQuashed_0 : decode cX2_isQuashed 0 = .ok (.aload_n 0, 1) := by decide +kernel
theorem dX2_isQuashed_1 : decode cX2_isQuashed 1 = .ok (.getfield 27, 3) := by decide +kernel
theorem dX2_isQuashed_4 : decode cX2_isQuashed 4 = .ok (.iconst (-1), 1) := by decide +kernel
theorem dX2_isQuashed_5 : decode cX2_isQuashed 5 = .ok (.if_icmp .eq 7, 3) := by decide +kernel
theorem dX2_isQuashed_8 : decode cX2_isQuashed 8 = .ok (.iconst 1, 1) := by decide +kernel
theorem dX2_isQuashed_9 : decode cX2_isQuashed 9 = .ok (.goto 4, 3) := by decide +kernel
theorem dX2_isQuashed_12 : decode cX2_isQuashed 12 = .ok (.iconst 0, 1) := by decide +kernel
theorem dX2_isQuashed_13 : decode cX2_isQuashed 13 = .ok (.ireturn, 1) := by decide +kernel
theorem dX2_stands_0 : decode cX2_stands 0 = .ok (.aload_n 0, 1) := by decide +kernel
theorem dX2_stands_1 : decode cX2_stands 1 = .ok (.invokevirtual 39, 3) := by decide +kernel
theorem dX2_stands_4 : decode cX2_stands 4 = .ok (.ifCond .eq 14, 3) := by decide +kernel
theorem dX2_stands_7 : decode cX2_stands 7 = .ok (.aload_n 0, 1) := by decide +kernel
theorem dX2_stands_8 : decode cX2_stands 8 = .ok (.invokevirtual 43, 3) := by decide +kernel
theorem dX2_stands_11 : decode cX2_stands 11 = .ok (.ifCond .ne 7, 3) := by decide +kernel
theorem dX2_stands_14 : decode cX2_stands 14 = .ok (.iconst 1, 1) := by decide +kernel
theorem dX2_stands_15 : decode cX2_stands 15 = .ok (.goto 4, 3) := by decide +kernel
theorem dX2_stands_18 : decode cX2_stands 18 = .ok (.iconst 0, 1) := by decide +kernel
theorem dX2_stands_19 : decode cX2_stands 19 = .ok (.ireturn, 1) := by decide +kernel
theorem dX2_mayHaveRule_0 : decode cX2_mayHaveRule 0 = .ok (.aload_n 0, 1) := by decide +kernel
theorem dX2_mayHaveRule_1 : decode cX2_mayHaveRule 1 = .ok (.invokevirtual 46, 3) := by decide +kernel
theorem dX2_mayHaveRule_4 : decode cX2_mayHaveRule 4 = .ok (.ifCond .eq 15, 3) := by decide +kernel
theorem dX2_mayHaveRule_7 : decode cX2_mayHaveRule 7 = .ok (.aload_n 0, 1) := by decide +kernel
theorem dX2_mayHaveRule_8 : decode cX2_mayHaveRule 8 = .ok (.getfield 9, 3) := by decide +kernel
theorem dX2_mayHaveRule_11 : decode cX2_mayHaveRule 11 = .ok (.iconst 5, 1) := by decide +kernel
theorem dX2_mayHaveRule_12 : decode cX2_mayHaveRule 12 = .ok (.if_icmp .eq 7, 3) := by decide +kernel
theorem dX2_mayHaveRule_15 : decode cX2_mayHaveRule 15 = .ok (.iconst 1, 1) := by decide +kernel
theorem dX2_mayHaveRule_16 : decode cX2_mayHaveRule 16 = .ok (.goto 4, 3) := by decide +kernel
theorem dX2_mayHaveRule_19 : decode cX2_mayHaveRule 19 = .ok (.iconst 0, 1) := by decide +kernel
theorem dX2_mayHaveRule_20 : decode cX2_mayHaveRule 20 = .ok (.ireturn, 1) := by decide +kernel
theorem dX2_isFor_0 : decode cX2_isFor 0 = .ok (.aload_n 0, 1) := by decide +kernel
theorem dX2_isFor_1 : decode cX2_isFor 1 = .ok (.getfield 9, 3) := by decide +kernel
theorem dX2_isFor_4 : decode cX2_isFor 4 = .ok (.iload_n 1, 1) := by decide +kernel
theorem dX2_isFor_5 : decode cX2_isFor 5 = .ok (.if_icmp .ne 25, 3) := by decide +kernel
theorem dX2_isFor_8 : decode cX2_isFor 8 = .ok (.aload_n 0, 1) := by decide +kernel
theorem dX2_isFor_9 : decode cX2_isFor 9 = .ok (.invokevirtual 43, 3) := by decide +kernel
theorem dX2_isFor_12 : decode cX2_isFor 12 = .ok (.ifCond .ne 18, 3) := by decide +kernel
theorem dX2_isFor_15 : decode cX2_isFor 15 = .ok (.aload_n 0, 1) := by decide +kernel
theorem dX2_isFor_16 : decode cX2_isFor 16 = .ok (.getfield 24, 3) := by decide +kernel
theorem dX2_isFor_19 : decode cX2_isFor 19 = .ok (.iload_n 2, 1) := by decide +kernel
theorem dX2_isFor_20 : decode cX2_isFor 20 = .ok (.invokestatic 49, 3) := by decide +kernel
theorem dX2_isFor_23 : decode cX2_isFor 23 = .ok (.ifCond .eq 7, 3) := by decide +kernel
theorem dX2_isFor_26 : decode cX2_isFor 26 = .ok (.iconst 1, 1) := by decide +kernel
theorem dX2_isFor_27 : decode cX2_isFor 27 = .ok (.goto 4, 3) := by decide +kernel
theorem dX2_isFor_30 : decode cX2_isFor 30 = .ok (.iconst 0, 1) := by decide +kernel
theorem dX2_isFor_31 : decode cX2_isFor 31 = .ok (.ireturn, 1) := by decide +kernel
theorem dX2_mostTaken_0 : decode cX2_mostTaken 0 = .ok (.aload_n 0, 1) := by decide +kernel
theorem dX2_mostTaken_1 : decode cX2_mostTaken 1 = .ok (.getfield 21, 3) := by decide +kernel
theorem dX2_mostTaken_4 : decode cX2_mostTaken 4 = .ok (.aload_n 0, 1) := by decide +kernel
theorem dX2_mostTaken_5 : decode cX2_mostTaken 5 = .ok (.getfield 21, 3) := by decide +kernel
theorem dX2_mostTaken_8 : decode cX2_mostTaken 8 = .ok (.aload_n 0, 1) := by decide +kernel
theorem dX2_mostTaken_9 : decode cX2_mostTaken 9 = .ok (.getfield 33, 3) := by decide +kernel
theorem dX2_mostTaken_12 : decode cX2_mostTaken 12 = .ok (.invokestatic 53, 3) := by decide +kernel
theorem dX2_mostTaken_15 : decode cX2_mostTaken 15 = .ok (.isub, 1) := by decide +kernel
theorem dX2_mostTaken_16 : decode cX2_mostTaken 16 = .ok (.ireturn, 1) := by decide +kernel
theorem dX3_init_0 : decode cX3_init 0 = .ok (.aload_n 0, 1) := by decide +kernel
theorem dX3_init_1 : decode cX3_init 1 = .ok (.invokespecial 3, 3) := by decide +kernel
theorem dX3_init_4 : decode cX3_init 4 = .ok (.aload_n 0, 1) := by decide +kernel
theorem dX3_init_5 : decode cX3_init 5 = .ok (.bipush 12, 2) := by decide +kernel
theorem dX3_init_7 : decode cX3_init 7 = .ok (.newarray .int, 2) := by decide +kernel
theorem dX3_init_9 : decode cX3_init 9 = .ok (.putfield 9, 3) := by decide +kernel
theorem dX3_init_12 : decode cX3_init 12 = .ok (.aload_n 0, 1) := by decide +kernel
theorem dX3_init_13 : decode cX3_init 13 = .ok (.bipush 12, 2) := by decide +kernel
theorem dX3_init_15 : decode cX3_init 15 = .ok (.newarray .int, 2) := by decide +kernel
theorem dX3_init_17 : decode cX3_init 17 = .ok (.putfield 15, 3) := by decide +kernel
theorem dX3_init_20 : decode cX3_init 20 = .ok (.aload_n 0, 1) := by decide +kernel
theorem dX3_init_21 : decode cX3_init 21 = .ok (.sipush 1440, 3) := by decide +kernel
theorem dX3_init_24 : decode cX3_init 24 = .ok (.newarray .int, 2) := by decide +kernel
theorem dX3_init_26 : decode cX3_init 26 = .ok (.putfield 18, 3) := by decide +kernel
theorem dX3_init_29 : decode cX3_init 29 = .ok (.aload_n 0, 1) := by decide +kernel
theorem dX3_init_30 : decode cX3_init 30 = .ok (.bipush 120, 2) := by decide +kernel
theorem dX3_init_32 : decode cX3_init 32 = .ok (.newarray .int, 2) := by decide +kernel
theorem dX3_init_34 : decode cX3_init 34 = .ok (.putfield 21, 3) := by decide +kernel
theorem dX3_init_37 : decode cX3_init 37 = .ok (.aload_n 0, 1) := by decide +kernel
theorem dX3_init_38 : decode cX3_init 38 = .ok (.bipush 120, 2) := by decide +kernel
theorem dX3_init_40 : decode cX3_init 40 = .ok (.newarray .int, 2) := by decide +kernel
theorem dX3_init_42 : decode cX3_init 42 = .ok (.putfield 24, 3) := by decide +kernel
theorem dX3_init_45 : decode cX3_init 45 = .ok (.aload_n 0, 1) := by decide +kernel
theorem dX3_init_46 : decode cX3_init 46 = .ok (.new 27, 3) := by decide +kernel
theorem dX3_init_49 : decode cX3_init 49 = .ok (.dup, 1) := by decide +kernel
theorem dX3_init_50 : decode cX3_init 50 = .ok (.invokespecial 29, 3) := by decide +kernel
theorem dX3_init_53 : decode cX3_init 53 = .ok (.putfield 30, 3) := by decide +kernel
theorem dX3_init_56 : decode cX3_init 56 = .ok (.aload_n 0, 1) := by decide +kernel
theorem dX3_init_57 : decode cX3_init 57 = .ok (.iconst 0, 1) := by decide +kernel
theorem dX3_init_58 : decode cX3_init 58 = .ok (.putfield 34, 3) := by decide +kernel
theorem dX3_init_61 : decode cX3_init 61 = .ok (.return_, 1) := by decide +kernel
theorem dX3_beginOf_0 : decode cX3_beginOf 0 = .ok (.iload_n 1, 1) := by decide +kernel
theorem dX3_beginOf_1 : decode cX3_beginOf 1 = .ok (.invokestatic 38, 3) := by decide +kernel
theorem dX3_beginOf_4 : decode cX3_beginOf 4 = .ok (.ifCond .eq 12, 3) := by decide +kernel
theorem dX3_beginOf_7 : decode cX3_beginOf 7 = .ok (.aload_n 0, 1) := by decide +kernel
theorem dX3_beginOf_8 : decode cX3_beginOf 8 = .ok (.getfield 9, 3) := by decide +kernel
theorem dX3_beginOf_11 : decode cX3_beginOf 11 = .ok (.iload_n 1, 1) := by decide +kernel
theorem dX3_beginOf_12 : decode cX3_beginOf 12 = .ok (.iaload, 1) := by decide +kernel
theorem dX3_beginOf_13 : decode cX3_beginOf 13 = .ok (.goto 5, 3) := by decide +kernel
theorem dX3_beginOf_16 : decode cX3_beginOf 16 = .ok (.ldc 42, 2) := by decide +kernel
theorem dX3_beginOf_18 : decode cX3_beginOf 18 = .ok (.ireturn, 1) := by decide +kernel
theorem dX3_endOf_0 : decode cX3_endOf 0 = .ok (.iload_n 1, 1) := by decide +kernel
theorem dX3_endOf_1 : decode cX3_endOf 1 = .ok (.invokestatic 38, 3) := by decide +kernel
theorem dX3_endOf_4 : decode cX3_endOf 4 = .ok (.ifCond .eq 12, 3) := by decide +kernel
theorem dX3_endOf_7 : decode cX3_endOf 7 = .ok (.aload_n 0, 1) := by decide +kernel
theorem dX3_endOf_8 : decode cX3_endOf 8 = .ok (.getfield 15, 3) := by decide +kernel
theorem dX3_endOf_11 : decode cX3_endOf 11 = .ok (.iload_n 1, 1) := by decide +kernel
theorem dX3_endOf_12 : decode cX3_endOf 12 = .ok (.iaload, 1) := by decide +kernel
theorem dX3_endOf_13 : decode cX3_endOf 13 = .ok (.goto 5, 3) := by decide +kernel
theorem dX3_endOf_16 : decode cX3_endOf 16 = .ok (.ldc 42, 2) := by decide +kernel
theorem dX3_endOf_18 : decode cX3_endOf 18 = .ok (.ireturn, 1) := by decide +kernel
theorem dX3_reckon_0 : decode cX3_reckon 0 = .ok (.aload_n 0, 1) := by decide +kernel
theorem dX3_reckon_1 : decode cX3_reckon 1 = .ok (.iconst 0, 1) := by decide +kernel
theorem dX3_reckon_2 : decode cX3_reckon 2 = .ok (.putfield 34, 3) := by decide +kernel
theorem dX3_reckon_5 : decode cX3_reckon 5 = .ok (.iconst 0, 1) := by decide +kernel
theorem dX3_reckon_6 : decode cX3_reckon 6 = .ok (.istore_n 3, 1) := by decide +kernel
theorem dX3_reckon_7 : decode cX3_reckon 7 = .ok (.iload_n 3, 1) := by decide +kernel
theorem dX3_reckon_8 : decode cX3_reckon 8 = .ok (.bipush 12, 2) := by decide +kernel
theorem dX3_reckon_10 : decode cX3_reckon 10 = .ok (.if_icmp .ge 57, 3) := by decide +kernel
theorem dX3_reckon_13 : decode cX3_reckon 13 = .ok (.aload_n 0, 1) := by decide +kernel
theorem dX3_reckon_14 : decode cX3_reckon 14 = .ok (.getfield 9, 3) := by decide +kernel
theorem dX3_reckon_17 : decode cX3_reckon 17 = .ok (.iload_n 3, 1) := by decide +kernel
theorem dX3_reckon_18 : decode cX3_reckon 18 = .ok (.ldc 42, 2) := by decide +kernel
theorem dX3_reckon_20 : decode cX3_reckon 20 = .ok (.iastore, 1) := by decide +kernel
theorem dX3_reckon_21 : decode cX3_reckon 21 = .ok (.aload_n 0, 1) := by decide +kernel
theorem dX3_reckon_22 : decode cX3_reckon 22 = .ok (.getfield 15, 3) := by decide +kernel
theorem dX3_reckon_25 : decode cX3_reckon 25 = .ok (.iload_n 3, 1) := by decide +kernel
theorem dX3_reckon_26 : decode cX3_reckon 26 = .ok (.ldc 42, 2) := by decide +kernel
theorem dX3_reckon_28 : decode cX3_reckon 28 = .ok (.iastore, 1) := by decide +kernel
theorem dX3_reckon_29 : decode cX3_reckon 29 = .ok (.aload_n 1, 1) := by decide +kernel
theorem dX3_reckon_30 : decode cX3_reckon 30 = .ok (.iload_n 3, 1) := by decide +kernel
theorem dX3_reckon_31 : decode cX3_reckon 31 = .ok (.invokevirtual 43, 3) := by decide +kernel
theorem dX3_reckon_34 : decode cX3_reckon 34 = .ok (.astore 4, 2) := by decide +kernel
theorem dX3_reckon_36 : decode cX3_reckon 36 = .ok (.aload 4, 2) := by decide +kernel
theorem dX3_reckon_38 : decode cX3_reckon 38 = .ok (.ifnull 23, 3) := by decide +kernel
theorem dX3_reckon_41 : decode cX3_reckon 41 = .ok (.aload 4, 2) := by decide +kernel
theorem dX3_reckon_43 : decode cX3_reckon 43 = .ok (.invokevirtual 49, 3) := by decide +kernel
theorem dX3_reckon_46 : decode cX3_reckon 46 = .ok (.ifCond .eq 15, 3) := by decide +kernel
theorem dX3_reckon_49 : decode cX3_reckon 49 = .ok (.aload_n 0, 1) := by decide +kernel
theorem dX3_reckon_50 : decode cX3_reckon 50 = .ok (.dup, 1) := by decide +kernel
theorem dX3_reckon_51 : decode cX3_reckon 51 = .ok (.getfield 34, 3) := by decide +kernel
theorem dX3_reckon_54 : decode cX3_reckon 54 = .ok (.iconst 1, 1) := by decide +kernel
theorem dX3_reckon_55 : decode cX3_reckon 55 = .ok (.iload_n 3, 1) := by decide +kernel
theorem dX3_reckon_56 : decode cX3_reckon 56 = .ok (.ishl, 1) := by decide +kernel
theorem dX3_reckon_57 : decode cX3_reckon 57 = .ok (.ior, 1) := by decide +kernel
theorem dX3_reckon_58 : decode cX3_reckon 58 = .ok (.putfield 34, 3) := by decide +kernel
theorem dX3_reckon_61 : decode cX3_reckon 61 = .ok (.iinc 3 1, 3) := by decide +kernel
theorem dX3_reckon_64 : decode cX3_reckon 64 = .ok (.goto (-57), 3) := by decide +kernel
theorem dX3_reckon_67 : decode cX3_reckon 67 = .ok (.aload_n 0, 1) := by decide +kernel
theorem dX3_reckon_68 : decode cX3_reckon 68 = .ok (.getfield 34, 3) := by decide +kernel
theorem dX3_reckon_71 : decode cX3_reckon 71 = .ok (.istore_n 3, 1) := by decide +kernel
theorem dX3_reckon_72 : decode cX3_reckon 72 = .ok (.iconst 0, 1) := by decide +kernel
theorem dX3_reckon_73 : decode cX3_reckon 73 = .ok (.istore 4, 2) := by decide +kernel
theorem dX3_reckon_75 : decode cX3_reckon 75 = .ok (.iload 4, 2) := by decide +kernel
theorem dX3_reckon_77 : decode cX3_reckon 77 = .ok (.bipush 12, 2) := by decide +kernel
theorem dX3_reckon_79 : decode cX3_reckon 79 = .ok (.if_icmp .ge 80, 3) := by decide +kernel
theorem dX3_reckon_82 : decode cX3_reckon 82 = .ok (.iload_n 3, 1) := by decide +kernel
theorem dX3_reckon_83 : decode cX3_reckon 83 = .ok (.ifCond .eq 76, 3) := by decide +kernel
theorem dX3_reckon_86 : decode cX3_reckon 86 = .ok (.iconst 0, 1) := by decide +kernel
theorem dX3_reckon_87 : decode cX3_reckon 87 = .ok (.istore 5, 2) := by decide +kernel
theorem dX3_reckon_89 : decode cX3_reckon 89 = .ok (.iload 5, 2) := by decide +kernel
theorem dX3_reckon_91 : decode cX3_reckon 91 = .ok (.bipush 12, 2) := by decide +kernel
theorem dX3_reckon_93 : decode cX3_reckon 93 = .ok (.if_icmp .ge 60, 3) := by decide +kernel
theorem dX3_reckon_96 : decode cX3_reckon 96 = .ok (.aload_n 1, 1) := by decide +kernel
theorem dX3_reckon_97 : decode cX3_reckon 97 = .ok (.iload 5, 2) := by decide +kernel
theorem dX3_reckon_99 : decode cX3_reckon 99 = .ok (.invokevirtual 43, 3) := by decide +kernel
theorem dX3_reckon_102 : decode cX3_reckon 102 = .ok (.astore 6, 2) := by decide +kernel
theorem dX3_reckon_104 : decode cX3_reckon 104 = .ok (.aload 6, 2) := by decide +kernel
theorem dX3_reckon_106 : decode cX3_reckon 106 = .ok (.ifnull 41, 3) := by decide +kernel
theorem dX3_reckon_109 : decode cX3_reckon 109 = .ok (.iload_n 3, 1) := by decide +kernel
theorem dX3_reckon_110 : decode cX3_reckon 110 = .ok (.iload 5, 2) := by decide +kernel
theorem dX3_reckon_112 : decode cX3_reckon 112 = .ok (.invokestatic 55, 3) := by decide +kernel
theorem dX3_reckon_115 : decode cX3_reckon 115 = .ok (.ifCond .eq 32, 3) := by decide +kernel
theorem dX3_reckon_118 : decode cX3_reckon 118 = .ok (.aload 6, 2) := by decide +kernel
theorem dX3_reckon_120 : decode cX3_reckon 120 = .ok (.getfield 59, 3) := by decide +kernel
theorem dX3_reckon_123 : decode cX3_reckon 123 = .ok (.iload_n 3, 1) := by decide +kernel
theorem dX3_reckon_124 : decode cX3_reckon 124 = .ok (.iand, 1) := by decide +kernel
theorem dX3_reckon_125 : decode cX3_reckon 125 = .ok (.ifCond .ne 22, 3) := by decide +kernel
theorem dX3_reckon_128 : decode cX3_reckon 128 = .ok (.aload_n 0, 1) := by decide +kernel
theorem dX3_reckon_129 : decode cX3_reckon 129 = .ok (.aload_n 1, 1) := by decide +kernel
theorem dX3_reckon_130 : decode cX3_reckon 130 = .ok (.aload 6, 2) := by decide +kernel
theorem dX3_reckon_132 : decode cX3_reckon 132 = .ok (.iload 5, 2) := by decide +kernel
theorem dX3_reckon_134 : decode cX3_reckon 134 = .ok (.iload_n 2, 1) := by decide +kernel
theorem dX3_reckon_135 : decode cX3_reckon 135 = .ok (.invokevirtual 62, 3) := by decide +kernel
theorem dX3_reckon_138 : decode cX3_reckon 138 = .ok (.iload_n 3, 1) := by decide +kernel
theorem dX3_reckon_139 : decode cX3_reckon 139 = .ok (.iconst 1, 1) := by decide +kernel
theorem dX3_reckon_140 : decode cX3_reckon 140 = .ok (.iload 5, 2) := by decide +kernel
theorem dX3_reckon_142 : decode cX3_reckon 142 = .ok (.ishl, 1) := by decide +kernel
theorem dX3_reckon_143 : decode cX3_reckon 143 = .ok (.iconst (-1), 1) := by decide +kernel
theorem dX3_reckon_144 : decode cX3_reckon 144 = .ok (.ixor, 1) := by decide +kernel
theorem dX3_reckon_145 : decode cX3_reckon 145 = .ok (.iand, 1) := by decide +kernel
theorem dX3_reckon_146 : decode cX3_reckon 146 = .ok (.istore_n 3, 1) := by decide +kernel
theorem dX3_reckon_147 : decode cX3_reckon 147 = .ok (.iinc 5 1, 3) := by decide +kernel
theorem dX3_reckon_150 : decode cX3_reckon 150 = .ok (.goto (-61), 3) := by decide +kernel
theorem dX3_reckon_153 : decode cX3_reckon 153 = .ok (.iinc 4 1, 3) := by decide +kernel
theorem dX3_reckon_156 : decode cX3_reckon 156 = .ok (.goto (-81), 3) := by decide +kernel
theorem dX3_reckon_159 : decode cX3_reckon 159 = .ok (.return_, 1) := by decide +kernel
theorem dX3_reckonPlace_0 : decode cX3_reckonPlace 0 = .ok (.aload_n 2, 1) := by decide +kernel
theorem dX3_reckonPlace_1 : decode cX3_reckonPlace 1 = .ok (.getfield 66, 3) := by decide +kernel
theorem dX3_reckonPlace_4 : decode cX3_reckonPlace 4 = .ok (.iconst 4, 1) := by decide +kernel
theorem dX3_reckonPlace_5 : decode cX3_reckonPlace 5 = .ok (.if_icmp .ne 11, 3) := by decide +kernel
theorem dX3_reckonPlace_8 : decode cX3_reckonPlace 8 = .ok (.aload_n 0, 1) := by decide +kernel
theorem dX3_reckonPlace_9 : decode cX3_reckonPlace 9 = .ok (.aload_n 2, 1) := by decide +kernel
theorem dX3_reckonPlace_10 : decode cX3_reckonPlace 10 = .ok (.invokevirtual 69, 3) := by decide +kernel
theorem dX3_reckonPlace_13 : decode cX3_reckonPlace 13 = .ok (.goto 8, 3) := by decide +kernel
theorem dX3_reckonPlace_16 : decode cX3_reckonPlace 16 = .ok (.aload_n 0, 1) := by decide +kernel
theorem dX3_reckonPlace_17 : decode cX3_reckonPlace 17 = .ok (.aload_n 2, 1) := by decide +kernel
theorem dX3_reckonPlace_18 : decode cX3_reckonPlace 18 = .ok (.invokevirtual 73, 3) := by decide +kernel
theorem dX3_reckonPlace_21 : decode cX3_reckonPlace 21 = .ok (.istore 5, 2) := by decide +kernel
theorem dX3_reckonPlace_23 : decode cX3_reckonPlace 23 = .ok (.iload 5, 2) := by decide +kernel
theorem dX3_reckonPlace_25 : decode cX3_reckonPlace 25 = .ok (.sipush 3600, 3) := by decide +kernel
theorem dX3_reckonPlace_28 : decode cX3_reckonPlace 28 = .ok (.if_icmp .lt 7, 3) := by decide +kernel
theorem dX3_reckonPlace_31 : decode cX3_reckonPlace 31 = .ok (.ldc 42, 2) := by decide +kernel
theorem dX3_reckonPlace_33 : decode cX3_reckonPlace 33 = .ok (.istore 5, 2) := by decide +kernel
theorem dX3_reckonPlace_35 : decode cX3_reckonPlace 35 = .ok (.aload_n 1, 1) := by decide +kernel
theorem dX3_reckonPlace_36 : decode cX3_reckonPlace 36 = .ok (.bipush 6, 2) := by decide +kernel
theorem dX3_reckonPlace_38 : decode cX3_reckonPlace 38 = .ok (.iload_n 3, 1) := by decide +kernel
theorem dX3_reckonPlace_39 : decode cX3_reckonPlace 39 = .ok (.aload_n 0, 1) := by decide +kernel
theorem dX3_reckonPlace_40 : decode cX3_reckonPlace 40 = .ok (.getfield 21, 3) := by decide +kernel
theorem dX3_reckonPlace_43 : decode cX3_reckonPlace 43 = .ok (.invokestatic 76, 3) := by decide +kernel
theorem dX3_reckonPlace_46 : decode cX3_reckonPlace 46 = .ok (.aload_n 1, 1) := by decide +kernel
theorem dX3_reckonPlace_47 : decode cX3_reckonPlace 47 = .ok (.bipush 7, 2) := by decide +kernel
theorem dX3_reckonPlace_49 : decode cX3_reckonPlace 49 = .ok (.iload_n 3, 1) := by decide +kernel
theorem dX3_reckonPlace_50 : decode cX3_reckonPlace 50 = .ok (.aload_n 0, 1) := by decide +kernel
theorem dX3_reckonPlace_51 : decode cX3_reckonPlace 51 = .ok (.getfield 24, 3) := by decide +kernel
theorem dX3_reckonPlace_54 : decode cX3_reckonPlace 54 = .ok (.invokestatic 76, 3) := by decide +kernel
theorem dX3_reckonPlace_57 : decode cX3_reckonPlace 57 = .ok (.aload_n 0, 1) := by decide +kernel
theorem dX3_reckonPlace_58 : decode cX3_reckonPlace 58 = .ok (.getfield 30, 3) := by decide +kernel
theorem dX3_reckonPlace_61 : decode cX3_reckonPlace 61 = .ok (.aload_n 2, 1) := by decide +kernel
theorem dX3_reckonPlace_62 : decode cX3_reckonPlace 62 = .ok (.invokevirtual 80, 3) := by decide +kernel
theorem dX3_reckonPlace_65 : decode cX3_reckonPlace 65 = .ok (.aload_n 2, 1) := by decide +kernel
theorem dX3_reckonPlace_66 : decode cX3_reckonPlace 66 = .ok (.getfield 66, 3) := by decide +kernel
theorem dX3_reckonPlace_69 : decode cX3_reckonPlace 69 = .ok (.iconst 5, 1) := by decide +kernel
theorem dX3_reckonPlace_70 : decode cX3_reckonPlace 70 = .ok (.if_icmp .ne 8, 3) := by decide +kernel
theorem dX3_reckonPlace_73 : decode cX3_reckonPlace 73 = .ok (.ldc 42, 2) := by decide +kernel
theorem dX3_reckonPlace_75 : decode cX3_reckonPlace 75 = .ok (.goto 7, 3) := by decide +kernel
theorem dX3_reckonPlace_78 : decode cX3_reckonPlace 78 = .ok (.aload_n 2, 1) := by decide +kernel
theorem dX3_reckonPlace_79 : decode cX3_reckonPlace 79 = .ok (.getfield 84, 3) := by decide +kernel
theorem dX3_reckonPlace_82 : decode cX3_reckonPlace 82 = .ok (.istore 6, 2) := by decide +kernel
theorem dX3_reckonPlace_84 : decode cX3_reckonPlace 84 = .ok (.ldc 42, 2) := by decide +kernel
theorem dX3_reckonPlace_86 : decode cX3_reckonPlace 86 = .ok (.istore 7, 2) := by decide +kernel
theorem dX3_reckonPlace_88 : decode cX3_reckonPlace 88 = .ok (.iconst 0, 1) := by decide +kernel
theorem dX3_reckonPlace_89 : decode cX3_reckonPlace 89 = .ok (.istore 8, 2) := by decide +kernel
theorem dX3_reckonPlace_91 : decode cX3_reckonPlace 91 = .ok (.iload 8, 2) := by decide +kernel
theorem dX3_reckonPlace_93 : decode cX3_reckonPlace 93 = .ok (.bipush 120, 2) := by decide +kernel
theorem dX3_reckonPlace_95 : decode cX3_reckonPlace 95 = .ok (.if_icmp .ge 116, 3) := by decide +kernel
theorem dX3_reckonPlace_98 : decode cX3_reckonPlace 98 = .ok (.iload 8, 2) := by decide +kernel
theorem dX3_reckonPlace_100 : decode cX3_reckonPlace 100 = .ok (.bipush 30, 2) := by decide +kernel
theorem dX3_reckonPlace_102 : decode cX3_reckonPlace 102 = .ok (.imul, 1) := by decide +kernel
theorem dX3_reckonPlace_103 : decode cX3_reckonPlace 103 = .ok (.istore 9, 2) := by decide +kernel
theorem dX3_reckonPlace_105 : decode cX3_reckonPlace 105 = .ok (.aload_n 0, 1) := by decide +kernel
theorem dX3_reckonPlace_106 : decode cX3_reckonPlace 106 = .ok (.getfield 24, 3) := by decide +kernel
theorem dX3_reckonPlace_109 : decode cX3_reckonPlace 109 = .ok (.iload 8, 2) := by decide +kernel
theorem dX3_reckonPlace_111 : decode cX3_reckonPlace 111 = .ok (.iaload, 1) := by decide +kernel
theorem dX3_reckonPlace_112 : decode cX3_reckonPlace 112 = .ok (.aload_n 1, 1) := by decide +kernel
theorem dX3_reckonPlace_113 : decode cX3_reckonPlace 113 = .ok (.iload 8, 2) := by decide +kernel
theorem dX3_reckonPlace_115 : decode cX3_reckonPlace 115 = .ok (.iload 4, 2) := by decide +kernel
theorem dX3_reckonPlace_117 : decode cX3_reckonPlace 117 = .ok (.invokevirtual 87, 3) := by decide +kernel
theorem dX3_reckonPlace_120 : decode cX3_reckonPlace 120 = .ok (.iload 5, 2) := by decide +kernel
theorem dX3_reckonPlace_122 : decode cX3_reckonPlace 122 = .ok (.iload 9, 2) := by decide +kernel
theorem dX3_reckonPlace_124 : decode cX3_reckonPlace 124 = .ok (.isub, 1) := by decide +kernel
theorem dX3_reckonPlace_125 : decode cX3_reckonPlace 125 = .ok (.invokestatic 91, 3) := by decide +kernel
theorem dX3_reckonPlace_128 : decode cX3_reckonPlace 128 = .ok (.iand, 1) := by decide +kernel
theorem dX3_reckonPlace_129 : decode cX3_reckonPlace 129 = .ok (.ior, 1) := by decide +kernel
theorem dX3_reckonPlace_130 : decode cX3_reckonPlace 130 = .ok (.aload_n 0, 1) := by decide +kernel
theorem dX3_reckonPlace_131 : decode cX3_reckonPlace 131 = .ok (.getfield 21, 3) := by decide +kernel
theorem dX3_reckonPlace_134 : decode cX3_reckonPlace 134 = .ok (.iload 8, 2) := by decide +kernel
theorem dX3_reckonPlace_136 : decode cX3_reckonPlace 136 = .ok (.iaload, 1) := by decide +kernel
theorem dX3_reckonPlace_137 : decode cX3_reckonPlace 137 = .ok (.iconst (-1), 1) := by decide +kernel
theorem dX3_reckonPlace_138 : decode cX3_reckonPlace 138 = .ok (.ixor, 1) := by decide +kernel
theorem dX3_reckonPlace_139 : decode cX3_reckonPlace 139 = .ok (.iand, 1) := by decide +kernel
theorem dX3_reckonPlace_140 : decode cX3_reckonPlace 140 = .ok (.istore 10, 2) := by decide +kernel
theorem dX3_reckonPlace_142 : decode cX3_reckonPlace 142 = .ok (.iload 7, 2) := by decide +kernel
theorem dX3_reckonPlace_144 : decode cX3_reckonPlace 144 = .ok (.ldc 42, 2) := by decide +kernel
theorem dX3_reckonPlace_146 : decode cX3_reckonPlace 146 = .ok (.if_icmp .eq 9, 3) := by decide +kernel
theorem dX3_reckonPlace_149 : decode cX3_reckonPlace 149 = .ok (.iconst 0, 1) := by decide +kernel
theorem dX3_reckonPlace_150 : decode cX3_reckonPlace 150 = .ok (.istore 10, 2) := by decide +kernel
theorem dX3_reckonPlace_152 : decode cX3_reckonPlace 152 = .ok (.goto 39, 3) := by decide +kernel
theorem dX3_reckonPlace_155 : decode cX3_reckonPlace 155 = .ok (.aload_n 0, 1) := by decide +kernel
theorem dX3_reckonPlace_156 : decode cX3_reckonPlace 156 = .ok (.getfield 30, 3) := by decide +kernel
theorem dX3_reckonPlace_159 : decode cX3_reckonPlace 159 = .ok (.iload 10, 2) := by decide +kernel
theorem dX3_reckonPlace_161 : decode cX3_reckonPlace 161 = .ok (.iload 6, 2) := by decide +kernel
theorem dX3_reckonPlace_163 : decode cX3_reckonPlace 163 = .ok (.invokevirtual 95, 3) := by decide +kernel
theorem dX3_reckonPlace_166 : decode cX3_reckonPlace 166 = .ok (.istore 11, 2) := by decide +kernel
theorem dX3_reckonPlace_168 : decode cX3_reckonPlace 168 = .ok (.iload 11, 2) := by decide +kernel
theorem dX3_reckonPlace_170 : decode cX3_reckonPlace 170 = .ok (.iconst (-1), 1) := by decide +kernel
theorem dX3_reckonPlace_171 : decode cX3_reckonPlace 171 = .ok (.if_icmp .eq 20, 3) := by decide +kernel
theorem dX3_reckonPlace_174 : decode cX3_reckonPlace 174 = .ok (.iload 9, 2) := by decide +kernel
theorem dX3_reckonPlace_176 : decode cX3_reckonPlace 176 = .ok (.iload 11, 2) := by decide +kernel
theorem dX3_reckonPlace_178 : decode cX3_reckonPlace 178 = .ok (.iadd, 1) := by decide +kernel
theorem dX3_reckonPlace_179 : decode cX3_reckonPlace 179 = .ok (.istore 7, 2) := by decide +kernel
theorem dX3_reckonPlace_181 : decode cX3_reckonPlace 181 = .ok (.iload 10, 2) := by decide +kernel
theorem dX3_reckonPlace_183 : decode cX3_reckonPlace 183 = .ok (.iload 11, 2) := by decide +kernel
theorem dX3_reckonPlace_185 : decode cX3_reckonPlace 185 = .ok (.invokestatic 99, 3) := by decide +kernel
theorem dX3_reckonPlace_188 : decode cX3_reckonPlace 188 = .ok (.iand, 1) := by decide +kernel
theorem dX3_reckonPlace_189 : decode cX3_reckonPlace 189 = .ok (.istore 10, 2) := by decide +kernel
theorem dX3_reckonPlace_191 : decode cX3_reckonPlace 191 = .ok (.aload_n 0, 1) := by decide +kernel
theorem dX3_reckonPlace_192 : decode cX3_reckonPlace 192 = .ok (.getfield 18, 3) := by decide +kernel
theorem dX3_reckonPlace_195 : decode cX3_reckonPlace 195 = .ok (.iload_n 3, 1) := by decide +kernel
theorem dX3_reckonPlace_196 : decode cX3_reckonPlace 196 = .ok (.bipush 120, 2) := by decide +kernel
theorem dX3_reckonPlace_198 : decode cX3_reckonPlace 198 = .ok (.imul, 1) := by decide +kernel
theorem dX3_reckonPlace_199 : decode cX3_reckonPlace 199 = .ok (.iload 8, 2) := by decide +kernel
theorem dX3_reckonPlace_201 : decode cX3_reckonPlace 201 = .ok (.iadd, 1) := by decide +kernel
theorem dX3_reckonPlace_202 : decode cX3_reckonPlace 202 = .ok (.iload 10, 2) := by decide +kernel
theorem dX3_reckonPlace_204 : decode cX3_reckonPlace 204 = .ok (.iastore, 1) := by decide +kernel
theorem dX3_reckonPlace_205 : decode cX3_reckonPlace 205 = .ok (.iinc 8 1, 3) := by decide +kernel
theorem dX3_reckonPlace_208 : decode cX3_reckonPlace 208 = .ok (.goto (-117), 3) := by decide +kernel
theorem dX3_reckonPlace_211 : decode cX3_reckonPlace 211 = .ok (.aload_n 0, 1) := by decide +kernel
theorem dX3_reckonPlace_212 : decode cX3_reckonPlace 212 = .ok (.getfield 9, 3) := by decide +kernel
theorem dX3_reckonPlace_215 : decode cX3_reckonPlace 215 = .ok (.iload_n 3, 1) := by decide +kernel
theorem dX3_reckonPlace_216 : decode cX3_reckonPlace 216 = .ok (.iload 5, 2) := by decide +kernel
theorem dX3_reckonPlace_218 : decode cX3_reckonPlace 218 = .ok (.iastore, 1) := by decide +kernel
theorem dX3_reckonPlace_219 : decode cX3_reckonPlace 219 = .ok (.aload_n 0, 1) := by decide +kernel
theorem dX3_reckonPlace_220 : decode cX3_reckonPlace 220 = .ok (.getfield 15, 3) := by decide +kernel
theorem dX3_reckonPlace_223 : decode cX3_reckonPlace 223 = .ok (.iload_n 3, 1) := by decide +kernel
theorem dX3_reckonPlace_224 : decode cX3_reckonPlace 224 = .ok (.iload 7, 2) := by decide +kernel
theorem dX3_reckonPlace_226 : decode cX3_reckonPlace 226 = .ok (.iastore, 1) := by decide +kernel
theorem dX3_reckonPlace_227 : decode cX3_reckonPlace 227 = .ok (.return_, 1) := by decide +kernel
theorem dX3_beginBehind_0 : decode cX3_beginBehind 0 = .ok (.aload_n 1, 1) := by decide +kernel
theorem dX3_beginBehind_1 : decode cX3_beginBehind 1 = .ok (.getfield 102, 3) := by decide +kernel
theorem dX3_beginBehind_4 : decode cX3_beginBehind 4 = .ok (.istore_n 2, 1) := by decide +kernel
theorem dX3_beginBehind_5 : decode cX3_beginBehind 5 = .ok (.iconst 0, 1) := by decide +kernel
theorem dX3_beginBehind_6 : decode cX3_beginBehind 6 = .ok (.istore_n 3, 1) := by decide +kernel
theorem dX3_beginBehind_7 : decode cX3_beginBehind 7 = .ok (.iload_n 3, 1) := by decide +kernel
theorem dX3_beginBehind_8 : decode cX3_beginBehind 8 = .ok (.bipush 12, 2) := by decide +kernel
theorem dX3_beginBehind_10 : decode cX3_beginBehind 10 = .ok (.if_icmp .ge 38, 3) := by decide +kernel
theorem dX3_beginBehind_13 : decode cX3_beginBehind 13 = .ok (.aload_n 1, 1) := by decide +kernel
theorem dX3_beginBehind_14 : decode cX3_beginBehind 14 = .ok (.getfield 59, 3) := by decide +kernel
theorem dX3_beginBehind_17 : decode cX3_beginBehind 17 = .ok (.aload_n 0, 1) := by decide +kernel
theorem dX3_beginBehind_18 : decode cX3_beginBehind 18 = .ok (.getfield 34, 3) := by decide +kernel
theorem dX3_beginBehind_21 : decode cX3_beginBehind 21 = .ok (.iand, 1) := by decide +kernel
theorem dX3_beginBehind_22 : decode cX3_beginBehind 22 = .ok (.iload_n 3, 1) := by decide +kernel
theorem dX3_beginBehind_23 : decode cX3_beginBehind 23 = .ok (.invokestatic 55, 3) := by decide +kernel
theorem dX3_beginBehind_26 : decode cX3_beginBehind 26 = .ok (.ifCond .eq 16, 3) := by decide +kernel
theorem dX3_beginBehind_29 : decode cX3_beginBehind 29 = .ok (.iload_n 2, 1) := by decide +kernel
theorem dX3_beginBehind_30 : decode cX3_beginBehind 30 = .ok (.aload_n 0, 1) := by decide +kernel
theorem dX3_beginBehind_31 : decode cX3_beginBehind 31 = .ok (.getfield 15, 3) := by decide +kernel
theorem dX3_beginBehind_34 : decode cX3_beginBehind 34 = .ok (.iload_n 3, 1) := by decide +kernel
theorem dX3_beginBehind_35 : decode cX3_beginBehind 35 = .ok (.iaload, 1) := by decide +kernel
theorem dX3_beginBehind_36 : decode cX3_beginBehind 36 = .ok (.iconst 1, 1) := by decide +kernel
theorem dX3_beginBehind_37 : decode cX3_beginBehind 37 = .ok (.iadd, 1) := by decide +kernel
theorem dX3_beginBehind_38 : decode cX3_beginBehind 38 = .ok (.invokestatic 105, 3) := by decide +kernel
theorem dX3_beginBehind_41 : decode cX3_beginBehind 41 = .ok (.istore_n 2, 1) := by decide +kernel
theorem dX3_beginBehind_42 : decode cX3_beginBehind 42 = .ok (.iinc 3 1, 3) := by decide +kernel
theorem dX3_beginBehind_45 : decode cX3_beginBehind 45 = .ok (.goto (-38), 3) := by decide +kernel
theorem dX3_beginBehind_48 : decode cX3_beginBehind 48 = .ok (.iload_n 2, 1) := by decide +kernel
theorem dX3_beginBehind_49 : decode cX3_beginBehind 49 = .ok (.ireturn, 1) := by decide +kernel
theorem dX3_beginBeside_0 : decode cX3_beginBeside 0 = .ok (.aload_n 1, 1) := by decide +kernel
theorem dX3_beginBeside_1 : decode cX3_beginBeside 1 = .ok (.getfield 59, 3) := by decide +kernel
theorem dX3_beginBeside_4 : decode cX3_beginBeside 4 = .ok (.aload_n 0, 1) := by decide +kernel
theorem dX3_beginBeside_5 : decode cX3_beginBeside 5 = .ok (.getfield 34, 3) := by decide +kernel
theorem dX3_beginBeside_8 : decode cX3_beginBeside 8 = .ok (.iand, 1) := by decide +kernel
theorem dX3_beginBeside_9 : decode cX3_beginBeside 9 = .ok (.istore_n 2, 1) := by decide +kernel
theorem dX3_beginBeside_10 : decode cX3_beginBeside 10 = .ok (.iload_n 2, 1) := by decide +kernel
theorem dX3_beginBeside_11 : decode cX3_beginBeside 11 = .ok (.ifCond .ne 8, 3) := by decide +kernel
theorem dX3_beginBeside_14 : decode cX3_beginBeside 14 = .ok (.aload_n 1, 1) := by decide +kernel
theorem dX3_beginBeside_15 : decode cX3_beginBeside 15 = .ok (.getfield 102, 3) := by decide +kernel
theorem dX3_beginBeside_18 : decode cX3_beginBeside 18 = .ok (.ireturn, 1) := by decide +kernel
theorem dX3_beginBeside_19 : decode cX3_beginBeside 19 = .ok (.ldc 42, 2) := by decide +kernel
theorem dX3_beginBeside_21 : decode cX3_beginBeside 21 = .ok (.istore_n 3, 1) := by decide +kernel
theorem dX3_beginBeside_22 : decode cX3_beginBeside 22 = .ok (.iconst 0, 1) := by decide +kernel
theorem dX3_beginBeside_23 : decode cX3_beginBeside 23 = .ok (.istore 4, 2) := by decide +kernel
theorem dX3_beginBeside_25 : decode cX3_beginBeside 25 = .ok (.iload 4, 2) := by decide +kernel
theorem dX3_beginBeside_27 : decode cX3_beginBeside 27 = .ok (.bipush 12, 2) := by decide +kernel
theorem dX3_beginBeside_29 : decode cX3_beginBeside 29 = .ok (.if_icmp .ge 30, 3) := by decide +kernel
theorem dX3_beginBeside_32 : decode cX3_beginBeside 32 = .ok (.iload_n 2, 1) := by decide +kernel
theorem dX3_beginBeside_33 : decode cX3_beginBeside 33 = .ok (.iload 4, 2) := by decide +kernel
theorem dX3_beginBeside_35 : decode cX3_beginBeside 35 = .ok (.invokestatic 55, 3) := by decide +kernel
theorem dX3_beginBeside_38 : decode cX3_beginBeside 38 = .ok (.ifCond .eq 15, 3) := by decide +kernel
theorem dX3_beginBeside_41 : decode cX3_beginBeside 41 = .ok (.iload_n 3, 1) := by decide +kernel
theorem dX3_beginBeside_42 : decode cX3_beginBeside 42 = .ok (.aload_n 0, 1) := by decide +kernel
theorem dX3_beginBeside_43 : decode cX3_beginBeside 43 = .ok (.getfield 9, 3) := by decide +kernel
theorem dX3_beginBeside_46 : decode cX3_beginBeside 46 = .ok (.iload 4, 2) := by decide +kernel
theorem dX3_beginBeside_48 : decode cX3_beginBeside 48 = .ok (.iaload, 1) := by decide +kernel
theorem dX3_beginBeside_49 : decode cX3_beginBeside 49 = .ok (.invokestatic 110, 3) := by decide +kernel
theorem dX3_beginBeside_52 : decode cX3_beginBeside 52 = .ok (.istore_n 3, 1) := by decide +kernel
theorem dX3_beginBeside_53 : decode cX3_beginBeside 53 = .ok (.iinc 4 1, 3) := by decide +kernel
theorem dX3_beginBeside_56 : decode cX3_beginBeside 56 = .ok (.goto (-31), 3) := by decide +kernel
theorem dX3_beginBeside_59 : decode cX3_beginBeside 59 = .ok (.aload_n 1, 1) := by decide +kernel
theorem dX3_beginBeside_60 : decode cX3_beginBeside 60 = .ok (.getfield 102, 3) := by decide +kernel
theorem dX3_beginBeside_63 : decode cX3_beginBeside 63 = .ok (.iload_n 3, 1) := by decide +kernel
theorem dX3_beginBeside_64 : decode cX3_beginBeside 64 = .ok (.invokestatic 105, 3) := by decide +kernel
theorem dX3_beginBeside_67 : decode cX3_beginBeside 67 = .ok (.ireturn, 1) := by decide +kernel
theorem dX3_findSpans_0 : decode cX3_findSpans 0 = .ok (.aload_n 3, 1) := by decide +kernel
theorem dX3_findSpans_1 : decode cX3_findSpans 1 = .ok (.iconst 0, 1) := by decide +kernel
theorem dX3_findSpans_2 : decode cX3_findSpans 2 = .ok (.invokestatic 113, 3) := by decide +kernel
theorem dX3_findSpans_5 : decode cX3_findSpans 5 = .ok (.iconst 0, 1) := by decide +kernel
theorem dX3_findSpans_6 : decode cX3_findSpans 6 = .ok (.istore 4, 2) := by decide +kernel
theorem dX3_findSpans_8 : decode cX3_findSpans 8 = .ok (.iload 4, 2) := by decide +kernel
theorem dX3_findSpans_10 : decode cX3_findSpans 10 = .ok (.bipush 12, 2) := by decide +kernel
theorem dX3_findSpans_12 : decode cX3_findSpans 12 = .ok (.if_icmp .ge 38, 3) := by decide +kernel
theorem dX3_findSpans_15 : decode cX3_findSpans 15 = .ok (.aload_n 0, 1) := by decide +kernel
theorem dX3_findSpans_16 : decode cX3_findSpans 16 = .ok (.iload 4, 2) := by decide +kernel
theorem dX3_findSpans_18 : decode cX3_findSpans 18 = .ok (.invokevirtual 43, 3) := by decide +kernel
theorem dX3_findSpans_21 : decode cX3_findSpans 21 = .ok (.astore 5, 2) := by decide +kernel
theorem dX3_findSpans_23 : decode cX3_findSpans 23 = .ok (.aload 5, 2) := by decide +kernel
theorem dX3_findSpans_25 : decode cX3_findSpans 25 = .ok (.ifnull 19, 3) := by decide +kernel
theorem dX3_findSpans_28 : decode cX3_findSpans 28 = .ok (.aload 5, 2) := by decide +kernel
theorem dX3_findSpans_30 : decode cX3_findSpans 30 = .ok (.iload_n 1, 1) := by decide +kernel
theorem dX3_findSpans_31 : decode cX3_findSpans 31 = .ok (.iload_n 2, 1) := by decide +kernel
theorem dX3_findSpans_32 : decode cX3_findSpans 32 = .ok (.invokevirtual 119, 3) := by decide +kernel
theorem dX3_findSpans_35 : decode cX3_findSpans 35 = .ok (.ifCond .eq 9, 3) := by decide +kernel
theorem dX3_findSpans_38 : decode cX3_findSpans 38 = .ok (.aload 5, 2) := by decide +kernel
theorem dX3_findSpans_40 : decode cX3_findSpans 40 = .ok (.aload_n 3, 1) := by decide +kernel
theorem dX3_findSpans_41 : decode cX3_findSpans 41 = .ok (.invokestatic 122, 3) := by decide +kernel
theorem dX3_findSpans_44 : decode cX3_findSpans 44 = .ok (.iinc 4 1, 3) := by decide +kernel
theorem dX3_findSpans_47 : decode cX3_findSpans 47 = .ok (.goto (-39), 3) := by decide +kernel
theorem dX3_findSpans_50 : decode cX3_findSpans 50 = .ok (.return_, 1) := by decide +kernel
theorem dX3_addSpan_0 : decode cX3_addSpan 0 = .ok (.aload_n 0, 1) := by decide +kernel
theorem dX3_addSpan_1 : decode cX3_addSpan 1 = .ok (.getfield 126, 3) := by decide +kernel
theorem dX3_addSpan_4 : decode cX3_addSpan 4 = .ok (.bipush 30, 2) := by decide +kernel
theorem dX3_addSpan_6 : decode cX3_addSpan 6 = .ok (.idiv, 1) := by decide +kernel
theorem dX3_addSpan_7 : decode cX3_addSpan 7 = .ok (.aload_n 1, 1) := by decide +kernel
theorem dX3_addSpan_8 : decode cX3_addSpan 8 = .ok (.arraylength, 1) := by decide +kernel
theorem dX3_addSpan_9 : decode cX3_addSpan 9 = .ok (.iconst 1, 1) := by decide +kernel
theorem dX3_addSpan_10 : decode cX3_addSpan 10 = .ok (.isub, 1) := by decide +kernel
theorem dX3_addSpan_11 : decode cX3_addSpan 11 = .ok (.invokestatic 110, 3) := by decide +kernel
theorem dX3_addSpan_14 : decode cX3_addSpan 14 = .ok (.istore_n 2, 1) := by decide +kernel
theorem dX3_addSpan_15 : decode cX3_addSpan 15 = .ok (.iconst 0, 1) := by decide +kernel
theorem dX3_addSpan_16 : decode cX3_addSpan 16 = .ok (.aload_n 0, 1) := by decide +kernel
theorem dX3_addSpan_17 : decode cX3_addSpan 17 = .ok (.getfield 102, 3) := by decide +kernel
theorem dX3_addSpan_20 : decode cX3_addSpan 20 = .ok (.bipush 30, 2) := by decide +kernel
theorem dX3_addSpan_22 : decode cX3_addSpan 22 = .ok (.idiv, 1) := by decide +kernel
theorem dX3_addSpan_23 : decode cX3_addSpan 23 = .ok (.invokestatic 105, 3) := by decide +kernel
theorem dX3_addSpan_26 : decode cX3_addSpan 26 = .ok (.istore_n 3, 1) := by decide +kernel
theorem dX3_addSpan_27 : decode cX3_addSpan 27 = .ok (.iload_n 3, 1) := by decide +kernel
theorem dX3_addSpan_28 : decode cX3_addSpan 28 = .ok (.iload_n 2, 1) := by decide +kernel
theorem dX3_addSpan_29 : decode cX3_addSpan 29 = .ok (.if_icmp .gt 42, 3) := by decide +kernel
theorem dX3_addSpan_32 : decode cX3_addSpan 32 = .ok (.iload_n 3, 1) := by decide +kernel
theorem dX3_addSpan_33 : decode cX3_addSpan 33 = .ok (.bipush 30, 2) := by decide +kernel
theorem dX3_addSpan_35 : decode cX3_addSpan 35 = .ok (.imul, 1) := by decide +kernel
theorem dX3_addSpan_36 : decode cX3_addSpan 36 = .ok (.istore 4, 2) := by decide +kernel
theorem dX3_addSpan_38 : decode cX3_addSpan 38 = .ok (.aload_n 1, 1) := by decide +kernel
theorem dX3_addSpan_39 : decode cX3_addSpan 39 = .ok (.iload_n 3, 1) := by decide +kernel
theorem dX3_addSpan_40 : decode cX3_addSpan 40 = .ok (.dup2, 1) := by decide +kernel
theorem dX3_addSpan_41 : decode cX3_addSpan 41 = .ok (.iaload, 1) := by decide +kernel
theorem dX3_addSpan_42 : decode cX3_addSpan 42 = .ok (.aload_n 0, 1) := by decide +kernel
theorem dX3_addSpan_43 : decode cX3_addSpan 43 = .ok (.getfield 102, 3) := by decide +kernel
theorem dX3_addSpan_46 : decode cX3_addSpan 46 = .ok (.iload 4, 2) := by decide +kernel
theorem dX3_addSpan_48 : decode cX3_addSpan 48 = .ok (.isub, 1) := by decide +kernel
theorem dX3_addSpan_49 : decode cX3_addSpan 49 = .ok (.invokestatic 91, 3) := by decide +kernel
theorem dX3_addSpan_52 : decode cX3_addSpan 52 = .ok (.aload_n 0, 1) := by decide +kernel
theorem dX3_addSpan_53 : decode cX3_addSpan 53 = .ok (.getfield 126, 3) := by decide +kernel
theorem dX3_addSpan_56 : decode cX3_addSpan 56 = .ok (.iload 4, 2) := by decide +kernel
theorem dX3_addSpan_58 : decode cX3_addSpan 58 = .ok (.isub, 1) := by decide +kernel
theorem dX3_addSpan_59 : decode cX3_addSpan 59 = .ok (.invokestatic 99, 3) := by decide +kernel
theorem dX3_addSpan_62 : decode cX3_addSpan 62 = .ok (.iand, 1) := by decide +kernel
theorem dX3_addSpan_63 : decode cX3_addSpan 63 = .ok (.ior, 1) := by decide +kernel
theorem dX3_addSpan_64 : decode cX3_addSpan 64 = .ok (.iastore, 1) := by decide +kernel
theorem dX3_addSpan_65 : decode cX3_addSpan 65 = .ok (.iinc 3 1, 3) := by decide +kernel
theorem dX3_addSpan_68 : decode cX3_addSpan 68 = .ok (.goto (-41), 3) := by decide +kernel
theorem dX3_addSpan_71 : decode cX3_addSpan 71 = .ok (.return_, 1) := by decide +kernel
theorem dX3_countingIn_0 : decode cX3_countingIn 0 = .ok (.iload_n 1, 1) := by decide +kernel
theorem dX3_countingIn_1 : decode cX3_countingIn 1 = .ok (.invokestatic 38, 3) := by decide +kernel
theorem dX3_countingIn_4 : decode cX3_countingIn 4 = .ok (.ifCond .eq 25, 3) := by decide +kernel
theorem dX3_countingIn_7 : decode cX3_countingIn 7 = .ok (.aload_n 0, 1) := by decide +kernel
theorem dX3_countingIn_8 : decode cX3_countingIn 8 = .ok (.getfield 34, 3) := by decide +kernel
theorem dX3_countingIn_11 : decode cX3_countingIn 11 = .ok (.iload_n 1, 1) := by decide +kernel
theorem dX3_countingIn_12 : decode cX3_countingIn 12 = .ok (.invokestatic 55, 3) := by decide +kernel
theorem dX3_countingIn_15 : decode cX3_countingIn 15 = .ok (.ifCond .eq 14, 3) := by decide +kernel
theorem dX3_countingIn_18 : decode cX3_countingIn 18 = .ok (.iload_n 2, 1) := by decide +kernel
theorem dX3_countingIn_19 : decode cX3_countingIn 19 = .ok (.invokestatic 129, 3) := by decide +kernel
theorem dX3_countingIn_22 : decode cX3_countingIn 22 = .ok (.ifCond .eq 7, 3) := by decide +kernel
theorem dX3_countingIn_25 : decode cX3_countingIn 25 = .ok (.iconst 1, 1) := by decide +kernel
theorem dX3_countingIn_26 : decode cX3_countingIn 26 = .ok (.goto 4, 3) := by decide +kernel
theorem dX3_countingIn_29 : decode cX3_countingIn 29 = .ok (.iconst 0, 1) := by decide +kernel
theorem dX3_countingIn_30 : decode cX3_countingIn 30 = .ok (.istore_n 3, 1) := by decide +kernel
theorem dX3_countingIn_31 : decode cX3_countingIn 31 = .ok (.iload_n 3, 1) := by decide +kernel
theorem dX3_countingIn_32 : decode cX3_countingIn 32 = .ok (.ifCond .eq 17, 3) := by decide +kernel
theorem dX3_countingIn_35 : decode cX3_countingIn 35 = .ok (.aload_n 0, 1) := by decide +kernel
theorem dX3_countingIn_36 : decode cX3_countingIn 36 = .ok (.getfield 18, 3) := by decide +kernel
theorem dX3_countingIn_39 : decode cX3_countingIn 39 = .ok (.iload_n 1, 1) := by decide +kernel
theorem dX3_countingIn_40 : decode cX3_countingIn 40 = .ok (.bipush 120, 2) := by decide +kernel
theorem dX3_countingIn_42 : decode cX3_countingIn 42 = .ok (.imul, 1) := by decide +kernel
theorem dX3_countingIn_43 : decode cX3_countingIn 43 = .ok (.iload_n 2, 1) := by decide +kernel
theorem dX3_countingIn_44 : decode cX3_countingIn 44 = .ok (.iadd, 1) := by decide +kernel
theorem dX3_countingIn_45 : decode cX3_countingIn 45 = .ok (.iaload, 1) := by decide +kernel
theorem dX3_countingIn_46 : decode cX3_countingIn 46 = .ok (.goto 4, 3) := by decide +kernel
theorem dX3_countingIn_49 : decode cX3_countingIn 49 = .ok (.iconst 0, 1) := by decide +kernel
theorem dX3_countingIn_50 : decode cX3_countingIn 50 = .ok (.ireturn, 1) := by decide +kernel
theorem dX3_doesCount_0 : decode cX3_doesCount 0 = .ok (.iload_n 2, 1) := by decide +kernel
theorem dX3_doesCount_1 : decode cX3_doesCount 1 = .ok (.invokestatic 132, 3) := by decide +kernel
theorem dX3_doesCount_4 : decode cX3_doesCount 4 = .ok (.ifCond .eq 26, 3) := by decide +kernel
theorem dX3_doesCount_7 : decode cX3_doesCount 7 = .ok (.aload_n 0, 1) := by decide +kernel
theorem dX3_doesCount_8 : decode cX3_doesCount 8 = .ok (.iload_n 1, 1) := by decide +kernel
theorem dX3_doesCount_9 : decode cX3_doesCount 9 = .ok (.iload_n 2, 1) := by decide +kernel
theorem dX3_doesCount_10 : decode cX3_doesCount 10 = .ok (.bipush 30, 2) := by decide +kernel
theorem dX3_doesCount_12 : decode cX3_doesCount 12 = .ok (.idiv, 1) := by decide +kernel
theorem dX3_doesCount_13 : decode cX3_doesCount 13 = .ok (.invokevirtual 135, 3) := by decide +kernel
theorem dX3_doesCount_16 : decode cX3_doesCount 16 = .ok (.iload_n 2, 1) := by decide +kernel
theorem dX3_doesCount_17 : decode cX3_doesCount 17 = .ok (.bipush 30, 2) := by decide +kernel
theorem dX3_doesCount_19 : decode cX3_doesCount 19 = .ok (.irem, 1) := by decide +kernel
theorem dX3_doesCount_20 : decode cX3_doesCount 20 = .ok (.ishr, 1) := by decide +kernel
theorem dX3_doesCount_21 : decode cX3_doesCount 21 = .ok (.iconst 1, 1) := by decide +kernel
theorem dX3_doesCount_22 : decode cX3_doesCount 22 = .ok (.iand, 1) := by decide +kernel
theorem dX3_doesCount_23 : decode cX3_doesCount 23 = .ok (.ifCond .eq 7, 3) := by decide +kernel
theorem dX3_doesCount_26 : decode cX3_doesCount 26 = .ok (.iconst 1, 1) := by decide +kernel
theorem dX3_doesCount_27 : decode cX3_doesCount 27 = .ok (.goto 4, 3) := by decide +kernel
theorem dX3_doesCount_30 : decode cX3_doesCount 30 = .ok (.iconst 0, 1) := by decide +kernel
theorem dX3_doesCount_31 : decode cX3_doesCount 31 = .ok (.ireturn, 1) := by decide +kernel
theorem dX3_countedUpTo_0 : decode cX3_countedUpTo 0 = .ok (.iconst 0, 1) := by decide +kernel
theorem dX3_countedUpTo_1 : decode cX3_countedUpTo 1 = .ok (.istore_n 3, 1) := by decide +kernel
theorem dX3_countedUpTo_2 : decode cX3_countedUpTo 2 = .ok (.iconst 0, 1) := by decide +kernel
theorem dX3_countedUpTo_3 : decode cX3_countedUpTo 3 = .ok (.istore 4, 2) := by decide +kernel
theorem dX3_countedUpTo_5 : decode cX3_countedUpTo 5 = .ok (.iload 4, 2) := by decide +kernel
theorem dX3_countedUpTo_7 : decode cX3_countedUpTo 7 = .ok (.bipush 120, 2) := by decide +kernel
theorem dX3_countedUpTo_9 : decode cX3_countedUpTo 9 = .ok (.if_icmp .ge 37, 3) := by decide +kernel
theorem dX3_countedUpTo_12 : decode cX3_countedUpTo 12 = .ok (.aload_n 0, 1) := by decide +kernel
theorem dX3_countedUpTo_13 : decode cX3_countedUpTo 13 = .ok (.iload_n 1, 1) := by decide +kernel
theorem dX3_countedUpTo_14 : decode cX3_countedUpTo 14 = .ok (.iload 4, 2) := by decide +kernel
theorem dX3_countedUpTo_16 : decode cX3_countedUpTo 16 = .ok (.invokevirtual 135, 3) := by decide +kernel
theorem dX3_countedUpTo_19 : decode cX3_countedUpTo 19 = .ok (.iload_n 2, 1) := by decide +kernel
theorem dX3_countedUpTo_20 : decode cX3_countedUpTo 20 = .ok (.iload 4, 2) := by decide +kernel
theorem dX3_countedUpTo_22 : decode cX3_countedUpTo 22 = .ok (.bipush 30, 2) := by decide +kernel
theorem dX3_countedUpTo_24 : decode cX3_countedUpTo 24 = .ok (.imul, 1) := by decide +kernel
theorem dX3_countedUpTo_25 : decode cX3_countedUpTo 25 = .ok (.isub, 1) := by decide +kernel
theorem dX3_countedUpTo_26 : decode cX3_countedUpTo 26 = .ok (.invokestatic 99, 3) := by decide +kernel
theorem dX3_countedUpTo_29 : decode cX3_countedUpTo 29 = .ok (.iand, 1) := by decide +kernel
theorem dX3_countedUpTo_30 : decode cX3_countedUpTo 30 = .ok (.istore 5, 2) := by decide +kernel
theorem dX3_countedUpTo_32 : decode cX3_countedUpTo 32 = .ok (.iload_n 3, 1) := by decide +kernel
theorem dX3_countedUpTo_33 : decode cX3_countedUpTo 33 = .ok (.iload 5, 2) := by decide +kernel
theorem dX3_countedUpTo_35 : decode cX3_countedUpTo 35 = .ok (.invokestatic 138, 3) := by decide +kernel
theorem dX3_countedUpTo_38 : decode cX3_countedUpTo 38 = .ok (.iadd, 1) := by decide +kernel
theorem dX3_countedUpTo_39 : decode cX3_countedUpTo 39 = .ok (.istore_n 3, 1) := by decide +kernel
theorem dX3_countedUpTo_40 : decode cX3_countedUpTo 40 = .ok (.iinc 4 1, 3) := by decide +kernel
theorem dX3_countedUpTo_43 : decode cX3_countedUpTo 43 = .ok (.goto (-38), 3) := by decide +kernel
theorem dX3_countedUpTo_46 : decode cX3_countedUpTo 46 = .ok (.iload_n 3, 1) := by decide +kernel
theorem dX3_countedUpTo_47 : decode cX3_countedUpTo 47 = .ok (.ireturn, 1) := by decide +kernel
theorem dX3_takenUpTo_0 : decode cX3_takenUpTo 0 = .ok (.aload_n 1, 1) := by decide +kernel
theorem dX3_takenUpTo_1 : decode cX3_takenUpTo 1 = .ok (.ifnonnull 5, 3) := by decide +kernel
theorem dX3_takenUpTo_4 : decode cX3_takenUpTo 4 = .ok (.iconst 0, 1) := by decide +kernel
theorem dX3_takenUpTo_5 : decode cX3_takenUpTo 5 = .ok (.ireturn, 1) := by decide +kernel
theorem dX3_takenUpTo_6 : decode cX3_takenUpTo 6 = .ok (.aload_n 0, 1) := by decide +kernel
theorem dX3_takenUpTo_7 : decode cX3_takenUpTo 7 = .ok (.getfield 30, 3) := by decide +kernel
theorem dX3_takenUpTo_10 : decode cX3_takenUpTo 10 = .ok (.aload_n 1, 1) := by decide +kernel
theorem dX3_takenUpTo_11 : decode cX3_takenUpTo 11 = .ok (.invokevirtual 80, 3) := by decide +kernel
theorem dX3_takenUpTo_14 : decode cX3_takenUpTo 14 = .ok (.iconst 0, 1) := by decide +kernel
theorem dX3_takenUpTo_15 : decode cX3_takenUpTo 15 = .ok (.istore 4, 2) := by decide +kernel
theorem dX3_takenUpTo_17 : decode cX3_takenUpTo 17 = .ok (.iload 4, 2) := by decide +kernel
theorem dX3_takenUpTo_19 : decode cX3_takenUpTo 19 = .ok (.bipush 120, 2) := by decide +kernel
theorem dX3_takenUpTo_21 : decode cX3_takenUpTo 21 = .ok (.if_icmp .ge 41, 3) := by decide +kernel
theorem dX3_takenUpTo_24 : decode cX3_takenUpTo 24 = .ok (.aload_n 0, 1) := by decide +kernel
theorem dX3_takenUpTo_25 : decode cX3_takenUpTo 25 = .ok (.iload_n 2, 1) := by decide +kernel
theorem dX3_takenUpTo_26 : decode cX3_takenUpTo 26 = .ok (.iload 4, 2) := by decide +kernel
theorem dX3_takenUpTo_28 : decode cX3_takenUpTo 28 = .ok (.invokevirtual 135, 3) := by decide +kernel
theorem dX3_takenUpTo_31 : decode cX3_takenUpTo 31 = .ok (.iload_n 3, 1) := by decide +kernel
theorem dX3_takenUpTo_32 : decode cX3_takenUpTo 32 = .ok (.iload 4, 2) := by decide +kernel
theorem dX3_takenUpTo_34 : decode cX3_takenUpTo 34 = .ok (.bipush 30, 2) := by decide +kernel
theorem dX3_takenUpTo_36 : decode cX3_takenUpTo 36 = .ok (.imul, 1) := by decide +kernel
theorem dX3_takenUpTo_37 : decode cX3_takenUpTo 37 = .ok (.isub, 1) := by decide +kernel
theorem dX3_takenUpTo_38 : decode cX3_takenUpTo 38 = .ok (.invokestatic 99, 3) := by decide +kernel
theorem dX3_takenUpTo_41 : decode cX3_takenUpTo 41 = .ok (.iand, 1) := by decide +kernel
theorem dX3_takenUpTo_42 : decode cX3_takenUpTo 42 = .ok (.istore 5, 2) := by decide +kernel
theorem dX3_takenUpTo_44 : decode cX3_takenUpTo 44 = .ok (.aload_n 0, 1) := by decide +kernel
theorem dX3_takenUpTo_45 : decode cX3_takenUpTo 45 = .ok (.getfield 30, 3) := by decide +kernel
theorem dX3_takenUpTo_48 : decode cX3_takenUpTo 48 = .ok (.iload 5, 2) := by decide +kernel
theorem dX3_takenUpTo_50 : decode cX3_takenUpTo 50 = .ok (.ldc 42, 2) := by decide +kernel
theorem dX3_takenUpTo_52 : decode cX3_takenUpTo 52 = .ok (.invokevirtual 95, 3) := by decide +kernel
theorem dX3_takenUpTo_55 : decode cX3_takenUpTo 55 = .ok (.pop, 1) := by decide +kernel
theorem dX3_takenUpTo_56 : decode cX3_takenUpTo 56 = .ok (.iinc 4 1, 3) := by decide +kernel
theorem dX3_takenUpTo_59 : decode cX3_takenUpTo 59 = .ok (.goto (-42), 3) := by decide +kernel
theorem dX3_takenUpTo_62 : decode cX3_takenUpTo 62 = .ok (.aload_n 0, 1) := by decide +kernel
theorem dX3_takenUpTo_63 : decode cX3_takenUpTo 63 = .ok (.getfield 30, 3) := by decide +kernel
theorem dX3_takenUpTo_66 : decode cX3_takenUpTo 66 = .ok (.iconst 0, 1) := by decide +kernel
theorem dX3_takenUpTo_67 : decode cX3_takenUpTo 67 = .ok (.invokevirtual 143, 3) := by decide +kernel
theorem dX3_takenUpTo_70 : decode cX3_takenUpTo 70 = .ok (.ireturn, 1) := by decide +kernel
theorem dX3_fullDay_0 : decode cX3_fullDay 0 = .ok (.iconst 0, 1) := by decide +kernel
theorem dX3_fullDay_1 : decode cX3_fullDay 1 = .ok (.istore_n 1, 1) := by decide +kernel
theorem dX3_fullDay_2 : decode cX3_fullDay 2 = .ok (.iconst 0, 1) := by decide +kernel
theorem dX3_fullDay_3 : decode cX3_fullDay 3 = .ok (.istore_n 2, 1) := by decide +kernel
theorem dX3_fullDay_4 : decode cX3_fullDay 4 = .ok (.iload_n 2, 1) := by decide +kernel
theorem dX3_fullDay_5 : decode cX3_fullDay 5 = .ok (.bipush 12, 2) := by decide +kernel
theorem dX3_fullDay_7 : decode cX3_fullDay 7 = .ok (.if_icmp .ge 33, 3) := by decide +kernel
theorem dX3_fullDay_10 : decode cX3_fullDay 10 = .ok (.aload_n 0, 1) := by decide +kernel
theorem dX3_fullDay_11 : decode cX3_fullDay 11 = .ok (.getfield 34, 3) := by decide +kernel
theorem dX3_fullDay_14 : decode cX3_fullDay 14 = .ok (.iload_n 2, 1) := by decide +kernel
theorem dX3_fullDay_15 : decode cX3_fullDay 15 = .ok (.invokestatic 55, 3) := by decide +kernel
theorem dX3_fullDay_18 : decode cX3_fullDay 18 = .ok (.ifCond .eq 16, 3) := by decide +kernel
theorem dX3_fullDay_21 : decode cX3_fullDay 21 = .ok (.iload_n 1, 1) := by decide +kernel
theorem dX3_fullDay_22 : decode cX3_fullDay 22 = .ok (.aload_n 0, 1) := by decide +kernel
theorem dX3_fullDay_23 : decode cX3_fullDay 23 = .ok (.getfield 15, 3) := by decide +kernel
theorem dX3_fullDay_26 : decode cX3_fullDay 26 = .ok (.iload_n 2, 1) := by decide +kernel
theorem dX3_fullDay_27 : decode cX3_fullDay 27 = .ok (.iaload, 1) := by decide +kernel
theorem dX3_fullDay_28 : decode cX3_fullDay 28 = .ok (.iconst 1, 1) := by decide +kernel
theorem dX3_fullDay_29 : decode cX3_fullDay 29 = .ok (.iadd, 1) := by decide +kernel
theorem dX3_fullDay_30 : decode cX3_fullDay 30 = .ok (.invokestatic 105, 3) := by decide +kernel
theorem dX3_fullDay_33 : decode cX3_fullDay 33 = .ok (.istore_n 1, 1) := by decide +kernel
theorem dX3_fullDay_34 : decode cX3_fullDay 34 = .ok (.iinc 2 1, 3) := by decide +kernel
theorem dX3_fullDay_37 : decode cX3_fullDay 37 = .ok (.goto (-33), 3) := by decide +kernel
theorem dX3_fullDay_40 : decode cX3_fullDay 40 = .ok (.iload_n 1, 1) := by decide +kernel
theorem dX3_fullDay_41 : decode cX3_fullDay 41 = .ok (.sipush 3600, 3) := by decide +kernel
theorem dX3_fullDay_44 : decode cX3_fullDay 44 = .ok (.if_icmp .gt 7, 3) := by decide +kernel
theorem dX3_fullDay_47 : decode cX3_fullDay 47 = .ok (.iload_n 1, 1) := by decide +kernel
theorem dX3_fullDay_48 : decode cX3_fullDay 48 = .ok (.goto 5, 3) := by decide +kernel
theorem dX3_fullDay_51 : decode cX3_fullDay 51 = .ok (.ldc 42, 2) := by decide +kernel
theorem dX3_fullDay_53 : decode cX3_fullDay 53 = .ok (.ireturn, 1) := by decide +kernel
theorem dX3_watchedDay_0 : decode cX3_watchedDay 0 = .ok (.iconst 0, 1) := by decide +kernel
theorem dX3_watchedDay_1 : decode cX3_watchedDay 1 = .ok (.istore_n 3, 1) := by decide +kernel
theorem dX3_watchedDay_2 : decode cX3_watchedDay 2 = .ok (.iconst 0, 1) := by decide +kernel
theorem dX3_watchedDay_3 : decode cX3_watchedDay 3 = .ok (.istore 4, 2) := by decide +kernel
theorem dX3_watchedDay_5 : decode cX3_watchedDay 5 = .ok (.iload 4, 2) := by decide +kernel
theorem dX3_watchedDay_7 : decode cX3_watchedDay 7 = .ok (.bipush 12, 2) := by decide +kernel
theorem dX3_watchedDay_9 : decode cX3_watchedDay 9 = .ok (.if_icmp .ge 85, 3) := by decide +kernel
theorem dX3_watchedDay_12 : decode cX3_watchedDay 12 = .ok (.aload_n 1, 1) := by decide +kernel
theorem dX3_watchedDay_13 : decode cX3_watchedDay 13 = .ok (.iload 4, 2) := by decide +kernel
theorem dX3_watchedDay_15 : decode cX3_watchedDay 15 = .ok (.invokevirtual 43, 3) := by decide +kernel
theorem dX3_watchedDay_18 : decode cX3_watchedDay 18 = .ok (.astore 5, 2) := by decide +kernel
theorem dX3_watchedDay_20 : decode cX3_watchedDay 20 = .ok (.aload 5, 2) := by decide +kernel
theorem dX3_watchedDay_22 : decode cX3_watchedDay 22 = .ok (.ifnull 66, 3) := by decide +kernel
theorem dX3_watchedDay_25 : decode cX3_watchedDay 25 = .ok (.aload_n 0, 1) := by decide +kernel
theorem dX3_watchedDay_26 : decode cX3_watchedDay 26 = .ok (.getfield 34, 3) := by decide +kernel
theorem dX3_watchedDay_29 : decode cX3_watchedDay 29 = .ok (.iload 4, 2) := by decide +kernel
theorem dX3_watchedDay_31 : decode cX3_watchedDay 31 = .ok (.invokestatic 55, 3) := by decide +kernel
theorem dX3_watchedDay_34 : decode cX3_watchedDay 34 = .ok (.ifCond .eq 54, 3) := by decide +kernel
theorem dX3_watchedDay_37 : decode cX3_watchedDay 37 = .ok (.aload 5, 2) := by decide +kernel
theorem dX3_watchedDay_39 : decode cX3_watchedDay 39 = .ok (.getfield 66, 3) := by decide +kernel
theorem dX3_watchedDay_42 : decode cX3_watchedDay 42 = .ok (.iconst 5, 1) := by decide +kernel
theorem dX3_watchedDay_43 : decode cX3_watchedDay 43 = .ok (.if_icmp .ne 11, 3) := by decide +kernel
theorem dX3_watchedDay_46 : decode cX3_watchedDay 46 = .ok (.aload 5, 2) := by decide +kernel
theorem dX3_watchedDay_48 : decode cX3_watchedDay 48 = .ok (.getfield 84, 3) := by decide +kernel
theorem dX3_watchedDay_51 : decode cX3_watchedDay 51 = .ok (.goto 12, 3) := by decide +kernel
theorem dX3_watchedDay_54 : decode cX3_watchedDay 54 = .ok (.aload 5, 2) := by decide +kernel
theorem dX3_watchedDay_56 : decode cX3_watchedDay 56 = .ok (.getfield 84, 3) := by decide +kernel
theorem dX3_watchedDay_59 : decode cX3_watchedDay 59 = .ok (.iload_n 2, 1) := by decide +kernel
theorem dX3_watchedDay_60 : decode cX3_watchedDay 60 = .ok (.invokestatic 146, 3) := by decide +kernel
theorem dX3_watchedDay_63 : decode cX3_watchedDay 63 = .ok (.istore 6, 2) := by decide +kernel
theorem dX3_watchedDay_65 : decode cX3_watchedDay 65 = .ok (.iload_n 3, 1) := by decide +kernel
theorem dX3_watchedDay_66 : decode cX3_watchedDay 66 = .ok (.aload_n 0, 1) := by decide +kernel
theorem dX3_watchedDay_67 : decode cX3_watchedDay 67 = .ok (.iload 4, 2) := by decide +kernel
theorem dX3_watchedDay_69 : decode cX3_watchedDay 69 = .ok (.iload 6, 2) := by decide +kernel
theorem dX3_watchedDay_71 : decode cX3_watchedDay 71 = .ok (.invokevirtual 149, 3) := by decide +kernel
theorem dX3_watchedDay_74 : decode cX3_watchedDay 74 = .ok (.aload_n 0, 1) := by decide +kernel
theorem dX3_watchedDay_75 : decode cX3_watchedDay 75 = .ok (.getfield 15, 3) := by decide +kernel
theorem dX3_watchedDay_78 : decode cX3_watchedDay 78 = .ok (.iload 4, 2) := by decide +kernel
theorem dX3_watchedDay_80 : decode cX3_watchedDay 80 = .ok (.iaload, 1) := by decide +kernel
theorem dX3_watchedDay_81 : decode cX3_watchedDay 81 = .ok (.invokestatic 110, 3) := by decide +kernel
theorem dX3_watchedDay_84 : decode cX3_watchedDay 84 = .ok (.invokestatic 105, 3) := by decide +kernel
theorem dX3_watchedDay_87 : decode cX3_watchedDay 87 = .ok (.istore_n 3, 1) := by decide +kernel
theorem dX3_watchedDay_88 : decode cX3_watchedDay 88 = .ok (.iinc 4 1, 3) := by decide +kernel
theorem dX3_watchedDay_91 : decode cX3_watchedDay 91 = .ok (.goto (-86), 3) := by decide +kernel
theorem dX3_watchedDay_94 : decode cX3_watchedDay 94 = .ok (.iload_n 3, 1) := by decide +kernel
theorem dX3_watchedDay_95 : decode cX3_watchedDay 95 = .ok (.ireturn, 1) := by decide +kernel
theorem dX3_dayOfCount_0 : decode cX3_dayOfCount 0 = .ok (.iload_n 2, 1) := by decide +kernel
theorem dX3_dayOfCount_1 : decode cX3_dayOfCount 1 = .ok (.istore_n 3, 1) := by decide +kernel
theorem dX3_dayOfCount_2 : decode cX3_dayOfCount 2 = .ok (.iload_n 3, 1) := by decide +kernel
theorem dX3_dayOfCount_3 : decode cX3_dayOfCount 3 = .ok (.ifCond .gt 5, 3) := by decide +kernel
theorem dX3_dayOfCount_6 : decode cX3_dayOfCount 6 = .ok (.iconst 0, 1) := by decide +kernel
theorem dX3_dayOfCount_7 : decode cX3_dayOfCount 7 = .ok (.ireturn, 1) := by decide +kernel
theorem dX3_dayOfCount_8 : decode cX3_dayOfCount 8 = .ok (.iconst 0, 1) := by decide +kernel
theorem dX3_dayOfCount_9 : decode cX3_dayOfCount 9 = .ok (.istore 4, 2) := by decide +kernel
theorem dX3_dayOfCount_11 : decode cX3_dayOfCount 11 = .ok (.iload 4, 2) := by decide +kernel
theorem dX3_dayOfCount_13 : decode cX3_dayOfCount 13 = .ok (.bipush 120, 2) := by decide +kernel
theorem dX3_dayOfCount_15 : decode cX3_dayOfCount 15 = .ok (.if_icmp .ge 49, 3) := by decide +kernel
theorem dX3_dayOfCount_18 : decode cX3_dayOfCount 18 = .ok (.aload_n 0, 1) := by decide +kernel
theorem dX3_dayOfCount_19 : decode cX3_dayOfCount 19 = .ok (.iload_n 1, 1) := by decide +kernel
theorem dX3_dayOfCount_20 : decode cX3_dayOfCount 20 = .ok (.iload 4, 2) := by decide +kernel
theorem dX3_dayOfCount_22 : decode cX3_dayOfCount 22 = .ok (.invokevirtual 135, 3) := by decide +kernel
theorem dX3_dayOfCount_25 : decode cX3_dayOfCount 25 = .ok (.istore 5, 2) := by decide +kernel
theorem dX3_dayOfCount_27 : decode cX3_dayOfCount 27 = .ok (.iload 5, 2) := by decide +kernel
theorem dX3_dayOfCount_29 : decode cX3_dayOfCount 29 = .ok (.invokestatic 138, 3) := by decide +kernel
theorem dX3_dayOfCount_32 : decode cX3_dayOfCount 32 = .ok (.istore 6, 2) := by decide +kernel
theorem dX3_dayOfCount_34 : decode cX3_dayOfCount 34 = .ok (.iload 6, 2) := by decide +kernel
theorem dX3_dayOfCount_36 : decode cX3_dayOfCount 36 = .ok (.iload_n 3, 1) := by decide +kernel
theorem dX3_dayOfCount_37 : decode cX3_dayOfCount 37 = .ok (.if_icmp .lt 16, 3) := by decide +kernel
theorem dX3_dayOfCount_40 : decode cX3_dayOfCount 40 = .ok (.iload 4, 2) := by decide +kernel
theorem dX3_dayOfCount_42 : decode cX3_dayOfCount 42 = .ok (.bipush 30, 2) := by decide +kernel
theorem dX3_dayOfCount_44 : decode cX3_dayOfCount 44 = .ok (.imul, 1) := by decide +kernel
theorem dX3_dayOfCount_45 : decode cX3_dayOfCount 45 = .ok (.iload 5, 2) := by decide +kernel
theorem dX3_dayOfCount_47 : decode cX3_dayOfCount 47 = .ok (.iload_n 3, 1) := by decide +kernel
theorem dX3_dayOfCount_48 : decode cX3_dayOfCount 48 = .ok (.invokestatic 152, 3) := by decide +kernel
theorem dX3_dayOfCount_51 : decode cX3_dayOfCount 51 = .ok (.iadd, 1) := by decide +kernel
theorem dX3_dayOfCount_52 : decode cX3_dayOfCount 52 = .ok (.ireturn, 1) := by decide +kernel
theorem dX3_dayOfCount_53 : decode cX3_dayOfCount 53 = .ok (.iload_n 3, 1) := by decide +kernel
theorem dX3_dayOfCount_54 : decode cX3_dayOfCount 54 = .ok (.iload 6, 2) := by decide +kernel
theorem dX3_dayOfCount_56 : decode cX3_dayOfCount 56 = .ok (.isub, 1) := by decide +kernel
theorem dX3_dayOfCount_57 : decode cX3_dayOfCount 57 = .ok (.istore_n 3, 1) := by decide +kernel
theorem dX3_dayOfCount_58 : decode cX3_dayOfCount 58 = .ok (.iinc 4 1, 3) := by decide +kernel
theorem dX3_dayOfCount_61 : decode cX3_dayOfCount 61 = .ok (.goto (-50), 3) := by decide +kernel
theorem dX3_dayOfCount_64 : decode cX3_dayOfCount 64 = .ok (.ldc 42, 2) := by decide +kernel
theorem dX3_dayOfCount_66 : decode cX3_dayOfCount 66 = .ok (.ireturn, 1) := by decide +kernel
theorem dX3_dayOfBit_0 : decode cX3_dayOfBit 0 = .ok (.iconst 0, 1) := by decide +kernel
theorem dX3_dayOfBit_1 : decode cX3_dayOfBit 1 = .ok (.istore_n 2, 1) := by decide +kernel
theorem dX3_dayOfBit_2 : decode cX3_dayOfBit 2 = .ok (.iconst 0, 1) := by decide +kernel
theorem dX3_dayOfBit_3 : decode cX3_dayOfBit 3 = .ok (.istore_n 3, 1) := by decide +kernel
theorem dX3_dayOfBit_4 : decode cX3_dayOfBit 4 = .ok (.iload_n 3, 1) := by decide +kernel
theorem dX3_dayOfBit_5 : decode cX3_dayOfBit 5 = .ok (.bipush 30, 2) := by decide +kernel
theorem dX3_dayOfBit_7 : decode cX3_dayOfBit 7 = .ok (.if_icmp .ge 24, 3) := by decide +kernel
theorem dX3_dayOfBit_10 : decode cX3_dayOfBit 10 = .ok (.iload_n 2, 1) := by decide +kernel
theorem dX3_dayOfBit_11 : decode cX3_dayOfBit 11 = .ok (.iload_n 0, 1) := by decide +kernel
theorem dX3_dayOfBit_12 : decode cX3_dayOfBit 12 = .ok (.iload_n 3, 1) := by decide +kernel
theorem dX3_dayOfBit_13 : decode cX3_dayOfBit 13 = .ok (.ishr, 1) := by decide +kernel
theorem dX3_dayOfBit_14 : decode cX3_dayOfBit 14 = .ok (.iconst 1, 1) := by decide +kernel
theorem dX3_dayOfBit_15 : decode cX3_dayOfBit 15 = .ok (.iand, 1) := by decide +kernel
theorem dX3_dayOfBit_16 : decode cX3_dayOfBit 16 = .ok (.iadd, 1) := by decide +kernel
theorem dX3_dayOfBit_17 : decode cX3_dayOfBit 17 = .ok (.istore_n 2, 1) := by decide +kernel
theorem dX3_dayOfBit_18 : decode cX3_dayOfBit 18 = .ok (.iload_n 2, 1) := by decide +kernel
theorem dX3_dayOfBit_19 : decode cX3_dayOfBit 19 = .ok (.iload_n 1, 1) := by decide +kernel
theorem dX3_dayOfBit_20 : decode cX3_dayOfBit 20 = .ok (.if_icmp .ne 5, 3) := by decide +kernel
theorem dX3_dayOfBit_23 : decode cX3_dayOfBit 23 = .ok (.iload_n 3, 1) := by decide +kernel
theorem dX3_dayOfBit_24 : decode cX3_dayOfBit 24 = .ok (.ireturn, 1) := by decide +kernel
theorem dX3_dayOfBit_25 : decode cX3_dayOfBit 25 = .ok (.iinc 3 1, 3) := by decide +kernel
theorem dX3_dayOfBit_28 : decode cX3_dayOfBit 28 = .ok (.goto (-24), 3) := by decide +kernel
theorem dX3_dayOfBit_31 : decode cX3_dayOfBit 31 = .ok (.bipush 30, 2) := by decide +kernel
theorem dX3_dayOfBit_33 : decode cX3_dayOfBit 33 = .ok (.ireturn, 1) := by decide +kernel
theorem dX4_init_0 : decode cX4_init 0 = .ok (.aload_n 0, 1) := by decide +kernel
theorem dX4_init_1 : decode cX4_init 1 = .ok (.invokespecial 3, 3) := by decide +kernel
theorem dX4_init_4 : decode cX4_init 4 = .ok (.aload_n 0, 1) := by decide +kernel
theorem dX4_init_5 : decode cX4_init 5 = .ok (.bipush 6, 2) := by decide +kernel
theorem dX4_init_7 : decode cX4_init 7 = .ok (.anewarray 9, 3) := by decide +kernel
theorem dX4_init_10 : decode cX4_init 10 = .ok (.putfield 11, 3) := by decide +kernel
theorem dX4_init_13 : decode cX4_init 13 = .ok (.aload_n 0, 1) := by decide +kernel
theorem dX4_init_14 : decode cX4_init 14 = .ok (.iconst 0, 1) := by decide +kernel
theorem dX4_init_15 : decode cX4_init 15 = .ok (.putfield 17, 3) := by decide +kernel
theorem dX4_init_18 : decode cX4_init 18 = .ok (.iconst 0, 1) := by decide +kernel
theorem dX4_init_19 : decode cX4_init 19 = .ok (.istore_n 1, 1) := by decide +kernel
theorem dX4_init_20 : decode cX4_init 20 = .ok (.iload_n 1, 1) := by decide +kernel
theorem dX4_init_21 : decode cX4_init 21 = .ok (.bipush 6, 2) := by decide +kernel
theorem dX4_init_23 : decode cX4_init 23 = .ok (.if_icmp .ge 22, 3) := by decide +kernel
theorem dX4_init_26 : decode cX4_init 26 = .ok (.aload_n 0, 1) := by decide +kernel
theorem dX4_init_27 : decode cX4_init 27 = .ok (.getfield 11, 3) := by decide +kernel
theorem dX4_init_30 : decode cX4_init 30 = .ok (.iload_n 1, 1) := by decide +kernel
theorem dX4_init_31 : decode cX4_init 31 = .ok (.new 9, 3) := by decide +kernel
theorem dX4_init_34 : decode cX4_init 34 = .ok (.dup, 1) := by decide +kernel
theorem dX4_init_35 : decode cX4_init 35 = .ok (.invokespecial 21, 3) := by decide +kernel
theorem dX4_init_38 : decode cX4_init 38 = .ok (.aastore, 1) := by decide +kernel
theorem dX4_init_39 : decode cX4_init 39 = .ok (.iinc 1 1, 3) := by decide +kernel
theorem dX4_init_42 : decode cX4_init 42 = .ok (.goto (-22), 3) := by decide +kernel
theorem dX4_init_45 : decode cX4_init 45 = .ok (.return_, 1) := by decide +kernel
theorem dX4_fileOf_0 : decode cX4_fileOf 0 = .ok (.iload_n 1, 1) := by decide +kernel
theorem dX4_fileOf_1 : decode cX4_fileOf 1 = .ok (.ifCond .lt 18, 3) := by decide +kernel
theorem dX4_fileOf_4 : decode cX4_fileOf 4 = .ok (.iload_n 1, 1) := by decide +kernel
theorem dX4_fileOf_5 : decode cX4_fileOf 5 = .ok (.bipush 6, 2) := by decide +kernel
theorem dX4_fileOf_7 : decode cX4_fileOf 7 = .ok (.if_icmp .ge 12, 3) := by decide +kernel
theorem dX4_fileOf_10 : decode cX4_fileOf 10 = .ok (.aload_n 0, 1) := by decide +kernel
theorem dX4_fileOf_11 : decode cX4_fileOf 11 = .ok (.getfield 11, 3) := by decide +kernel
theorem dX4_fileOf_14 : decode cX4_fileOf 14 = .ok (.iload_n 1, 1) := by decide +kernel
theorem dX4_fileOf_15 : decode cX4_fileOf 15 = .ok (.aaload, 1) := by decide +kernel
theorem dX4_fileOf_16 : decode cX4_fileOf 16 = .ok (.goto 4, 3) := by decide +kernel
theorem dX4_fileOf_19 : decode cX4_fileOf 19 = .ok (.aconst_null, 1) := by decide +kernel
theorem dX4_fileOf_20 : decode cX4_fileOf 20 = .ok (.areturn, 1) := by decide +kernel
theorem dX4_learnUpTo_0 : decode cX4_learnUpTo 0 = .ok (.aload_n 0, 1) := by decide +kernel
theorem dX4_learnUpTo_1 : decode cX4_learnUpTo 1 = .ok (.getfield 17, 3) := by decide +kernel
theorem dX4_learnUpTo_4 : decode cX4_learnUpTo 4 = .ok (.iload_n 2, 1) := by decide +kernel
theorem dX4_learnUpTo_5 : decode cX4_learnUpTo 5 = .ok (.if_icmp .le 7, 3) := by decide +kernel
theorem dX4_learnUpTo_8 : decode cX4_learnUpTo 8 = .ok (.aload_n 0, 1) := by decide +kernel
theorem dX4_learnUpTo_9 : decode cX4_learnUpTo 9 = .ok (.invokevirtual 22, 3) := by decide +kernel
theorem dX4_learnUpTo_12 : decode cX4_learnUpTo 12 = .ok (.aload_n 0, 1) := by decide +kernel
theorem dX4_learnUpTo_13 : decode cX4_learnUpTo 13 = .ok (.getfield 17, 3) := by decide +kernel
theorem dX4_learnUpTo_16 : decode cX4_learnUpTo 16 = .ok (.istore_n 3, 1) := by decide +kernel
theorem dX4_learnUpTo_17 : decode cX4_learnUpTo 17 = .ok (.iload_n 3, 1) := by decide +kernel
theorem dX4_learnUpTo_18 : decode cX4_learnUpTo 18 = .ok (.iload_n 2, 1) := by decide +kernel
theorem dX4_learnUpTo_19 : decode cX4_learnUpTo 19 = .ok (.if_icmp .ge 28, 3) := by decide +kernel
theorem dX4_learnUpTo_22 : decode cX4_learnUpTo 22 = .ok (.iload_n 3, 1) := by decide +kernel
theorem dX4_learnUpTo_23 : decode cX4_learnUpTo 23 = .ok (.aload_n 1, 1) := by decide +kernel
theorem dX4_learnUpTo_24 : decode cX4_learnUpTo 24 = .ok (.arraylength, 1) := by decide +kernel
theorem dX4_learnUpTo_25 : decode cX4_learnUpTo 25 = .ok (.if_icmp .ge 22, 3) := by decide +kernel
theorem dX4_learnUpTo_28 : decode cX4_learnUpTo 28 = .ok (.aload_n 1, 1) := by decide +kernel
theorem dX4_learnUpTo_29 : decode cX4_learnUpTo 29 = .ok (.iload_n 3, 1) := by decide +kernel
theorem dX4_learnUpTo_30 : decode cX4_learnUpTo 30 = .ok (.aaload, 1) := by decide +kernel
theorem dX4_learnUpTo_31 : decode cX4_learnUpTo 31 = .ok (.ifnull 10, 3) := by decide +kernel
theorem dX4_learnUpTo_34 : decode cX4_learnUpTo 34 = .ok (.aload_n 0, 1) := by decide +kernel
theorem dX4_learnUpTo_35 : decode cX4_learnUpTo 35 = .ok (.aload_n 1, 1) := by decide +kernel
theorem dX4_learnUpTo_36 : decode cX4_learnUpTo 36 = .ok (.iload_n 3, 1) := by decide +kernel
theorem dX4_learnUpTo_37 : decode cX4_learnUpTo 37 = .ok (.aaload, 1) := by decide +kernel
theorem dX4_learnUpTo_38 : decode cX4_learnUpTo 38 = .ok (.invokevirtual 25, 3) := by decide +kernel
theorem dX4_learnUpTo_41 : decode cX4_learnUpTo 41 = .ok (.iinc 3 1, 3) := by decide +kernel
theorem dX4_learnUpTo_44 : decode cX4_learnUpTo 44 = .ok (.goto (-27), 3) := by decide +kernel
theorem dX4_learnUpTo_47 : decode cX4_learnUpTo 47 = .ok (.aload_n 0, 1) := by decide +kernel
theorem dX4_learnUpTo_48 : decode cX4_learnUpTo 48 = .ok (.iload_n 2, 1) := by decide +kernel
theorem dX4_learnUpTo_49 : decode cX4_learnUpTo 49 = .ok (.putfield 17, 3) := by decide +kernel
theorem dX4_learnUpTo_52 : decode cX4_learnUpTo 52 = .ok (.return_, 1) := by decide +kernel
theorem dX4_wipe_0 : decode cX4_wipe 0 = .ok (.iconst 0, 1) := by decide +kernel
theorem dX4_wipe_1 : decode cX4_wipe 1 = .ok (.istore_n 1, 1) := by decide +kernel
theorem dX4_wipe_2 : decode cX4_wipe 2 = .ok (.iload_n 1, 1) := by decide +kernel
theorem dX4_wipe_3 : decode cX4_wipe 3 = .ok (.bipush 6, 2) := by decide +kernel
theorem dX4_wipe_5 : decode cX4_wipe 5 = .ok (.if_icmp .ge 23, 3) := by decide +kernel
theorem dX4_wipe_8 : decode cX4_wipe 8 = .ok (.aload_n 0, 1) := by decide +kernel
theorem dX4_wipe_9 : decode cX4_wipe 9 = .ok (.iload_n 1, 1) := by decide +kernel
theorem dX4_wipe_10 : decode cX4_wipe 10 = .ok (.invokevirtual 29, 3) := by decide +kernel
theorem dX4_wipe_13 : decode cX4_wipe 13 = .ok (.astore_n 2, 1) := by decide +kernel
theorem dX4_wipe_14 : decode cX4_wipe 14 = .ok (.aload_n 2, 1) := by decide +kernel
theorem dX4_wipe_15 : decode cX4_wipe 15 = .ok (.ifnull 7, 3) := by decide +kernel
theorem dX4_wipe_18 : decode cX4_wipe 18 = .ok (.aload_n 2, 1) := by decide +kernel
theorem dX4_wipe_19 : decode cX4_wipe 19 = .ok (.invokevirtual 33, 3) := by decide +kernel
theorem dX4_wipe_22 : decode cX4_wipe 22 = .ok (.iinc 1 1, 3) := by decide +kernel
theorem dX4_wipe_25 : decode cX4_wipe 25 = .ok (.goto (-23), 3) := by decide +kernel
theorem dX4_wipe_28 : decode cX4_wipe 28 = .ok (.aload_n 0, 1) := by decide +kernel
theorem dX4_wipe_29 : decode cX4_wipe 29 = .ok (.iconst 0, 1) := by decide +kernel
theorem dX4_wipe_30 : decode cX4_wipe 30 = .ok (.putfield 17, 3) := by decide +kernel
theorem dX4_wipe_33 : decode cX4_wipe 33 = .ok (.return_, 1) := by decide +kernel
theorem dX4_learn_0 : decode cX4_learn 0 = .ok (.aload_n 0, 1) := by decide +kernel
theorem dX4_learn_1 : decode cX4_learn 1 = .ok (.aload_n 1, 1) := by decide +kernel
theorem dX4_learn_2 : decode cX4_learn 2 = .ok (.getfield 34, 3) := by decide +kernel
theorem dX4_learn_5 : decode cX4_learn 5 = .ok (.invokevirtual 29, 3) := by decide +kernel
theorem dX4_learn_8 : decode cX4_learn 8 = .ok (.astore_n 2, 1) := by decide +kernel
theorem dX4_learn_9 : decode cX4_learn 9 = .ok (.aload_n 2, 1) := by decide +kernel
theorem dX4_learn_10 : decode cX4_learn 10 = .ok (.ifnonnull 4, 3) := by decide +kernel
theorem dX4_learn_13 : decode cX4_learn 13 = .ok (.return_, 1) := by decide +kernel
theorem dX4_learn_14 : decode cX4_learn 14 = .ok (.aload_n 1, 1) := by decide +kernel
theorem dX4_learn_15 : decode cX4_learn 15 = .ok (.getfield 39, 3) := by decide +kernel
theorem dX4_learn_18 : decode cX4_learn 18 = .ok (.tableswitch 147 5 11 #[42, 69, 96, 107, 147, 147, 136], 42) := by decide +kernel
theorem dX4_learn_60 : decode cX4_learn 60 = .ok (.aload_n 2, 1) := by decide +kernel
theorem dX4_learn_61 : decode cX4_learn 61 = .ok (.aload_n 1, 1) := by decide +kernel
theorem dX4_learn_62 : decode cX4_learn 62 = .ok (.getfield 42, 3) := by decide +kernel
theorem dX4_learn_65 : decode cX4_learn 65 = .ok (.aload_n 1, 1) := by decide +kernel
theorem dX4_learn_66 : decode cX4_learn 66 = .ok (.getfield 45, 3) := by decide +kernel
theorem dX4_learn_69 : decode cX4_learn 69 = .ok (.ifCond .eq 7, 3) := by decide +kernel
theorem dX4_learn_72 : decode cX4_learn 72 = .ok (.iconst 1, 1) := by decide +kernel
theorem dX4_learn_73 : decode cX4_learn 73 = .ok (.goto 4, 3) := by decide +kernel
theorem dX4_learn_76 : decode cX4_learn 76 = .ok (.iconst 0, 1) := by decide +kernel
theorem dX4_learn_77 : decode cX4_learn 77 = .ok (.aload_n 1, 1) := by decide +kernel
theorem dX4_learn_78 : decode cX4_learn 78 = .ok (.getfield 48, 3) := by decide +kernel
theorem dX4_learn_81 : decode cX4_learn 81 = .ok (.invokevirtual 51, 3) := by decide +kernel
theorem dX4_learn_84 : decode cX4_learn 84 = .ok (.goto 87, 3) := by decide +kernel
theorem dX4_learn_87 : decode cX4_learn 87 = .ok (.aload_n 2, 1) := by decide +kernel
theorem dX4_learn_88 : decode cX4_learn 88 = .ok (.aload_n 1, 1) := by decide +kernel
theorem dX4_learn_89 : decode cX4_learn 89 = .ok (.getfield 42, 3) := by decide +kernel
theorem dX4_learn_92 : decode cX4_learn 92 = .ok (.aload_n 1, 1) := by decide +kernel
theorem dX4_learn_93 : decode cX4_learn 93 = .ok (.getfield 45, 3) := by decide +kernel
theorem dX4_learn_96 : decode cX4_learn 96 = .ok (.aload_n 1, 1) := by decide +kernel
theorem dX4_learn_97 : decode cX4_learn 97 = .ok (.getfield 48, 3) := by decide +kernel
theorem dX4_learn_100 : decode cX4_learn 100 = .ok (.ifCond .eq 7, 3) := by decide +kernel
theorem dX4_learn_103 : decode cX4_learn 103 = .ok (.iconst 1, 1) := by decide +kernel
theorem dX4_learn_104 : decode cX4_learn 104 = .ok (.goto 4, 3) := by decide +kernel
theorem dX4_learn_107 : decode cX4_learn 107 = .ok (.iconst 0, 1) := by decide +kernel
theorem dX4_learn_108 : decode cX4_learn 108 = .ok (.invokevirtual 55, 3) := by decide +kernel
theorem dX4_learn_111 : decode cX4_learn 111 = .ok (.goto 60, 3) := by decide +kernel
theorem dX4_learn_114 : decode cX4_learn 114 = .ok (.aload_n 2, 1) := by decide +kernel
theorem dX4_learn_115 : decode cX4_learn 115 = .ok (.aload_n 1, 1) := by decide +kernel
theorem dX4_learn_116 : decode cX4_learn 116 = .ok (.getfield 42, 3) := by decide +kernel
theorem dX4_learn_119 : decode cX4_learn 119 = .ok (.invokevirtual 59, 3) := by decide +kernel
theorem dX4_learn_122 : decode cX4_learn 122 = .ok (.goto 49, 3) := by decide +kernel
theorem dX4_learn_125 : decode cX4_learn 125 = .ok (.aload_n 0, 1) := by decide +kernel
theorem dX4_learn_126 : decode cX4_learn 126 = .ok (.aload_n 1, 1) := by decide +kernel
theorem dX4_learn_127 : decode cX4_learn 127 = .ok (.getfield 45, 3) := by decide +kernel
theorem dX4_learn_130 : decode cX4_learn 130 = .ok (.invokevirtual 29, 3) := by decide +kernel
theorem dX4_learn_133 : decode cX4_learn 133 = .ok (.astore_n 3, 1) := by decide +kernel
theorem dX4_learn_134 : decode cX4_learn 134 = .ok (.aload_n 3, 1) := by decide +kernel
theorem dX4_learn_135 : decode cX4_learn 135 = .ok (.ifnull 36, 3) := by decide +kernel
theorem dX4_learn_138 : decode cX4_learn 138 = .ok (.aload_n 3, 1) := by decide +kernel
theorem dX4_learn_139 : decode cX4_learn 139 = .ok (.aload_n 2, 1) := by decide +kernel
theorem dX4_learn_140 : decode cX4_learn 140 = .ok (.aload_n 1, 1) := by decide +kernel
theorem dX4_learn_141 : decode cX4_learn 141 = .ok (.getfield 42, 3) := by decide +kernel
theorem dX4_learn_144 : decode cX4_learn 144 = .ok (.aload_n 1, 1) := by decide +kernel
theorem dX4_learn_145 : decode cX4_learn 145 = .ok (.getfield 48, 3) := by decide +kernel
theorem dX4_learn_148 : decode cX4_learn 148 = .ok (.invokevirtual 63, 3) := by decide +kernel
theorem dX4_learn_151 : decode cX4_learn 151 = .ok (.goto 20, 3) := by decide +kernel
theorem dX4_learn_154 : decode cX4_learn 154 = .ok (.aload_n 2, 1) := by decide +kernel
theorem dX4_learn_155 : decode cX4_learn 155 = .ok (.aload_n 1, 1) := by decide +kernel
theorem dX4_learn_156 : decode cX4_learn 156 = .ok (.getfield 42, 3) := by decide +kernel
theorem dX4_learn_159 : decode cX4_learn 159 = .ok (.putfield 67, 3) := by decide +kernel
theorem dX4_learn_162 : decode cX4_learn 162 = .ok (.goto 9, 3) := by decide +kernel
theorem dX4_learn_165 : decode cX4_learn 165 = .ok (.aload_n 0, 1) := by decide +kernel
theorem dX4_learn_166 : decode cX4_learn 166 = .ok (.aload_n 2, 1) := by decide +kernel
theorem dX4_learn_167 : decode cX4_learn 167 = .ok (.aload_n 1, 1) := by decide +kernel
theorem dX4_learn_168 : decode cX4_learn 168 = .ok (.invokevirtual 70, 3) := by decide +kernel
theorem dX4_learn_171 : decode cX4_learn 171 = .ok (.return_, 1) := by decide +kernel
theorem dX4_learnOfPlace_0 : decode cX4_learnOfPlace 0 = .ok (.aload_n 1, 1) := by decide +kernel
theorem dX4_learnOfPlace_1 : decode cX4_learnOfPlace 1 = .ok (.aload_n 2, 1) := by decide +kernel
theorem dX4_learnOfPlace_2 : decode cX4_learnOfPlace 2 = .ok (.getfield 42, 3) := by decide +kernel
theorem dX4_learnOfPlace_5 : decode cX4_learnOfPlace 5 = .ok (.invokevirtual 74, 3) := by decide +kernel
theorem dX4_learnOfPlace_8 : decode cX4_learnOfPlace 8 = .ok (.astore_n 3, 1) := by decide +kernel
theorem dX4_learnOfPlace_9 : decode cX4_learnOfPlace 9 = .ok (.aload_n 3, 1) := by decide +kernel
theorem dX4_learnOfPlace_10 : decode cX4_learnOfPlace 10 = .ok (.ifnonnull 4, 3) := by decide +kernel
theorem dX4_learnOfPlace_13 : decode cX4_learnOfPlace 13 = .ok (.return_, 1) := by decide +kernel
theorem dX4_learnOfPlace_14 : decode cX4_learnOfPlace 14 = .ok (.aload_n 2, 1) := by decide +kernel
theorem dX4_learnOfPlace_15 : decode cX4_learnOfPlace 15 = .ok (.getfield 39, 3) := by decide +kernel
theorem dX4_learnOfPlace_18 : decode cX4_learnOfPlace 18 = .ok (.tableswitch 233 0 12 #[66, 74, 104, 139, 174, 233, 233, 233, 233, 198, 217, 233, 89], 66) := by decide +kernel
theorem dX4_learnOfPlace_84 : decode cX4_learnOfPlace 84 = .ok (.aload_n 3, 1) := by decide +kernel
theorem dX4_learnOfPlace_85 : decode cX4_learnOfPlace 85 = .ok (.iconst 1, 1) := by decide +kernel
theorem dX4_learnOfPlace_86 : decode cX4_learnOfPlace 86 = .ok (.putfield 78, 3) := by decide +kernel
theorem dX4_learnOfPlace_89 : decode cX4_learnOfPlace 89 = .ok (.goto 162, 3) := by decide +kernel
theorem dX4_learnOfPlace_92 : decode cX4_learnOfPlace 92 = .ok (.aload_n 3, 1) := by decide +kernel
theorem dX4_learnOfPlace_93 : decode cX4_learnOfPlace 93 = .ok (.aload_n 2, 1) := by decide +kernel
theorem dX4_learnOfPlace_94 : decode cX4_learnOfPlace 94 = .ok (.getfield 45, 3) := by decide +kernel
theorem dX4_learnOfPlace_97 : decode cX4_learnOfPlace 97 = .ok (.aload_n 2, 1) := by decide +kernel
theorem dX4_learnOfPlace_98 : decode cX4_learnOfPlace 98 = .ok (.getfield 48, 3) := by decide +kernel
theorem dX4_learnOfPlace_101 : decode cX4_learnOfPlace 101 = .ok (.invokestatic 83, 3) := by decide +kernel
theorem dX4_learnOfPlace_104 : decode cX4_learnOfPlace 104 = .ok (.goto 147, 3) := by decide +kernel
theorem dX4_learnOfPlace_107 : decode cX4_learnOfPlace 107 = .ok (.aload_n 3, 1) := by decide +kernel
theorem dX4_learnOfPlace_108 : decode cX4_learnOfPlace 108 = .ok (.aload_n 2, 1) := by decide +kernel
theorem dX4_learnOfPlace_109 : decode cX4_learnOfPlace 109 = .ok (.getfield 45, 3) := by decide +kernel
theorem dX4_learnOfPlace_112 : decode cX4_learnOfPlace 112 = .ok (.aload_n 2, 1) := by decide +kernel
theorem dX4_learnOfPlace_113 : decode cX4_learnOfPlace 113 = .ok (.getfield 87, 3) := by decide +kernel
theorem dX4_learnOfPlace_116 : decode cX4_learnOfPlace 116 = .ok (.invokestatic 83, 3) := by decide +kernel
theorem dX4_learnOfPlace_119 : decode cX4_learnOfPlace 119 = .ok (.goto 132, 3) := by decide +kernel
theorem dX4_learnOfPlace_122 : decode cX4_learnOfPlace 122 = .ok (.aload_n 3, 1) := by decide +kernel
theorem dX4_learnOfPlace_123 : decode cX4_learnOfPlace 123 = .ok (.aload_n 2, 1) := by decide +kernel
theorem dX4_learnOfPlace_124 : decode cX4_learnOfPlace 124 = .ok (.getfield 45, 3) := by decide +kernel
theorem dX4_learnOfPlace_127 : decode cX4_learnOfPlace 127 = .ok (.putfield 78, 3) := by decide +kernel
theorem dX4_learnOfPlace_130 : decode cX4_learnOfPlace 130 = .ok (.aload_n 3, 1) := by decide +kernel
theorem dX4_learnOfPlace_131 : decode cX4_learnOfPlace 131 = .ok (.aload_n 2, 1) := by decide +kernel
theorem dX4_learnOfPlace_132 : decode cX4_learnOfPlace 132 = .ok (.getfield 48, 3) := by decide +kernel
theorem dX4_learnOfPlace_135 : decode cX4_learnOfPlace 135 = .ok (.putfield 90, 3) := by decide +kernel
theorem dX4_learnOfPlace_138 : decode cX4_learnOfPlace 138 = .ok (.aload_n 3, 1) := by decide +kernel
theorem dX4_learnOfPlace_139 : decode cX4_learnOfPlace 139 = .ok (.aload_n 2, 1) := by decide +kernel
theorem dX4_learnOfPlace_140 : decode cX4_learnOfPlace 140 = .ok (.getfield 93, 3) := by decide +kernel
theorem dX4_learnOfPlace_143 : decode cX4_learnOfPlace 143 = .ok (.putfield 96, 3) := by decide +kernel
theorem dX4_learnOfPlace_146 : decode cX4_learnOfPlace 146 = .ok (.aload_n 3, 1) := by decide +kernel
theorem dX4_learnOfPlace_147 : decode cX4_learnOfPlace 147 = .ok (.aload_n 2, 1) := by decide +kernel
theorem dX4_learnOfPlace_148 : decode cX4_learnOfPlace 148 = .ok (.getfield 97, 3) := by decide +kernel
theorem dX4_learnOfPlace_151 : decode cX4_learnOfPlace 151 = .ok (.putfield 100, 3) := by decide +kernel
theorem dX4_learnOfPlace_154 : decode cX4_learnOfPlace 154 = .ok (.goto 97, 3) := by decide +kernel
theorem dX4_learnOfPlace_157 : decode cX4_learnOfPlace 157 = .ok (.aload_n 3, 1) := by decide +kernel
theorem dX4_learnOfPlace_158 : decode cX4_learnOfPlace 158 = .ok (.aload_n 2, 1) := by decide +kernel
theorem dX4_learnOfPlace_159 : decode cX4_learnOfPlace 159 = .ok (.getfield 45, 3) := by decide +kernel
theorem dX4_learnOfPlace_162 : decode cX4_learnOfPlace 162 = .ok (.putfield 78, 3) := by decide +kernel
theorem dX4_learnOfPlace_165 : decode cX4_learnOfPlace 165 = .ok (.aload_n 3, 1) := by decide +kernel
theorem dX4_learnOfPlace_166 : decode cX4_learnOfPlace 166 = .ok (.aload_n 2, 1) := by decide +kernel
theorem dX4_learnOfPlace_167 : decode cX4_learnOfPlace 167 = .ok (.getfield 48, 3) := by decide +kernel
theorem dX4_learnOfPlace_170 : decode cX4_learnOfPlace 170 = .ok (.putfield 90, 3) := by decide +kernel
theorem dX4_learnOfPlace_173 : decode cX4_learnOfPlace 173 = .ok (.aload_n 3, 1) := by decide +kernel
theorem dX4_learnOfPlace_174 : decode cX4_learnOfPlace 174 = .ok (.aload_n 2, 1) := by decide +kernel
theorem dX4_learnOfPlace_175 : decode cX4_learnOfPlace 175 = .ok (.getfield 93, 3) := by decide +kernel
theorem dX4_learnOfPlace_178 : decode cX4_learnOfPlace 178 = .ok (.putfield 103, 3) := by decide +kernel
theorem dX4_learnOfPlace_181 : decode cX4_learnOfPlace 181 = .ok (.aload_n 3, 1) := by decide +kernel
theorem dX4_learnOfPlace_182 : decode cX4_learnOfPlace 182 = .ok (.aload_n 2, 1) := by decide +kernel
theorem dX4_learnOfPlace_183 : decode cX4_learnOfPlace 183 = .ok (.getfield 97, 3) := by decide +kernel
theorem dX4_learnOfPlace_186 : decode cX4_learnOfPlace 186 = .ok (.putfield 100, 3) := by decide +kernel
theorem dX4_learnOfPlace_189 : decode cX4_learnOfPlace 189 = .ok (.goto 62, 3) := by decide +kernel
theorem dX4_learnOfPlace_192 : decode cX4_learnOfPlace 192 = .ok (.aload_n 3, 1) := by decide +kernel
theorem dX4_learnOfPlace_193 : decode cX4_learnOfPlace 193 = .ok (.bipush 8, 2) := by decide +kernel
theorem dX4_learnOfPlace_195 : decode cX4_learnOfPlace 195 = .ok (.putfield 78, 3) := by decide +kernel
theorem dX4_learnOfPlace_198 : decode cX4_learnOfPlace 198 = .ok (.aload_n 1, 1) := by decide +kernel
theorem dX4_learnOfPlace_199 : decode cX4_learnOfPlace 199 = .ok (.aload_n 2, 1) := by decide +kernel
theorem dX4_learnOfPlace_200 : decode cX4_learnOfPlace 200 = .ok (.getfield 45, 3) := by decide +kernel
theorem dX4_learnOfPlace_203 : decode cX4_learnOfPlace 203 = .ok (.invokevirtual 74, 3) := by decide +kernel
theorem dX4_learnOfPlace_206 : decode cX4_learnOfPlace 206 = .ok (.aload_n 2, 1) := by decide +kernel
theorem dX4_learnOfPlace_207 : decode cX4_learnOfPlace 207 = .ok (.getfield 42, 3) := by decide +kernel
theorem dX4_learnOfPlace_210 : decode cX4_learnOfPlace 210 = .ok (.invokestatic 106, 3) := by decide +kernel
theorem dX4_learnOfPlace_213 : decode cX4_learnOfPlace 213 = .ok (.goto 38, 3) := by decide +kernel
theorem dX4_learnOfPlace_216 : decode cX4_learnOfPlace 216 = .ok (.aload_n 3, 1) := by decide +kernel
theorem dX4_learnOfPlace_217 : decode cX4_learnOfPlace 217 = .ok (.aload_n 2, 1) := by decide +kernel
theorem dX4_learnOfPlace_218 : decode cX4_learnOfPlace 218 = .ok (.getfield 45, 3) := by decide +kernel
theorem dX4_learnOfPlace_221 : decode cX4_learnOfPlace 221 = .ok (.putfield 110, 3) := by decide +kernel
theorem dX4_learnOfPlace_224 : decode cX4_learnOfPlace 224 = .ok (.aload_n 3, 1) := by decide +kernel
theorem dX4_learnOfPlace_225 : decode cX4_learnOfPlace 225 = .ok (.aload_n 2, 1) := by decide +kernel
theorem dX4_learnOfPlace_226 : decode cX4_learnOfPlace 226 = .ok (.getfield 48, 3) := by decide +kernel
theorem dX4_learnOfPlace_229 : decode cX4_learnOfPlace 229 = .ok (.putfield 113, 3) := by decide +kernel
theorem dX4_learnOfPlace_232 : decode cX4_learnOfPlace 232 = .ok (.goto 19, 3) := by decide +kernel
theorem dX4_learnOfPlace_235 : decode cX4_learnOfPlace 235 = .ok (.aload_n 3, 1) := by decide +kernel
theorem dX4_learnOfPlace_236 : decode cX4_learnOfPlace 236 = .ok (.dup, 1) := by decide +kernel
theorem dX4_learnOfPlace_237 : decode cX4_learnOfPlace 237 = .ok (.getfield 116, 3) := by decide +kernel
theorem dX4_learnOfPlace_240 : decode cX4_learnOfPlace 240 = .ok (.aload_n 2, 1) := by decide +kernel
theorem dX4_learnOfPlace_241 : decode cX4_learnOfPlace 241 = .ok (.getfield 45, 3) := by decide +kernel
theorem dX4_learnOfPlace_244 : decode cX4_learnOfPlace 244 = .ok (.iadd, 1) := by decide +kernel
theorem dX4_learnOfPlace_245 : decode cX4_learnOfPlace 245 = .ok (.putfield 116, 3) := by decide +kernel
theorem dX4_learnOfPlace_248 : decode cX4_learnOfPlace 248 = .ok (.goto 3, 3) := by decide +kernel
theorem dX4_learnOfPlace_251 : decode cX4_learnOfPlace 251 = .ok (.return_, 1) := by decide +kernel
theorem dX4_putTerm_0 : decode cX4_putTerm 0 = .ok (.aload_n 0, 1) := by decide +kernel
theorem dX4_putTerm_1 : decode cX4_putTerm 1 = .ok (.iconst 2, 1) := by decide +kernel
theorem dX4_putTerm_2 : decode cX4_putTerm 2 = .ok (.putfield 78, 3) := by decide +kernel
theorem dX4_putTerm_5 : decode cX4_putTerm 5 = .ok (.aload_n 0, 1) := by decide +kernel
theorem dX4_putTerm_6 : decode cX4_putTerm 6 = .ok (.iload_n 1, 1) := by decide +kernel
theorem dX4_putTerm_7 : decode cX4_putTerm 7 = .ok (.putfield 90, 3) := by decide +kernel
theorem dX4_putTerm_10 : decode cX4_putTerm 10 = .ok (.aload_n 0, 1) := by decide +kernel
theorem dX4_putTerm_11 : decode cX4_putTerm 11 = .ok (.iload_n 2, 1) := by decide +kernel
theorem dX4_putTerm_12 : decode cX4_putTerm 12 = .ok (.putfield 96, 3) := by decide +kernel
theorem dX4_putTerm_15 : decode cX4_putTerm 15 = .ok (.return_, 1) := by decide +kernel
theorem dX4_markQuashed_0 : decode cX4_markQuashed 0 = .ok (.aload_n 0, 1) := by decide +kernel
theorem dX4_markQuashed_1 : decode cX4_markQuashed 1 = .ok (.ifnull 8, 3) := by decide +kernel
theorem dX4_markQuashed_4 : decode cX4_markQuashed 4 = .ok (.aload_n 0, 1) := by decide +kernel
theorem dX4_markQuashed_5 : decode cX4_markQuashed 5 = .ok (.iload_n 1, 1) := by decide +kernel
theorem dX4_markQuashed_6 : decode cX4_markQuashed 6 = .ok (.putfield 119, 3) := by decide +kernel
theorem dX4_markQuashed_9 : decode cX4_markQuashed 9 = .ok (.return_, 1) := by decide +kernel
theorem dX5_init_0 : decode cX5_init 0 = .ok (.aload_n 0, 1) := by decide +kernel
theorem dX5_init_1 : decode cX5_init 1 = .ok (.invokespecial 3, 3) := by decide +kernel
theorem dX5_init_4 : decode cX5_init 4 = .ok (.aload_n 0, 1) := by decide +kernel
theorem dX5_init_5 : decode cX5_init 5 = .ok (.bipush 12, 2) := by decide +kernel
theorem dX5_init_7 : decode cX5_init 7 = .ok (.newarray .int, 2) := by decide +kernel
theorem dX5_init_9 : decode cX5_init 9 = .ok (.putfield 9, 3) := by decide +kernel
theorem dX5_init_12 : decode cX5_init 12 = .ok (.aload_n 0, 1) := by decide +kernel
theorem dX5_init_13 : decode cX5_init 13 = .ok (.iconst 0, 1) := by decide +kernel
theorem dX5_init_14 : decode cX5_init 14 = .ok (.putfield 15, 3) := by decide +kernel
theorem dX5_init_17 : decode cX5_init 17 = .ok (.aload_n 0, 1) := by decide +kernel
theorem dX5_init_18 : decode cX5_init 18 = .ok (.bipush 12, 2) := by decide +kernel
theorem dX5_init_20 : decode cX5_init 20 = .ok (.newarray .int, 2) := by decide +kernel
theorem dX5_init_22 : decode cX5_init 22 = .ok (.putfield 19, 3) := by decide +kernel
theorem dX5_init_25 : decode cX5_init 25 = .ok (.aload_n 0, 1) := by decide +kernel
theorem dX5_init_26 : decode cX5_init 26 = .ok (.bipush 13, 2) := by decide +kernel
theorem dX5_init_28 : decode cX5_init 28 = .ok (.newarray .int, 2) := by decide +kernel
theorem dX5_init_30 : decode cX5_init 30 = .ok (.putfield 22, 3) := by decide +kernel
theorem dX5_init_33 : decode cX5_init 33 = .ok (.return_, 1) := by decide +kernel
theorem dX5_placeAt_0 : decode cX5_placeAt 0 = .ok (.iload_n 1, 1) := by decide +kernel
theorem dX5_placeAt_1 : decode cX5_placeAt 1 = .ok (.ifCond .lt 26, 3) := by decide +kernel
theorem dX5_placeAt_4 : decode cX5_placeAt 4 = .ok (.iload_n 1, 1) := by decide +kernel
theorem dX5_placeAt_5 : decode cX5_placeAt 5 = .ok (.aload_n 0, 1) := by decide +kernel
theorem dX5_placeAt_6 : decode cX5_placeAt 6 = .ok (.getfield 15, 3) := by decide +kernel
theorem dX5_placeAt_9 : decode cX5_placeAt 9 = .ok (.if_icmp .ge 18, 3) := by decide +kernel
theorem dX5_placeAt_12 : decode cX5_placeAt 12 = .ok (.iload_n 1, 1) := by decide +kernel
theorem dX5_placeAt_13 : decode cX5_placeAt 13 = .ok (.bipush 12, 2) := by decide +kernel
theorem dX5_placeAt_15 : decode cX5_placeAt 15 = .ok (.if_icmp .ge 12, 3) := by decide +kernel
theorem dX5_placeAt_18 : decode cX5_placeAt 18 = .ok (.aload_n 0, 1) := by decide +kernel
theorem dX5_placeAt_19 : decode cX5_placeAt 19 = .ok (.getfield 9, 3) := by decide +kernel
theorem dX5_placeAt_22 : decode cX5_placeAt 22 = .ok (.iload_n 1, 1) := by decide +kernel
theorem dX5_placeAt_23 : decode cX5_placeAt 23 = .ok (.iaload, 1) := by decide +kernel
theorem dX5_placeAt_24 : decode cX5_placeAt 24 = .ok (.goto 4, 3) := by decide +kernel
theorem dX5_placeAt_27 : decode cX5_placeAt 27 = .ok (.iconst (-1), 1) := by decide +kernel
theorem dX5_placeAt_28 : decode cX5_placeAt 28 = .ok (.ireturn, 1) := by decide +kernel
theorem dX5_closes_0 : decode cX5_closes 0 = .ok (.aload_n 1, 1) := by decide +kernel
theorem dX5_closes_1 : decode cX5_closes 1 = .ok (.ifnull 10, 3) := by decide +kernel
theorem dX5_closes_4 : decode cX5_closes 4 = .ok (.iload_n 2, 1) := by decide +kernel
theorem dX5_closes_5 : decode cX5_closes 5 = .ok (.invokestatic 25, 3) := by decide +kernel
theorem dX5_closes_8 : decode cX5_closes 8 = .ok (.ifCond .ne 5, 3) := by decide +kernel
theorem dX5_closes_11 : decode cX5_closes 11 = .ok (.iconst 0, 1) := by decide +kernel
theorem dX5_closes_12 : decode cX5_closes 12 = .ok (.ireturn, 1) := by decide +kernel
theorem dX5_closes_13 : decode cX5_closes 13 = .ok (.aload_n 0, 1) := by decide +kernel
theorem dX5_closes_14 : decode cX5_closes 14 = .ok (.aload_n 1, 1) := by decide +kernel
theorem dX5_closes_15 : decode cX5_closes 15 = .ok (.iload_n 2, 1) := by decide +kernel
theorem dX5_closes_16 : decode cX5_closes 16 = .ok (.iload_n 3, 1) := by decide +kernel
theorem dX5_closes_17 : decode cX5_closes 17 = .ok (.invokevirtual 29, 3) := by decide +kernel
theorem dX5_closes_20 : decode cX5_closes 20 = .ok (.aload_n 0, 1) := by decide +kernel
theorem dX5_closes_21 : decode cX5_closes 21 = .ok (.iload_n 2, 1) := by decide +kernel
theorem dX5_closes_22 : decode cX5_closes 22 = .ok (.invokevirtual 33, 3) := by decide +kernel
theorem dX5_closes_25 : decode cX5_closes 25 = .ok (.istore 4, 2) := by decide +kernel
theorem dX5_closes_27 : decode cX5_closes 27 = .ok (.iload 4, 2) := by decide +kernel
theorem dX5_closes_29 : decode cX5_closes 29 = .ok (.ifCond .ne 5, 3) := by decide +kernel
theorem dX5_closes_32 : decode cX5_closes 32 = .ok (.iconst 0, 1) := by decide +kernel
theorem dX5_closes_33 : decode cX5_closes 33 = .ok (.ireturn, 1) := by decide +kernel
theorem dX5_closes_34 : decode cX5_closes 34 = .ok (.iconst 0, 1) := by decide +kernel
theorem dX5_closes_35 : decode cX5_closes 35 = .ok (.istore 5, 2) := by decide +kernel
theorem dX5_closes_37 : decode cX5_closes 37 = .ok (.iload 5, 2) := by decide +kernel
theorem dX5_closes_39 : decode cX5_closes 39 = .ok (.bipush 12, 2) := by decide +kernel
theorem dX5_closes_41 : decode cX5_closes 41 = .ok (.if_icmp .ge 42, 3) := by decide +kernel
theorem dX5_closes_44 : decode cX5_closes 44 = .ok (.aload_n 0, 1) := by decide +kernel
theorem dX5_closes_45 : decode cX5_closes 45 = .ok (.iload 5, 2) := by decide +kernel
theorem dX5_closes_47 : decode cX5_closes 47 = .ok (.iload 4, 2) := by decide +kernel
theorem dX5_closes_49 : decode cX5_closes 49 = .ok (.invokevirtual 37, 3) := by decide +kernel
theorem dX5_closes_52 : decode cX5_closes 52 = .ok (.aload_n 0, 1) := by decide +kernel
theorem dX5_closes_53 : decode cX5_closes 53 = .ok (.getfield 22, 3) := by decide +kernel
theorem dX5_closes_56 : decode cX5_closes 56 = .ok (.iload 4, 2) := by decide +kernel
theorem dX5_closes_58 : decode cX5_closes 58 = .ok (.iaload, 1) := by decide +kernel
theorem dX5_closes_59 : decode cX5_closes 59 = .ok (.iload 5, 2) := by decide +kernel
theorem dX5_closes_61 : decode cX5_closes 61 = .ok (.invokestatic 41, 3) := by decide +kernel
theorem dX5_closes_64 : decode cX5_closes 64 = .ok (.ifCond .eq 13, 3) := by decide +kernel
theorem dX5_closes_67 : decode cX5_closes 67 = .ok (.aload_n 0, 1) := by decide +kernel
theorem dX5_closes_68 : decode cX5_closes 68 = .ok (.iload 5, 2) := by decide +kernel
theorem dX5_closes_70 : decode cX5_closes 70 = .ok (.iload 4, 2) := by decide +kernel
theorem dX5_closes_72 : decode cX5_closes 72 = .ok (.invokevirtual 45, 3) := by decide +kernel
theorem dX5_closes_75 : decode cX5_closes 75 = .ok (.iconst 1, 1) := by decide +kernel
theorem dX5_closes_76 : decode cX5_closes 76 = .ok (.ireturn, 1) := by decide +kernel
theorem dX5_closes_77 : decode cX5_closes 77 = .ok (.iinc 5 1, 3) := by decide +kernel
theorem dX5_closes_80 : decode cX5_closes 80 = .ok (.goto (-43), 3) := by decide +kernel
theorem dX5_closes_83 : decode cX5_closes 83 = .ok (.iconst 0, 1) := by decide +kernel
theorem dX5_closes_84 : decode cX5_closes 84 = .ok (.ireturn, 1) := by decide +kernel
theorem dX5_findNext_0 : decode cX5_findNext 0 = .ok (.iconst 0, 1) := by decide +kernel
theorem dX5_findNext_1 : decode cX5_findNext 1 = .ok (.istore 4, 2) := by decide +kernel
theorem dX5_findNext_3 : decode cX5_findNext 3 = .ok (.iload 4, 2) := by decide +kernel
theorem dX5_findNext_5 : decode cX5_findNext 5 = .ok (.bipush 12, 2) := by decide +kernel
theorem dX5_findNext_7 : decode cX5_findNext 7 = .ok (.if_icmp .ge 46, 3) := by decide +kernel
theorem dX5_findNext_10 : decode cX5_findNext 10 = .ok (.aload_n 1, 1) := by decide +kernel
theorem dX5_findNext_11 : decode cX5_findNext 11 = .ok (.iload 4, 2) := by decide +kernel
theorem dX5_findNext_13 : decode cX5_findNext 13 = .ok (.invokevirtual 48, 3) := by decide +kernel
theorem dX5_findNext_16 : decode cX5_findNext 16 = .ok (.astore 5, 2) := by decide +kernel
theorem dX5_findNext_18 : decode cX5_findNext 18 = .ok (.aload_n 0, 1) := by decide +kernel
theorem dX5_findNext_19 : decode cX5_findNext 19 = .ok (.getfield 19, 3) := by decide +kernel
theorem dX5_findNext_22 : decode cX5_findNext 22 = .ok (.iload 4, 2) := by decide +kernel
theorem dX5_findNext_24 : decode cX5_findNext 24 = .ok (.aload 5, 2) := by decide +kernel
theorem dX5_findNext_26 : decode cX5_findNext 26 = .ok (.ifnull 19, 3) := by decide +kernel
theorem dX5_findNext_29 : decode cX5_findNext 29 = .ok (.aload 5, 2) := by decide +kernel
theorem dX5_findNext_31 : decode cX5_findNext 31 = .ok (.invokevirtual 54, 3) := by decide +kernel
theorem dX5_findNext_34 : decode cX5_findNext 34 = .ok (.ifCond .eq 11, 3) := by decide +kernel
theorem dX5_findNext_37 : decode cX5_findNext 37 = .ok (.aload 5, 2) := by decide +kernel
theorem dX5_findNext_39 : decode cX5_findNext 39 = .ok (.getfield 60, 3) := by decide +kernel
theorem dX5_findNext_42 : decode cX5_findNext 42 = .ok (.goto 4, 3) := by decide +kernel
theorem dX5_findNext_45 : decode cX5_findNext 45 = .ok (.iconst 0, 1) := by decide +kernel
theorem dX5_findNext_46 : decode cX5_findNext 46 = .ok (.iastore, 1) := by decide +kernel
theorem dX5_findNext_47 : decode cX5_findNext 47 = .ok (.iinc 4 1, 3) := by decide +kernel
theorem dX5_findNext_50 : decode cX5_findNext 50 = .ok (.goto (-47), 3) := by decide +kernel
theorem dX5_findNext_53 : decode cX5_findNext 53 = .ok (.aload_n 0, 1) := by decide +kernel
theorem dX5_findNext_54 : decode cX5_findNext 54 = .ok (.getfield 19, 3) := by decide +kernel
theorem dX5_findNext_57 : decode cX5_findNext 57 = .ok (.iload_n 2, 1) := by decide +kernel
theorem dX5_findNext_58 : decode cX5_findNext 58 = .ok (.iload_n 3, 1) := by decide +kernel
theorem dX5_findNext_59 : decode cX5_findNext 59 = .ok (.iastore, 1) := by decide +kernel
theorem dX5_findNext_60 : decode cX5_findNext 60 = .ok (.return_, 1) := by decide +kernel
theorem dX5_lengthOfLeast_0 : decode cX5_lengthOfLeast 0 = .ok (.iconst 1, 1) := by decide +kernel
theorem dX5_lengthOfLeast_1 : decode cX5_lengthOfLeast 1 = .ok (.iload_n 1, 1) := by decide +kernel
theorem dX5_lengthOfLeast_2 : decode cX5_lengthOfLeast 2 = .ok (.ishl, 1) := by decide +kernel
theorem dX5_lengthOfLeast_3 : decode cX5_lengthOfLeast 3 = .ok (.istore_n 2, 1) := by decide +kernel
theorem dX5_lengthOfLeast_4 : decode cX5_lengthOfLeast 4 = .ok (.iconst 1, 1) := by decide +kernel
theorem dX5_lengthOfLeast_5 : decode cX5_lengthOfLeast 5 = .ok (.istore_n 3, 1) := by decide +kernel
theorem dX5_lengthOfLeast_6 : decode cX5_lengthOfLeast 6 = .ok (.iload_n 3, 1) := by decide +kernel
theorem dX5_lengthOfLeast_7 : decode cX5_lengthOfLeast 7 = .ok (.bipush 12, 2) := by decide +kernel
theorem dX5_lengthOfLeast_9 : decode cX5_lengthOfLeast 9 = .ok (.if_icmp .gt 63, 3) := by decide +kernel
theorem dX5_lengthOfLeast_12 : decode cX5_lengthOfLeast 12 = .ok (.iconst 0, 1) := by decide +kernel
theorem dX5_lengthOfLeast_13 : decode cX5_lengthOfLeast 13 = .ok (.istore 4, 2) := by decide +kernel
theorem dX5_lengthOfLeast_15 : decode cX5_lengthOfLeast 15 = .ok (.iconst 0, 1) := by decide +kernel
theorem dX5_lengthOfLeast_16 : decode cX5_lengthOfLeast 16 = .ok (.istore 5, 2) := by decide +kernel
theorem dX5_lengthOfLeast_18 : decode cX5_lengthOfLeast 18 = .ok (.iload 5, 2) := by decide +kernel
theorem dX5_lengthOfLeast_20 : decode cX5_lengthOfLeast 20 = .ok (.bipush 12, 2) := by decide +kernel
theorem dX5_lengthOfLeast_22 : decode cX5_lengthOfLeast 22 = .ok (.if_icmp .ge 30, 3) := by decide +kernel
theorem dX5_lengthOfLeast_25 : decode cX5_lengthOfLeast 25 = .ok (.iload_n 2, 1) := by decide +kernel
theorem dX5_lengthOfLeast_26 : decode cX5_lengthOfLeast 26 = .ok (.iload 5, 2) := by decide +kernel
theorem dX5_lengthOfLeast_28 : decode cX5_lengthOfLeast 28 = .ok (.invokestatic 41, 3) := by decide +kernel
theorem dX5_lengthOfLeast_31 : decode cX5_lengthOfLeast 31 = .ok (.ifCond .eq 15, 3) := by decide +kernel
theorem dX5_lengthOfLeast_34 : decode cX5_lengthOfLeast 34 = .ok (.iload 4, 2) := by decide +kernel
theorem dX5_lengthOfLeast_36 : decode cX5_lengthOfLeast 36 = .ok (.aload_n 0, 1) := by decide +kernel
theorem dX5_lengthOfLeast_37 : decode cX5_lengthOfLeast 37 = .ok (.getfield 19, 3) := by decide +kernel
theorem dX5_lengthOfLeast_40 : decode cX5_lengthOfLeast 40 = .ok (.iload 5, 2) := by decide +kernel
theorem dX5_lengthOfLeast_42 : decode cX5_lengthOfLeast 42 = .ok (.iaload, 1) := by decide +kernel
theorem dX5_lengthOfLeast_43 : decode cX5_lengthOfLeast 43 = .ok (.ior, 1) := by decide +kernel
theorem dX5_lengthOfLeast_44 : decode cX5_lengthOfLeast 44 = .ok (.istore 4, 2) := by decide +kernel
theorem dX5_lengthOfLeast_46 : decode cX5_lengthOfLeast 46 = .ok (.iinc 5 1, 3) := by decide +kernel
theorem dX5_lengthOfLeast_49 : decode cX5_lengthOfLeast 49 = .ok (.goto (-31), 3) := by decide +kernel
theorem dX5_lengthOfLeast_52 : decode cX5_lengthOfLeast 52 = .ok (.iload 4, 2) := by decide +kernel
theorem dX5_lengthOfLeast_54 : decode cX5_lengthOfLeast 54 = .ok (.iload_n 1, 1) := by decide +kernel
theorem dX5_lengthOfLeast_55 : decode cX5_lengthOfLeast 55 = .ok (.invokestatic 41, 3) := by decide +kernel
theorem dX5_lengthOfLeast_58 : decode cX5_lengthOfLeast 58 = .ok (.ifCond .eq 5, 3) := by decide +kernel
theorem dX5_lengthOfLeast_61 : decode cX5_lengthOfLeast 61 = .ok (.iload_n 3, 1) := by decide +kernel
theorem dX5_lengthOfLeast_62 : decode cX5_lengthOfLeast 62 = .ok (.ireturn, 1) := by decide +kernel
theorem dX5_lengthOfLeast_63 : decode cX5_lengthOfLeast 63 = .ok (.iload 4, 2) := by decide +kernel
theorem dX5_lengthOfLeast_65 : decode cX5_lengthOfLeast 65 = .ok (.istore_n 2, 1) := by decide +kernel
theorem dX5_lengthOfLeast_66 : decode cX5_lengthOfLeast 66 = .ok (.iinc 3 1, 3) := by decide +kernel
theorem dX5_lengthOfLeast_69 : decode cX5_lengthOfLeast 69 = .ok (.goto (-63), 3) := by decide +kernel
theorem dX5_lengthOfLeast_72 : decode cX5_lengthOfLeast 72 = .ok (.iconst 0, 1) := by decide +kernel
theorem dX5_lengthOfLeast_73 : decode cX5_lengthOfLeast 73 = .ok (.ireturn, 1) := by decide +kernel
theorem dX5_findLeads_0 : decode cX5_findLeads 0 = .ok (.aload_n 0, 1) := by decide +kernel
theorem dX5_findLeads_1 : decode cX5_findLeads 1 = .ok (.getfield 22, 3) := by decide +kernel
theorem dX5_findLeads_4 : decode cX5_findLeads 4 = .ok (.iconst 0, 1) := by decide +kernel
theorem dX5_findLeads_5 : decode cX5_findLeads 5 = .ok (.iconst 1, 1) := by decide +kernel
theorem dX5_findLeads_6 : decode cX5_findLeads 6 = .ok (.iload_n 1, 1) := by decide +kernel
theorem dX5_findLeads_7 : decode cX5_findLeads 7 = .ok (.ishl, 1) := by decide +kernel
theorem dX5_findLeads_8 : decode cX5_findLeads 8 = .ok (.iastore, 1) := by decide +kernel
theorem dX5_findLeads_9 : decode cX5_findLeads 9 = .ok (.iconst 1, 1) := by decide +kernel
theorem dX5_findLeads_10 : decode cX5_findLeads 10 = .ok (.istore_n 3, 1) := by decide +kernel
theorem dX5_findLeads_11 : decode cX5_findLeads 11 = .ok (.iload_n 3, 1) := by decide +kernel
theorem dX5_findLeads_12 : decode cX5_findLeads 12 = .ok (.iload_n 2, 1) := by decide +kernel
theorem dX5_findLeads_13 : decode cX5_findLeads 13 = .ok (.if_icmp .gt 70, 3) := by decide +kernel
theorem dX5_findLeads_16 : decode cX5_findLeads 16 = .ok (.iload_n 3, 1) := by decide +kernel
theorem dX5_findLeads_17 : decode cX5_findLeads 17 = .ok (.bipush 12, 2) := by decide +kernel
theorem dX5_findLeads_19 : decode cX5_findLeads 19 = .ok (.if_icmp .gt 64, 3) := by decide +kernel
theorem dX5_findLeads_22 : decode cX5_findLeads 22 = .ok (.aload_n 0, 1) := by decide +kernel
theorem dX5_findLeads_23 : decode cX5_findLeads 23 = .ok (.getfield 22, 3) := by decide +kernel
theorem dX5_findLeads_26 : decode cX5_findLeads 26 = .ok (.iload_n 3, 1) := by decide +kernel
theorem dX5_findLeads_27 : decode cX5_findLeads 27 = .ok (.iconst 0, 1) := by decide +kernel
theorem dX5_findLeads_28 : decode cX5_findLeads 28 = .ok (.iastore, 1) := by decide +kernel
theorem dX5_findLeads_29 : decode cX5_findLeads 29 = .ok (.iconst 0, 1) := by decide +kernel
theorem dX5_findLeads_30 : decode cX5_findLeads 30 = .ok (.istore 4, 2) := by decide +kernel
theorem dX5_findLeads_32 : decode cX5_findLeads 32 = .ok (.iload 4, 2) := by decide +kernel
theorem dX5_findLeads_34 : decode cX5_findLeads 34 = .ok (.bipush 12, 2) := by decide +kernel
theorem dX5_findLeads_36 : decode cX5_findLeads 36 = .ok (.if_icmp .ge 41, 3) := by decide +kernel
theorem dX5_findLeads_39 : decode cX5_findLeads 39 = .ok (.aload_n 0, 1) := by decide +kernel
theorem dX5_findLeads_40 : decode cX5_findLeads 40 = .ok (.getfield 19, 3) := by decide +kernel
theorem dX5_findLeads_43 : decode cX5_findLeads 43 = .ok (.iload 4, 2) := by decide +kernel
theorem dX5_findLeads_45 : decode cX5_findLeads 45 = .ok (.iaload, 1) := by decide +kernel
theorem dX5_findLeads_46 : decode cX5_findLeads 46 = .ok (.aload_n 0, 1) := by decide +kernel
theorem dX5_findLeads_47 : decode cX5_findLeads 47 = .ok (.getfield 22, 3) := by decide +kernel
theorem dX5_findLeads_50 : decode cX5_findLeads 50 = .ok (.iload_n 3, 1) := by decide +kernel
theorem dX5_findLeads_51 : decode cX5_findLeads 51 = .ok (.iconst 1, 1) := by decide +kernel
theorem dX5_findLeads_52 : decode cX5_findLeads 52 = .ok (.isub, 1) := by decide +kernel
theorem dX5_findLeads_53 : decode cX5_findLeads 53 = .ok (.iaload, 1) := by decide +kernel
theorem dX5_findLeads_54 : decode cX5_findLeads 54 = .ok (.iand, 1) := by decide +kernel
theorem dX5_findLeads_55 : decode cX5_findLeads 55 = .ok (.ifCond .eq 16, 3) := by decide +kernel
theorem dX5_findLeads_58 : decode cX5_findLeads 58 = .ok (.aload_n 0, 1) := by decide +kernel
theorem dX5_findLeads_59 : decode cX5_findLeads 59 = .ok (.getfield 22, 3) := by decide +kernel
theorem dX5_findLeads_62 : decode cX5_findLeads 62 = .ok (.iload_n 3, 1) := by decide +kernel
theorem dX5_findLeads_63 : decode cX5_findLeads 63 = .ok (.dup2, 1) := by decide +kernel
theorem dX5_findLeads_64 : decode cX5_findLeads 64 = .ok (.iaload, 1) := by decide +kernel
theorem dX5_findLeads_65 : decode cX5_findLeads 65 = .ok (.iconst 1, 1) := by decide +kernel
theorem dX5_findLeads_66 : decode cX5_findLeads 66 = .ok (.iload 4, 2) := by decide +kernel
theorem dX5_findLeads_68 : decode cX5_findLeads 68 = .ok (.ishl, 1) := by decide +kernel
theorem dX5_findLeads_69 : decode cX5_findLeads 69 = .ok (.ior, 1) := by decide +kernel
theorem dX5_findLeads_70 : decode cX5_findLeads 70 = .ok (.iastore, 1) := by decide +kernel
theorem dX5_findLeads_71 : decode cX5_findLeads 71 = .ok (.iinc 4 1, 3) := by decide +kernel
theorem dX5_findLeads_74 : decode cX5_findLeads 74 = .ok (.goto (-42), 3) := by decide +kernel
theorem dX5_findLeads_77 : decode cX5_findLeads 77 = .ok (.iinc 3 1, 3) := by decide +kernel
theorem dX5_findLeads_80 : decode cX5_findLeads 80 = .ok (.goto (-69), 3) := by decide +kernel
theorem dX5_findLeads_83 : decode cX5_findLeads 83 = .ok (.return_, 1) := by decide +kernel
theorem dX5_keep_0 : decode cX5_keep 0 = .ok (.iload_n 1, 1) := by decide +kernel
theorem dX5_keep_1 : decode cX5_keep 1 = .ok (.istore_n 3, 1) := by decide +kernel
theorem dX5_keep_2 : decode cX5_keep 2 = .ok (.aload_n 0, 1) := by decide +kernel
theorem dX5_keep_3 : decode cX5_keep 3 = .ok (.iconst 0, 1) := by decide +kernel
theorem dX5_keep_4 : decode cX5_keep 4 = .ok (.putfield 15, 3) := by decide +kernel
theorem dX5_keep_7 : decode cX5_keep 7 = .ok (.iload_n 2, 1) := by decide +kernel
theorem dX5_keep_8 : decode cX5_keep 8 = .ok (.iconst 1, 1) := by decide +kernel
theorem dX5_keep_9 : decode cX5_keep 9 = .ok (.isub, 1) := by decide +kernel
theorem dX5_keep_10 : decode cX5_keep 10 = .ok (.istore 4, 2) := by decide +kernel
theorem dX5_keep_12 : decode cX5_keep 12 = .ok (.iload 4, 2) := by decide +kernel
theorem dX5_keep_14 : decode cX5_keep 14 = .ok (.ifCond .lt 61, 3) := by decide +kernel
theorem dX5_keep_17 : decode cX5_keep 17 = .ok (.iload 4, 2) := by decide +kernel
theorem dX5_keep_19 : decode cX5_keep 19 = .ok (.bipush 12, 2) := by decide +kernel
theorem dX5_keep_21 : decode cX5_keep 21 = .ok (.if_icmp .ge 54, 3) := by decide +kernel
theorem dX5_keep_24 : decode cX5_keep 24 = .ok (.iload_n 3, 1) := by decide +kernel
theorem dX5_keep_25 : decode cX5_keep 25 = .ok (.invokestatic 25, 3) := by decide +kernel
theorem dX5_keep_28 : decode cX5_keep 28 = .ok (.ifCond .eq 47, 3) := by decide +kernel
theorem dX5_keep_31 : decode cX5_keep 31 = .ok (.aload_n 0, 1) := by decide +kernel
theorem dX5_keep_32 : decode cX5_keep 32 = .ok (.getfield 9, 3) := by decide +kernel
theorem dX5_keep_35 : decode cX5_keep 35 = .ok (.aload_n 0, 1) := by decide +kernel
theorem dX5_keep_36 : decode cX5_keep 36 = .ok (.getfield 15, 3) := by decide +kernel
theorem dX5_keep_39 : decode cX5_keep 39 = .ok (.iload_n 3, 1) := by decide +kernel
theorem dX5_keep_40 : decode cX5_keep 40 = .ok (.iastore, 1) := by decide +kernel
theorem dX5_keep_41 : decode cX5_keep 41 = .ok (.aload_n 0, 1) := by decide +kernel
theorem dX5_keep_42 : decode cX5_keep 42 = .ok (.dup, 1) := by decide +kernel
theorem dX5_keep_43 : decode cX5_keep 43 = .ok (.getfield 15, 3) := by decide +kernel
theorem dX5_keep_46 : decode cX5_keep 46 = .ok (.iconst 1, 1) := by decide +kernel
theorem dX5_keep_47 : decode cX5_keep 47 = .ok (.iadd, 1) := by decide +kernel
theorem dX5_keep_48 : decode cX5_keep 48 = .ok (.putfield 15, 3) := by decide +kernel
theorem dX5_keep_51 : decode cX5_keep 51 = .ok (.aload_n 0, 1) := by decide +kernel
theorem dX5_keep_52 : decode cX5_keep 52 = .ok (.getfield 19, 3) := by decide +kernel
theorem dX5_keep_55 : decode cX5_keep 55 = .ok (.iload_n 3, 1) := by decide +kernel
theorem dX5_keep_56 : decode cX5_keep 56 = .ok (.iaload, 1) := by decide +kernel
theorem dX5_keep_57 : decode cX5_keep 57 = .ok (.aload_n 0, 1) := by decide +kernel
theorem dX5_keep_58 : decode cX5_keep 58 = .ok (.getfield 22, 3) := by decide +kernel
theorem dX5_keep_61 : decode cX5_keep 61 = .ok (.iload 4, 2) := by decide +kernel
theorem dX5_keep_63 : decode cX5_keep 63 = .ok (.iaload, 1) := by decide +kernel
theorem dX5_keep_64 : decode cX5_keep 64 = .ok (.iand, 1) := by decide +kernel
theorem dX5_keep_65 : decode cX5_keep 65 = .ok (.invokestatic 63, 3) := by decide +kernel
theorem dX5_keep_68 : decode cX5_keep 68 = .ok (.istore_n 3, 1) := by decide +kernel
theorem dX5_keep_69 : decode cX5_keep 69 = .ok (.iinc 4 (-1), 3) := by decide +kernel
theorem dX5_keep_72 : decode cX5_keep 72 = .ok (.goto (-60), 3) := by decide +kernel
theorem dX5_keep_75 : decode cX5_keep 75 = .ok (.return_, 1) := by decide +kernel
theorem dX6_init_0 : decode cX6_init 0 = .ok (.aload_n 0, 1) := by decide +kernel
theorem dX6_init_1 : decode cX6_init 1 = .ok (.invokespecial 3, 3) := by decide +kernel
theorem dX6_init_4 : decode cX6_init 4 = .ok (.aload_n 0, 1) := by decide +kernel
theorem dX6_init_5 : decode cX6_init 5 = .ok (.iconst 0, 1) := by decide +kernel
theorem dX6_init_6 : decode cX6_init 6 = .ok (.putfield 9, 3) := by decide +kernel
theorem dX6_init_9 : decode cX6_init 9 = .ok (.aload_n 0, 1) := by decide +kernel
theorem dX6_init_10 : decode cX6_init 10 = .ok (.iconst 0, 1) := by decide +kernel
theorem dX6_init_11 : decode cX6_init 11 = .ok (.putfield 15, 3) := by decide +kernel
theorem dX6_init_14 : decode cX6_init 14 = .ok (.aload_n 0, 1) := by decide +kernel
theorem dX6_init_15 : decode cX6_init 15 = .ok (.iconst 0, 1) := by decide +kernel
theorem dX6_init_16 : decode cX6_init 16 = .ok (.putfield 18, 3) := by decide +kernel
theorem dX6_init_19 : decode cX6_init 19 = .ok (.aload_n 0, 1) := by decide +kernel
theorem dX6_init_20 : decode cX6_init 20 = .ok (.iconst 0, 1) := by decide +kernel
theorem dX6_init_21 : decode cX6_init 21 = .ok (.putfield 21, 3) := by decide +kernel
theorem dX6_init_24 : decode cX6_init 24 = .ok (.aload_n 0, 1) := by decide +kernel
theorem dX6_init_25 : decode cX6_init 25 = .ok (.iconst 0, 1) := by decide +kernel
theorem dX6_init_26 : decode cX6_init 26 = .ok (.putfield 24, 3) := by decide +kernel
theorem dX6_init_29 : decode cX6_init 29 = .ok (.aload_n 0, 1) := by decide +kernel
theorem dX6_init_30 : decode cX6_init 30 = .ok (.iconst 0, 1) := by decide +kernel
theorem dX6_init_31 : decode cX6_init 31 = .ok (.putfield 27, 3) := by decide +kernel
theorem dX6_init_34 : decode cX6_init 34 = .ok (.return_, 1) := by decide +kernel
theorem dX6_start_0 : decode cX6_start 0 = .ok (.aload_n 0, 1) := by decide +kernel
theorem dX6_start_1 : decode cX6_start 1 = .ok (.aload_n 1, 1) := by decide +kernel
theorem dX6_start_2 : decode cX6_start 2 = .ok (.getfield 30, 3) := by decide +kernel
theorem dX6_start_5 : decode cX6_start 5 = .ok (.putfield 9, 3) := by decide +kernel
theorem dX6_start_8 : decode cX6_start 8 = .ok (.aload_n 0, 1) := by decide +kernel
theorem dX6_start_9 : decode cX6_start 9 = .ok (.aload_n 1, 1) := by decide +kernel
theorem dX6_start_10 : decode cX6_start 10 = .ok (.invokevirtual 33, 3) := by decide +kernel
theorem dX6_start_13 : decode cX6_start 13 = .ok (.putfield 15, 3) := by decide +kernel
theorem dX6_start_16 : decode cX6_start 16 = .ok (.aload_n 0, 1) := by decide +kernel
theorem dX6_start_17 : decode cX6_start 17 = .ok (.aload_n 1, 1) := by decide +kernel
theorem dX6_start_18 : decode cX6_start 18 = .ok (.getfield 36, 3) := by decide +kernel
theorem dX6_start_21 : decode cX6_start 21 = .ok (.putfield 18, 3) := by decide +kernel
theorem dX6_start_24 : decode cX6_start 24 = .ok (.aload_n 0, 1) := by decide +kernel
theorem dX6_start_25 : decode cX6_start 25 = .ok (.iconst 0, 1) := by decide +kernel
theorem dX6_start_26 : decode cX6_start 26 = .ok (.putfield 21, 3) := by decide +kernel
theorem dX6_start_29 : decode cX6_start 29 = .ok (.aload_n 0, 1) := by decide +kernel
theorem dX6_start_30 : decode cX6_start 30 = .ok (.iconst 0, 1) := by decide +kernel
theorem dX6_start_31 : decode cX6_start 31 = .ok (.putfield 24, 3) := by decide +kernel
theorem dX6_start_34 : decode cX6_start 34 = .ok (.aload_n 0, 1) := by decide +kernel
theorem dX6_start_35 : decode cX6_start 35 = .ok (.iconst 0, 1) := by decide +kernel
theorem dX6_start_36 : decode cX6_start 36 = .ok (.putfield 27, 3) := by decide +kernel
theorem dX6_start_39 : decode cX6_start 39 = .ok (.return_, 1) := by decide +kernel
theorem dX6_takenWith_0 : decode cX6_takenWith 0 = .ok (.aload_n 0, 1) := by decide +kernel
theorem dX6_takenWith_1 : decode cX6_takenWith 1 = .ok (.getfield 9, 3) := by decide +kernel
theorem dX6_takenWith_4 : decode cX6_takenWith 4 = .ok (.ifCond .le 29, 3) := by decide +kernel
theorem dX6_takenWith_7 : decode cX6_takenWith 7 = .ok (.aload_n 0, 1) := by decide +kernel
theorem dX6_takenWith_8 : decode cX6_takenWith 8 = .ok (.getfield 15, 3) := by decide +kernel
theorem dX6_takenWith_11 : decode cX6_takenWith 11 = .ok (.aload_n 0, 1) := by decide +kernel
theorem dX6_takenWith_12 : decode cX6_takenWith 12 = .ok (.getfield 24, 3) := by decide +kernel
theorem dX6_takenWith_15 : decode cX6_takenWith 15 = .ok (.aload_n 0, 1) := by decide +kernel
theorem dX6_takenWith_16 : decode cX6_takenWith 16 = .ok (.getfield 27, 3) := by decide +kernel
theorem dX6_takenWith_19 : decode cX6_takenWith 19 = .ok (.iload_n 1, 1) := by decide +kernel
theorem dX6_takenWith_20 : decode cX6_takenWith 20 = .ok (.iadd, 1) := by decide +kernel
theorem dX6_takenWith_21 : decode cX6_takenWith 21 = .ok (.aload_n 0, 1) := by decide +kernel
theorem dX6_takenWith_22 : decode cX6_takenWith 22 = .ok (.getfield 9, 3) := by decide +kernel
theorem dX6_takenWith_25 : decode cX6_takenWith 25 = .ok (.idiv, 1) := by decide +kernel
theorem dX6_takenWith_26 : decode cX6_takenWith 26 = .ok (.iadd, 1) := by decide +kernel
theorem dX6_takenWith_27 : decode cX6_takenWith 27 = .ok (.invokestatic 37, 3) := by decide +kernel
theorem dX6_takenWith_30 : decode cX6_takenWith 30 = .ok (.goto 4, 3) := by decide +kernel
theorem dX6_takenWith_33 : decode cX6_takenWith 33 = .ok (.iconst 0, 1) := by decide +kernel
theorem dX6_takenWith_34 : decode cX6_takenWith 34 = .ok (.ireturn, 1) := by decide +kernel
theorem dX6_reachedWith_0 : decode cX6_reachedWith 0 = .ok (.aload_n 0, 1) := by decide +kernel
theorem dX6_reachedWith_1 : decode cX6_reachedWith 1 = .ok (.getfield 21, 3) := by decide +kernel
theorem dX6_reachedWith_4 : decode cX6_reachedWith 4 = .ok (.iload_n 1, 1) := by decide +kernel
theorem dX6_reachedWith_5 : decode cX6_reachedWith 5 = .ok (.iadd, 1) := by decide +kernel
theorem dX6_reachedWith_6 : decode cX6_reachedWith 6 = .ok (.iconst 0, 1) := by decide +kernel
theorem dX6_reachedWith_7 : decode cX6_reachedWith 7 = .ok (.aload_n 0, 1) := by decide +kernel
theorem dX6_reachedWith_8 : decode cX6_reachedWith 8 = .ok (.iload_n 1, 1) := by decide +kernel
theorem dX6_reachedWith_9 : decode cX6_reachedWith 9 = .ok (.invokevirtual 43, 3) := by decide +kernel
theorem dX6_reachedWith_12 : decode cX6_reachedWith 12 = .ok (.aload_n 0, 1) := by decide +kernel
theorem dX6_reachedWith_13 : decode cX6_reachedWith 13 = .ok (.getfield 18, 3) := by decide +kernel
theorem dX6_reachedWith_16 : decode cX6_reachedWith 16 = .ok (.isub, 1) := by decide +kernel
theorem dX6_reachedWith_17 : decode cX6_reachedWith 17 = .ok (.invokestatic 47, 3) := by decide +kernel
theorem dX6_reachedWith_20 : decode cX6_reachedWith 20 = .ok (.iadd, 1) := by decide +kernel
theorem dX6_reachedWith_21 : decode cX6_reachedWith 21 = .ok (.ireturn, 1) := by decide +kernel
theorem dX6_addDays_0 : decode cX6_addDays 0 = .ok (.aload_n 0, 1) := by decide +kernel
theorem dX6_addDays_1 : decode cX6_addDays 1 = .ok (.dup, 1) := by decide +kernel
theorem dX6_addDays_2 : decode cX6_addDays 2 = .ok (.getfield 21, 3) := by decide +kernel
theorem dX6_addDays_5 : decode cX6_addDays 5 = .ok (.iload_n 1, 1) := by decide +kernel
theorem dX6_addDays_6 : decode cX6_addDays 6 = .ok (.iadd, 1) := by decide +kernel
theorem dX6_addDays_7 : decode cX6_addDays 7 = .ok (.putfield 21, 3) := by decide +kernel
theorem dX6_addDays_10 : decode cX6_addDays 10 = .ok (.aload_n 0, 1) := by decide +kernel
theorem dX6_addDays_11 : decode cX6_addDays 11 = .ok (.dup, 1) := by decide +kernel
theorem dX6_addDays_12 : decode cX6_addDays 12 = .ok (.getfield 27, 3) := by decide +kernel
theorem dX6_addDays_15 : decode cX6_addDays 15 = .ok (.iload_n 1, 1) := by decide +kernel
theorem dX6_addDays_16 : decode cX6_addDays 16 = .ok (.iadd, 1) := by decide +kernel
theorem dX6_addDays_17 : decode cX6_addDays 17 = .ok (.putfield 27, 3) := by decide +kernel
theorem dX6_addDays_20 : decode cX6_addDays 20 = .ok (.return_, 1) := by decide +kernel
theorem dX6_breakRow_0 : decode cX6_breakRow 0 = .ok (.aload_n 0, 1) := by decide +kernel
theorem dX6_breakRow_1 : decode cX6_breakRow 1 = .ok (.getfield 9, 3) := by decide +kernel
theorem dX6_breakRow_4 : decode cX6_breakRow 4 = .ok (.ifCond .le 21, 3) := by decide +kernel
theorem dX6_breakRow_7 : decode cX6_breakRow 7 = .ok (.aload_n 0, 1) := by decide +kernel
theorem dX6_breakRow_8 : decode cX6_breakRow 8 = .ok (.dup, 1) := by decide +kernel
theorem dX6_breakRow_9 : decode cX6_breakRow 9 = .ok (.getfield 24, 3) := by decide +kernel
theorem dX6_breakRow_12 : decode cX6_breakRow 12 = .ok (.aload_n 0, 1) := by decide +kernel
theorem dX6_breakRow_13 : decode cX6_breakRow 13 = .ok (.getfield 27, 3) := by decide +kernel
theorem dX6_breakRow_16 : decode cX6_breakRow 16 = .ok (.aload_n 0, 1) := by decide +kernel
theorem dX6_breakRow_17 : decode cX6_breakRow 17 = .ok (.getfield 9, 3) := by decide +kernel
theorem dX6_breakRow_20 : decode cX6_breakRow 20 = .ok (.idiv, 1) := by decide +kernel
theorem dX6_breakRow_21 : decode cX6_breakRow 21 = .ok (.iadd, 1) := by decide +kernel
theorem dX6_breakRow_22 : decode cX6_breakRow 22 = .ok (.putfield 24, 3) := by decide +kernel
theorem dX6_breakRow_25 : decode cX6_breakRow 25 = .ok (.aload_n 0, 1) := by decide +kernel
theorem dX6_breakRow_26 : decode cX6_breakRow 26 = .ok (.iconst 0, 1) := by decide +kernel
theorem dX6_breakRow_27 : decode cX6_breakRow 27 = .ok (.putfield 27, 3) := by decide +kernel
theorem dX6_breakRow_30 : decode cX6_breakRow 30 = .ok (.return_, 1) := by decide +kernel
theorem dX6_addMonth_0 : decode cX6_addMonth 0 = .ok (.iload_n 1, 1) := by decide +kernel
theorem dX6_addMonth_1 : decode cX6_addMonth 1 = .ok (.ifCond .ne 9, 3) := by decide +kernel
theorem dX6_addMonth_4 : decode cX6_addMonth 4 = .ok (.aload_n 0, 1) := by decide +kernel
theorem dX6_addMonth_5 : decode cX6_addMonth 5 = .ok (.invokevirtual 50, 3) := by decide +kernel
theorem dX6_addMonth_8 : decode cX6_addMonth 8 = .ok (.iconst (-1), 1) := by decide +kernel
theorem dX6_addMonth_9 : decode cX6_addMonth 9 = .ok (.ireturn, 1) := by decide +kernel
theorem dX6_addMonth_10 : decode cX6_addMonth 10 = .ok (.iload_n 1, 1) := by decide +kernel
theorem dX6_addMonth_11 : decode cX6_addMonth 11 = .ok (.ldc 53, 2) := by decide +kernel
theorem dX6_addMonth_13 : decode cX6_addMonth 13 = .ok (.if_icmp .ne 21, 3) := by decide +kernel
theorem dX6_addMonth_16 : decode cX6_addMonth 16 = .ok (.aload_n 0, 1) := by decide +kernel
theorem dX6_addMonth_17 : decode cX6_addMonth 17 = .ok (.bipush 30, 2) := by decide +kernel
theorem dX6_addMonth_19 : decode cX6_addMonth 19 = .ok (.invokevirtual 54, 3) := by decide +kernel
theorem dX6_addMonth_22 : decode cX6_addMonth 22 = .ok (.iload_n 2, 1) := by decide +kernel
theorem dX6_addMonth_23 : decode cX6_addMonth 23 = .ok (.if_icmp .ge 11, 3) := by decide +kernel
theorem dX6_addMonth_26 : decode cX6_addMonth 26 = .ok (.aload_n 0, 1) := by decide +kernel
theorem dX6_addMonth_27 : decode cX6_addMonth 27 = .ok (.bipush 30, 2) := by decide +kernel
theorem dX6_addMonth_29 : decode cX6_addMonth 29 = .ok (.invokevirtual 57, 3) := by decide +kernel
theorem dX6_addMonth_32 : decode cX6_addMonth 32 = .ok (.iconst (-1), 1) := by decide +kernel
theorem dX6_addMonth_33 : decode cX6_addMonth 33 = .ok (.ireturn, 1) := by decide +kernel
theorem dX6_addMonth_34 : decode cX6_addMonth 34 = .ok (.iconst 0, 1) := by decide +kernel
theorem dX6_addMonth_35 : decode cX6_addMonth 35 = .ok (.istore_n 3, 1) := by decide +kernel
theorem dX6_addMonth_36 : decode cX6_addMonth 36 = .ok (.iload_n 3, 1) := by decide +kernel
theorem dX6_addMonth_37 : decode cX6_addMonth 37 = .ok (.bipush 30, 2) := by decide +kernel
theorem dX6_addMonth_39 : decode cX6_addMonth 39 = .ok (.if_icmp .ge 40, 3) := by decide +kernel
theorem dX6_addMonth_42 : decode cX6_addMonth 42 = .ok (.iload_n 1, 1) := by decide +kernel
theorem dX6_addMonth_43 : decode cX6_addMonth 43 = .ok (.iload_n 3, 1) := by decide +kernel
theorem dX6_addMonth_44 : decode cX6_addMonth 44 = .ok (.ishr, 1) := by decide +kernel
theorem dX6_addMonth_45 : decode cX6_addMonth 45 = .ok (.iconst 1, 1) := by decide +kernel
theorem dX6_addMonth_46 : decode cX6_addMonth 46 = .ok (.iand, 1) := by decide +kernel
theorem dX6_addMonth_47 : decode cX6_addMonth 47 = .ok (.ifCond .ne 10, 3) := by decide +kernel
theorem dX6_addMonth_50 : decode cX6_addMonth 50 = .ok (.aload_n 0, 1) := by decide +kernel
theorem dX6_addMonth_51 : decode cX6_addMonth 51 = .ok (.invokevirtual 50, 3) := by decide +kernel
theorem dX6_addMonth_54 : decode cX6_addMonth 54 = .ok (.goto 8, 3) := by decide +kernel
theorem dX6_addMonth_57 : decode cX6_addMonth 57 = .ok (.aload_n 0, 1) := by decide +kernel
theorem dX6_addMonth_58 : decode cX6_addMonth 58 = .ok (.iconst 1, 1) := by decide +kernel
theorem dX6_addMonth_59 : decode cX6_addMonth 59 = .ok (.invokevirtual 57, 3) := by decide +kernel
theorem dX6_addMonth_62 : decode cX6_addMonth 62 = .ok (.aload_n 0, 1) := by decide +kernel
theorem dX6_addMonth_63 : decode cX6_addMonth 63 = .ok (.iconst 0, 1) := by decide +kernel
theorem dX6_addMonth_64 : decode cX6_addMonth 64 = .ok (.invokevirtual 54, 3) := by decide +kernel
theorem dX6_addMonth_67 : decode cX6_addMonth 67 = .ok (.iload_n 2, 1) := by decide +kernel
theorem dX6_addMonth_68 : decode cX6_addMonth 68 = .ok (.if_icmp .lt 5, 3) := by decide +kernel
theorem dX6_addMonth_71 : decode cX6_addMonth 71 = .ok (.iload_n 3, 1) := by decide +kernel
theorem dX6_addMonth_72 : decode cX6_addMonth 72 = .ok (.ireturn, 1) := by decide +kernel
theorem dX6_addMonth_73 : decode cX6_addMonth 73 = .ok (.iinc 3 1, 3) := by decide +kernel
theorem dX6_addMonth_76 : decode cX6_addMonth 76 = .ok (.goto (-40), 3) := by decide +kernel
theorem dX6_addMonth_79 : decode cX6_addMonth 79 = .ok (.iconst (-1), 1) := by decide +kernel
theorem dX6_addMonth_80 : decode cX6_addMonth 80 = .ok (.ireturn, 1) := by decide +kernel
theorem dX7_init_0 : decode cX7_init 0 = .ok (.aload_n 0, 1) := by decide +kernel
theorem dX7_init_1 : decode cX7_init 1 = .ok (.invokespecial 3, 3) := by decide +kernel
theorem dX7_init_4 : decode cX7_init 4 = .ok (.aload_n 0, 1) := by decide +kernel
theorem dX7_init_5 : decode cX7_init 5 = .ok (.sipush 400, 3) := by decide +kernel
theorem dX7_init_8 : decode cX7_init 8 = .ok (.anewarray 9, 3) := by decide +kernel
theorem dX7_init_11 : decode cX7_init 11 = .ok (.putfield 11, 3) := by decide +kernel
theorem dX7_init_14 : decode cX7_init 14 = .ok (.aload_n 0, 1) := by decide +kernel
theorem dX7_init_15 : decode cX7_init 15 = .ok (.iconst 0, 1) := by decide +kernel
theorem dX7_init_16 : decode cX7_init 16 = .ok (.putfield 15, 3) := by decide +kernel
theorem dX7_init_19 : decode cX7_init 19 = .ok (.aload_n 0, 1) := by decide +kernel
theorem dX7_init_20 : decode cX7_init 20 = .ok (.iconst 0, 1) := by decide +kernel
theorem dX7_init_21 : decode cX7_init 21 = .ok (.putfield 19, 3) := by decide +kernel
theorem dX7_init_24 : decode cX7_init 24 = .ok (.aload_n 0, 1) := by decide +kernel
theorem dX7_init_25 : decode cX7_init 25 = .ok (.iconst 0, 1) := by decide +kernel
theorem dX7_init_26 : decode cX7_init 26 = .ok (.putfield 22, 3) := by decide +kernel
theorem dX7_init_29 : decode cX7_init 29 = .ok (.aload_n 0, 1) := by decide +kernel
theorem dX7_init_30 : decode cX7_init 30 = .ok (.iconst (-1), 1) := by decide +kernel
theorem dX7_init_31 : decode cX7_init 31 = .ok (.putfield 25, 3) := by decide +kernel
theorem dX7_init_34 : decode cX7_init 34 = .ok (.aload_n 0, 1) := by decide +kernel
theorem dX7_init_35 : decode cX7_init 35 = .ok (.new 28, 3) := by decide +kernel
theorem dX7_init_38 : decode cX7_init 38 = .ok (.dup, 1) := by decide +kernel
theorem dX7_init_39 : decode cX7_init 39 = .ok (.invokespecial 30, 3) := by decide +kernel
theorem dX7_init_42 : decode cX7_init 42 = .ok (.putfield 31, 3) := by decide +kernel
theorem dX7_init_45 : decode cX7_init 45 = .ok (.aload_n 0, 1) := by decide +kernel
theorem dX7_init_46 : decode cX7_init 46 = .ok (.new 28, 3) := by decide +kernel
theorem dX7_init_49 : decode cX7_init 49 = .ok (.dup, 1) := by decide +kernel
theorem dX7_init_50 : decode cX7_init 50 = .ok (.invokespecial 30, 3) := by decide +kernel
theorem dX7_init_53 : decode cX7_init 53 = .ok (.putfield 35, 3) := by decide +kernel
theorem dX7_init_56 : decode cX7_init 56 = .ok (.aload_n 0, 1) := by decide +kernel
theorem dX7_init_57 : decode cX7_init 57 = .ok (.new 38, 3) := by decide +kernel
theorem dX7_init_60 : decode cX7_init 60 = .ok (.dup, 1) := by decide +kernel
theorem dX7_init_61 : decode cX7_init 61 = .ok (.invokespecial 40, 3) := by decide +kernel
theorem dX7_init_64 : decode cX7_init 64 = .ok (.putfield 41, 3) := by decide +kernel
theorem dX7_init_67 : decode cX7_init 67 = .ok (.aload_n 0, 1) := by decide +kernel
theorem dX7_init_68 : decode cX7_init 68 = .ok (.new 45, 3) := by decide +kernel
theorem dX7_init_71 : decode cX7_init 71 = .ok (.dup, 1) := by decide +kernel
theorem dX7_init_72 : decode cX7_init 72 = .ok (.invokespecial 47, 3) := by decide +kernel
theorem dX7_init_75 : decode cX7_init 75 = .ok (.putfield 48, 3) := by decide +kernel
theorem dX7_init_78 : decode cX7_init 78 = .ok (.return_, 1) := by decide +kernel
theorem dX7_person_0 : decode cX7_person 0 = .ok (.aload_n 0, 1) := by decide +kernel
theorem dX7_person_1 : decode cX7_person 1 = .ok (.getfield 19, 3) := by decide +kernel
theorem dX7_person_4 : decode cX7_person 4 = .ok (.bipush 6, 2) := by decide +kernel
theorem dX7_person_6 : decode cX7_person 6 = .ok (.if_icmp .lt 5, 3) := by decide +kernel
theorem dX7_person_9 : decode cX7_person 9 = .ok (.iconst (-1), 1) := by decide +kernel
theorem dX7_person_10 : decode cX7_person 10 = .ok (.ireturn, 1) := by decide +kernel
theorem dX7_person_11 : decode cX7_person 11 = .ok (.aload_n 0, 1) := by decide +kernel
theorem dX7_person_12 : decode cX7_person 12 = .ok (.dup, 1) := by decide +kernel
theorem dX7_person_13 : decode cX7_person 13 = .ok (.getfield 19, 3) := by decide +kernel
theorem dX7_person_16 : decode cX7_person 16 = .ok (.iconst 1, 1) := by decide +kernel
theorem dX7_person_17 : decode cX7_person 17 = .ok (.iadd, 1) := by decide +kernel
theorem dX7_person_18 : decode cX7_person 18 = .ok (.putfield 19, 3) := by decide +kernel
theorem dX7_person_21 : decode cX7_person 21 = .ok (.aload_n 0, 1) := by decide +kernel
theorem dX7_person_22 : decode cX7_person 22 = .ok (.getfield 19, 3) := by decide +kernel
theorem dX7_person_25 : decode cX7_person 25 = .ok (.iconst 1, 1) := by decide +kernel
theorem dX7_person_26 : decode cX7_person 26 = .ok (.isub, 1) := by decide +kernel
theorem dX7_person_27 : decode cX7_person 27 = .ok (.ireturn, 1) := by decide +kernel
theorem dX7_today_0 : decode cX7_today 0 = .ok (.iload_n 1, 1) := by decide +kernel
theorem dX7_today_1 : decode cX7_today 1 = .ok (.invokestatic 52, 3) := by decide +kernel
theorem dX7_today_4 : decode cX7_today 4 = .ok (.ifCond .eq 11, 3) := by decide +kernel
theorem dX7_today_7 : decode cX7_today 7 = .ok (.iload_n 1, 1) := by decide +kernel
theorem dX7_today_8 : decode cX7_today 8 = .ok (.aload_n 0, 1) := by decide +kernel
theorem dX7_today_9 : decode cX7_today 9 = .ok (.getfield 22, 3) := by decide +kernel
theorem dX7_today_12 : decode cX7_today 12 = .ok (.if_icmp .ge 5, 3) := by decide +kernel
theorem dX7_today_15 : decode cX7_today 15 = .ok (.iconst 0, 1) := by decide +kernel
theorem dX7_today_16 : decode cX7_today 16 = .ok (.ireturn, 1) := by decide +kernel
theorem dX7_today_17 : decode cX7_today 17 = .ok (.aload_n 0, 1) := by decide +kernel
theorem dX7_today_18 : decode cX7_today 18 = .ok (.iload_n 1, 1) := by decide +kernel
theorem dX7_today_19 : decode cX7_today 19 = .ok (.putfield 22, 3) := by decide +kernel
theorem dX7_today_22 : decode cX7_today 22 = .ok (.iconst 1, 1) := by decide +kernel
theorem dX7_today_23 : decode cX7_today 23 = .ok (.ireturn, 1) := by decide +kernel
theorem dX7_as_0 : decode cX7_as 0 = .ok (.iload_n 1, 1) := by decide +kernel
theorem dX7_as_1 : decode cX7_as 1 = .ok (.iconst (-1), 1) := by decide +kernel
theorem dX7_as_2 : decode cX7_as 2 = .ok (.if_icmp .eq 20, 3) := by decide +kernel
theorem dX7_as_5 : decode cX7_as 5 = .ok (.iload_n 1, 1) := by decide +kernel
theorem dX7_as_6 : decode cX7_as 6 = .ok (.invokestatic 52, 3) := by decide +kernel
theorem dX7_as_9 : decode cX7_as 9 = .ok (.ifCond .eq 11, 3) := by decide +kernel
theorem dX7_as_12 : decode cX7_as 12 = .ok (.iload_n 1, 1) := by decide +kernel
theorem dX7_as_13 : decode cX7_as 13 = .ok (.aload_n 0, 1) := by decide +kernel
theorem dX7_as_14 : decode cX7_as 14 = .ok (.getfield 22, 3) := by decide +kernel
theorem dX7_as_17 : decode cX7_as 17 = .ok (.if_icmp .le 5, 3) := by decide +kernel
theorem dX7_as_20 : decode cX7_as 20 = .ok (.iconst (-1), 1) := by decide +kernel
theorem dX7_as_21 : decode cX7_as 21 = .ok (.ireturn, 1) := by decide +kernel
theorem dX7_as_22 : decode cX7_as 22 = .ok (.aload_n 0, 1) := by decide +kernel
theorem dX7_as_23 : decode cX7_as 23 = .ok (.iload_n 1, 1) := by decide +kernel
theorem dX7_as_24 : decode cX7_as 24 = .ok (.putfield 25, 3) := by decide +kernel
theorem dX7_as_27 : decode cX7_as 27 = .ok (.iconst 1, 1) := by decide +kernel
theorem dX7_as_28 : decode cX7_as 28 = .ok (.ireturn, 1) := by decide +kernel
theorem dX7_letter_0 : decode cX7_letter 0 = .ok (.aload_n 0, 1) := by decide +kernel
theorem dX7_letter_1 : decode cX7_letter 1 = .ok (.iload_n 1, 1) := by decide +kernel
theorem dX7_letter_2 : decode cX7_letter 2 = .ok (.iload_n 2, 1) := by decide +kernel
theorem dX7_letter_3 : decode cX7_letter 3 = .ok (.invokevirtual 56, 3) := by decide +kernel
theorem dX7_letter_6 : decode cX7_letter 6 = .ok (.istore_n 3, 1) := by decide +kernel
theorem dX7_letter_7 : decode cX7_letter 7 = .ok (.iload_n 3, 1) := by decide +kernel
theorem dX7_letter_8 : decode cX7_letter 8 = .ok (.ifCond .eq 5, 3) := by decide +kernel
theorem dX7_letter_11 : decode cX7_letter 11 = .ok (.iload_n 3, 1) := by decide +kernel
theorem dX7_letter_12 : decode cX7_letter 12 = .ok (.ireturn, 1) := by decide +kernel
theorem dX7_letter_13 : decode cX7_letter 13 = .ok (.aload_n 0, 1) := by decide +kernel
theorem dX7_letter_14 : decode cX7_letter 14 = .ok (.new 9, 3) := by decide +kernel
theorem dX7_letter_17 : decode cX7_letter 17 = .ok (.dup, 1) := by decide +kernel
theorem dX7_letter_18 : decode cX7_letter 18 = .ok (.aload_n 0, 1) := by decide +kernel
theorem dX7_letter_19 : decode cX7_letter 19 = .ok (.getfield 22, 3) := by decide +kernel
theorem dX7_letter_22 : decode cX7_letter 22 = .ok (.iconst 0, 1) := by decide +kernel
theorem dX7_letter_23 : decode cX7_letter 23 = .ok (.iload_n 1, 1) := by decide +kernel
theorem dX7_letter_24 : decode cX7_letter 24 = .ok (.iload_n 2, 1) := by decide +kernel
theorem dX7_letter_25 : decode cX7_letter 25 = .ok (.invokespecial 60, 3) := by decide +kernel
theorem dX7_letter_28 : decode cX7_letter 28 = .ok (.invokevirtual 63, 3) := by decide +kernel
theorem dX7_letter_31 : decode cX7_letter 31 = .ok (.ireturn, 1) := by decide +kernel
theorem dX7_term_0 : decode cX7_term 0 = .ok (.aload_n 0, 1) := by decide +kernel
theorem dX7_term_1 : decode cX7_term 1 = .ok (.iload_n 1, 1) := by decide +kernel
theorem dX7_term_2 : decode cX7_term 2 = .ok (.iload_n 2, 1) := by decide +kernel
theorem dX7_term_3 : decode cX7_term 3 = .ok (.invokevirtual 56, 3) := by decide +kernel
theorem dX7_term_6 : decode cX7_term 6 = .ok (.istore 5, 2) := by decide +kernel
theorem dX7_term_8 : decode cX7_term 8 = .ok (.iload 5, 2) := by decide +kernel
theorem dX7_term_10 : decode cX7_term 10 = .ok (.ifCond .eq 6, 3) := by decide +kernel
theorem dX7_term_13 : decode cX7_term 13 = .ok (.iload 5, 2) := by decide +kernel
theorem dX7_term_15 : decode cX7_term 15 = .ok (.ireturn, 1) := by decide +kernel
theorem dX7_term_16 : decode cX7_term 16 = .ok (.iload_n 3, 1) := by decide +kernel
theorem dX7_term_17 : decode cX7_term 17 = .ok (.invokestatic 52, 3) := by decide +kernel
theorem dX7_term_20 : decode cX7_term 20 = .ok (.ifCond .eq 11, 3) := by decide +kernel
theorem dX7_term_23 : decode cX7_term 23 = .ok (.iload 4, 2) := by decide +kernel
theorem dX7_term_25 : decode cX7_term 25 = .ok (.invokestatic 67, 3) := by decide +kernel
theorem dX7_term_28 : decode cX7_term 28 = .ok (.ifCond .ne 5, 3) := by decide +kernel
theorem dX7_term_31 : decode cX7_term 31 = .ok (.iconst 3, 1) := by decide +kernel
theorem dX7_term_32 : decode cX7_term 32 = .ok (.ireturn, 1) := by decide +kernel
theorem dX7_term_33 : decode cX7_term 33 = .ok (.new 9, 3) := by decide +kernel
theorem dX7_term_36 : decode cX7_term 36 = .ok (.dup, 1) := by decide +kernel
theorem dX7_term_37 : decode cX7_term 37 = .ok (.aload_n 0, 1) := by decide +kernel
theorem dX7_term_38 : decode cX7_term 38 = .ok (.getfield 22, 3) := by decide +kernel
theorem dX7_term_41 : decode cX7_term 41 = .ok (.iconst 1, 1) := by decide +kernel
theorem dX7_term_42 : decode cX7_term 42 = .ok (.iload_n 1, 1) := by decide +kernel
theorem dX7_term_43 : decode cX7_term 43 = .ok (.iload_n 2, 1) := by decide +kernel
theorem dX7_term_44 : decode cX7_term 44 = .ok (.invokespecial 60, 3) := by decide +kernel
theorem dX7_term_47 : decode cX7_term 47 = .ok (.astore 6, 2) := by decide +kernel
theorem dX7_term_49 : decode cX7_term 49 = .ok (.aload 6, 2) := by decide +kernel
theorem dX7_term_51 : decode cX7_term 51 = .ok (.iload_n 3, 1) := by decide +kernel
theorem dX7_term_52 : decode cX7_term 52 = .ok (.putfield 70, 3) := by decide +kernel
theorem dX7_term_55 : decode cX7_term 55 = .ok (.aload 6, 2) := by decide +kernel
theorem dX7_term_57 : decode cX7_term 57 = .ok (.iload 4, 2) := by decide +kernel
theorem dX7_term_59 : decode cX7_term 59 = .ok (.putfield 73, 3) := by decide +kernel
theorem dX7_term_62 : decode cX7_term 62 = .ok (.aload_n 0, 1) := by decide +kernel
theorem dX7_term_63 : decode cX7_term 63 = .ok (.aload 6, 2) := by decide +kernel
theorem dX7_term_65 : decode cX7_term 65 = .ok (.invokevirtual 63, 3) := by decide +kernel
theorem dX7_term_68 : decode cX7_term 68 = .ok (.ireturn, 1) := by decide +kernel
theorem dX7_waits_0 : decode cX7_waits 0 = .ok (.aload_n 0, 1) := by decide +kernel
theorem dX7_waits_1 : decode cX7_waits 1 = .ok (.iload_n 1, 1) := by decide +kernel
theorem dX7_waits_2 : decode cX7_waits 2 = .ok (.iload_n 2, 1) := by decide +kernel
theorem dX7_waits_3 : decode cX7_waits 3 = .ok (.invokevirtual 56, 3) := by decide +kernel
theorem dX7_waits_6 : decode cX7_waits 6 = .ok (.istore 7, 2) := by decide +kernel
theorem dX7_waits_8 : decode cX7_waits 8 = .ok (.iload 7, 2) := by decide +kernel
theorem dX7_waits_10 : decode cX7_waits 10 = .ok (.ifCond .eq 6, 3) := by decide +kernel
theorem dX7_waits_13 : decode cX7_waits 13 = .ok (.iload 7, 2) := by decide +kernel
theorem dX7_waits_15 : decode cX7_waits 15 = .ok (.ireturn, 1) := by decide +kernel
theorem dX7_waits_16 : decode cX7_waits 16 = .ok (.iload_n 3, 1) := by decide +kernel
theorem dX7_waits_17 : decode cX7_waits 17 = .ok (.iconst 3, 1) := by decide +kernel
theorem dX7_waits_18 : decode cX7_waits 18 = .ok (.if_icmp .eq 13, 3) := by decide +kernel
theorem dX7_waits_21 : decode cX7_waits 21 = .ok (.iload_n 3, 1) := by decide +kernel
theorem dX7_waits_22 : decode cX7_waits 22 = .ok (.iconst 4, 1) := by decide +kernel
theorem dX7_waits_23 : decode cX7_waits 23 = .ok (.if_icmp .eq 8, 3) := by decide +kernel
theorem dX7_waits_26 : decode cX7_waits 26 = .ok (.iload_n 3, 1) := by decide +kernel
theorem dX7_waits_27 : decode cX7_waits 27 = .ok (.iconst 5, 1) := by decide +kernel
theorem dX7_waits_28 : decode cX7_waits 28 = .ok (.if_icmp .ne 7, 3) := by decide +kernel
theorem dX7_waits_31 : decode cX7_waits 31 = .ok (.iconst 1, 1) := by decide +kernel
theorem dX7_waits_32 : decode cX7_waits 32 = .ok (.goto 4, 3) := by decide +kernel
theorem dX7_waits_35 : decode cX7_waits 35 = .ok (.iconst 0, 1) := by decide +kernel
theorem dX7_waits_36 : decode cX7_waits 36 = .ok (.istore 8, 2) := by decide +kernel
theorem dX7_waits_38 : decode cX7_waits 38 = .ok (.iload 8, 2) := by decide +kernel
theorem dX7_waits_40 : decode cX7_waits 40 = .ok (.ifCond .eq 27, 3) := by decide +kernel
theorem dX7_waits_43 : decode cX7_waits 43 = .ok (.iload 4, 2) := by decide +kernel
theorem dX7_waits_45 : decode cX7_waits 45 = .ok (.invokestatic 52, 3) := by decide +kernel
theorem dX7_waits_48 : decode cX7_waits 48 = .ok (.ifCond .eq 19, 3) := by decide +kernel
theorem dX7_waits_51 : decode cX7_waits 51 = .ok (.iload 5, 2) := by decide +kernel
theorem dX7_waits_53 : decode cX7_waits 53 = .ok (.invokestatic 67, 3) := by decide +kernel
theorem dX7_waits_56 : decode cX7_waits 56 = .ok (.ifCond .eq 11, 3) := by decide +kernel
theorem dX7_waits_59 : decode cX7_waits 59 = .ok (.iload 6, 2) := by decide +kernel
theorem dX7_waits_61 : decode cX7_waits 61 = .ok (.invokestatic 76, 3) := by decide +kernel
theorem dX7_waits_64 : decode cX7_waits 64 = .ok (.ifCond .ne 5, 3) := by decide +kernel
theorem dX7_waits_67 : decode cX7_waits 67 = .ok (.iconst 3, 1) := by decide +kernel
theorem dX7_waits_68 : decode cX7_waits 68 = .ok (.ireturn, 1) := by decide +kernel
theorem dX7_waits_69 : decode cX7_waits 69 = .ok (.aload_n 0, 1) := by decide +kernel
theorem dX7_waits_70 : decode cX7_waits 70 = .ok (.getfield 48, 3) := by decide +kernel
theorem dX7_waits_73 : decode cX7_waits 73 = .ok (.aload_n 0, 1) := by decide +kernel
theorem dX7_waits_74 : decode cX7_waits 74 = .ok (.getfield 31, 3) := by decide +kernel
theorem dX7_waits_77 : decode cX7_waits 77 = .ok (.iload_n 1, 1) := by decide +kernel
theorem dX7_waits_78 : decode cX7_waits 78 = .ok (.invokevirtual 79, 3) := by decide +kernel
theorem dX7_waits_81 : decode cX7_waits 81 = .ok (.iload_n 2, 1) := by decide +kernel
theorem dX7_waits_82 : decode cX7_waits 82 = .ok (.iload 6, 2) := by decide +kernel
theorem dX7_waits_84 : decode cX7_waits 84 = .ok (.invokevirtual 83, 3) := by decide +kernel
theorem dX7_waits_87 : decode cX7_waits 87 = .ok (.ifCond .eq 5, 3) := by decide +kernel
theorem dX7_waits_90 : decode cX7_waits 90 = .ok (.iconst 4, 1) := by decide +kernel
theorem dX7_waits_91 : decode cX7_waits 91 = .ok (.ireturn, 1) := by decide +kernel
theorem dX7_waits_92 : decode cX7_waits 92 = .ok (.new 9, 3) := by decide +kernel
theorem dX7_waits_95 : decode cX7_waits 95 = .ok (.dup, 1) := by decide +kernel
theorem dX7_waits_96 : decode cX7_waits 96 = .ok (.aload_n 0, 1) := by decide +kernel
theorem dX7_waits_97 : decode cX7_waits 97 = .ok (.getfield 22, 3) := by decide +kernel
theorem dX7_waits_100 : decode cX7_waits 100 = .ok (.iconst 2, 1) := by decide +kernel
theorem dX7_waits_101 : decode cX7_waits 101 = .ok (.iload_n 1, 1) := by decide +kernel
theorem dX7_waits_102 : decode cX7_waits 102 = .ok (.iload_n 2, 1) := by decide +kernel
theorem dX7_waits_103 : decode cX7_waits 103 = .ok (.invokespecial 60, 3) := by decide +kernel
theorem dX7_waits_106 : decode cX7_waits 106 = .ok (.astore 9, 2) := by decide +kernel
theorem dX7_waits_108 : decode cX7_waits 108 = .ok (.aload 9, 2) := by decide +kernel
theorem dX7_waits_110 : decode cX7_waits 110 = .ok (.iload_n 3, 1) := by decide +kernel
theorem dX7_waits_111 : decode cX7_waits 111 = .ok (.putfield 70, 3) := by decide +kernel
theorem dX7_waits_114 : decode cX7_waits 114 = .ok (.aload 9, 2) := by decide +kernel
theorem dX7_waits_116 : decode cX7_waits 116 = .ok (.iload 4, 2) := by decide +kernel
theorem dX7_waits_118 : decode cX7_waits 118 = .ok (.putfield 73, 3) := by decide +kernel
theorem dX7_waits_121 : decode cX7_waits 121 = .ok (.aload 9, 2) := by decide +kernel
theorem dX7_waits_123 : decode cX7_waits 123 = .ok (.iload 5, 2) := by decide +kernel
theorem dX7_waits_125 : decode cX7_waits 125 = .ok (.putfield 87, 3) := by decide +kernel
theorem dX7_waits_128 : decode cX7_waits 128 = .ok (.aload 9, 2) := by decide +kernel
theorem dX7_waits_130 : decode cX7_waits 130 = .ok (.iload 6, 2) := by decide +kernel
theorem dX7_waits_132 : decode cX7_waits 132 = .ok (.putfield 90, 3) := by decide +kernel
theorem dX7_waits_135 : decode cX7_waits 135 = .ok (.aload_n 0, 1) := by decide +kernel
theorem dX7_waits_136 : decode cX7_waits 136 = .ok (.aload 9, 2) := by decide +kernel
theorem dX7_waits_138 : decode cX7_waits 138 = .ok (.invokevirtual 63, 3) := by decide +kernel
theorem dX7_waits_141 : decode cX7_waits 141 = .ok (.ireturn, 1) := by decide +kernel
theorem dX7_stay_0 : decode cX7_stay 0 = .ok (.aload_n 0, 1) := by decide +kernel
theorem dX7_stay_1 : decode cX7_stay 1 = .ok (.iload_n 1, 1) := by decide +kernel
theorem dX7_stay_2 : decode cX7_stay 2 = .ok (.iload_n 2, 1) := by decide +kernel
theorem dX7_stay_3 : decode cX7_stay 3 = .ok (.invokevirtual 56, 3) := by decide +kernel
theorem dX7_stay_6 : decode cX7_stay 6 = .ok (.istore 7, 2) := by decide +kernel
theorem dX7_stay_8 : decode cX7_stay 8 = .ok (.iload 7, 2) := by decide +kernel
theorem dX7_stay_10 : decode cX7_stay 10 = .ok (.ifCond .eq 6, 3) := by decide +kernel
theorem dX7_stay_13 : decode cX7_stay 13 = .ok (.iload 7, 2) := by decide +kernel
theorem dX7_stay_15 : decode cX7_stay 15 = .ok (.ireturn, 1) := by decide +kernel
theorem dX7_stay_16 : decode cX7_stay 16 = .ok (.iload_n 3, 1) := by decide +kernel
theorem dX7_stay_17 : decode cX7_stay 17 = .ok (.bipush 6, 2) := by decide +kernel
theorem dX7_stay_19 : decode cX7_stay 19 = .ok (.if_icmp .eq 9, 3) := by decide +kernel
theorem dX7_stay_22 : decode cX7_stay 22 = .ok (.iload_n 3, 1) := by decide +kernel
theorem dX7_stay_23 : decode cX7_stay 23 = .ok (.bipush 7, 2) := by decide +kernel
theorem dX7_stay_25 : decode cX7_stay 25 = .ok (.if_icmp .ne 7, 3) := by decide +kernel
theorem dX7_stay_28 : decode cX7_stay 28 = .ok (.iconst 1, 1) := by decide +kernel
theorem dX7_stay_29 : decode cX7_stay 29 = .ok (.goto 4, 3) := by decide +kernel
theorem dX7_stay_32 : decode cX7_stay 32 = .ok (.iconst 0, 1) := by decide +kernel
theorem dX7_stay_33 : decode cX7_stay 33 = .ok (.istore 8, 2) := by decide +kernel
theorem dX7_stay_35 : decode cX7_stay 35 = .ok (.iload 8, 2) := by decide +kernel
theorem dX7_stay_37 : decode cX7_stay 37 = .ok (.ifCond .eq 34, 3) := by decide +kernel
theorem dX7_stay_40 : decode cX7_stay 40 = .ok (.iload 4, 2) := by decide +kernel
theorem dX7_stay_42 : decode cX7_stay 42 = .ok (.invokestatic 52, 3) := by decide +kernel
theorem dX7_stay_45 : decode cX7_stay 45 = .ok (.ifCond .eq 26, 3) := by decide +kernel
theorem dX7_stay_48 : decode cX7_stay 48 = .ok (.iload 5, 2) := by decide +kernel
theorem dX7_stay_50 : decode cX7_stay 50 = .ok (.invokestatic 52, 3) := by decide +kernel
theorem dX7_stay_53 : decode cX7_stay 53 = .ok (.ifCond .eq 18, 3) := by decide +kernel
theorem dX7_stay_56 : decode cX7_stay 56 = .ok (.iload 5, 2) := by decide +kernel
theorem dX7_stay_58 : decode cX7_stay 58 = .ok (.iload 4, 2) := by decide +kernel
theorem dX7_stay_60 : decode cX7_stay 60 = .ok (.if_icmp .lt 11, 3) := by decide +kernel
theorem dX7_stay_63 : decode cX7_stay 63 = .ok (.iload 6, 2) := by decide +kernel
theorem dX7_stay_65 : decode cX7_stay 65 = .ok (.invokestatic 76, 3) := by decide +kernel
theorem dX7_stay_68 : decode cX7_stay 68 = .ok (.ifCond .ne 5, 3) := by decide +kernel
theorem dX7_stay_71 : decode cX7_stay 71 = .ok (.iconst 3, 1) := by decide +kernel
theorem dX7_stay_72 : decode cX7_stay 72 = .ok (.ireturn, 1) := by decide +kernel
theorem dX7_stay_73 : decode cX7_stay 73 = .ok (.new 9, 3) := by decide +kernel
theorem dX7_stay_76 : decode cX7_stay 76 = .ok (.dup, 1) := by decide +kernel
theorem dX7_stay_77 : decode cX7_stay 77 = .ok (.aload_n 0, 1) := by decide +kernel
theorem dX7_stay_78 : decode cX7_stay 78 = .ok (.getfield 22, 3) := by decide +kernel
theorem dX7_stay_81 : decode cX7_stay 81 = .ok (.iconst 3, 1) := by decide +kernel
theorem dX7_stay_82 : decode cX7_stay 82 = .ok (.iload_n 1, 1) := by decide +kernel
theorem dX7_stay_83 : decode cX7_stay 83 = .ok (.iload_n 2, 1) := by decide +kernel
theorem dX7_stay_84 : decode cX7_stay 84 = .ok (.invokespecial 60, 3) := by decide +kernel
theorem dX7_stay_87 : decode cX7_stay 87 = .ok (.astore 9, 2) := by decide +kernel
theorem dX7_stay_89 : decode cX7_stay 89 = .ok (.aload 9, 2) := by decide +kernel
theorem dX7_stay_91 : decode cX7_stay 91 = .ok (.iload_n 3, 1) := by decide +kernel
theorem dX7_stay_92 : decode cX7_stay 92 = .ok (.putfield 70, 3) := by decide +kernel
theorem dX7_stay_95 : decode cX7_stay 95 = .ok (.aload 9, 2) := by decide +kernel
theorem dX7_stay_97 : decode cX7_stay 97 = .ok (.iload 4, 2) := by decide +kernel
theorem dX7_stay_99 : decode cX7_stay 99 = .ok (.putfield 73, 3) := by decide +kernel
theorem dX7_stay_102 : decode cX7_stay 102 = .ok (.aload 9, 2) := by decide +kernel
theorem dX7_stay_104 : decode cX7_stay 104 = .ok (.iload 5, 2) := by decide +kernel
theorem dX7_stay_106 : decode cX7_stay 106 = .ok (.putfield 87, 3) := by decide +kernel
theorem dX7_stay_109 : decode cX7_stay 109 = .ok (.aload 9, 2) := by decide +kernel
theorem dX7_stay_111 : decode cX7_stay 111 = .ok (.iload 6, 2) := by decide +kernel
theorem dX7_stay_113 : decode cX7_stay 113 = .ok (.putfield 90, 3) := by decide +kernel
theorem dX7_stay_116 : decode cX7_stay 116 = .ok (.aload_n 0, 1) := by decide +kernel
theorem dX7_stay_117 : decode cX7_stay 117 = .ok (.aload 9, 2) := by decide +kernel
theorem dX7_stay_119 : decode cX7_stay 119 = .ok (.invokevirtual 63, 3) := by decide +kernel
theorem dX7_stay_122 : decode cX7_stay 122 = .ok (.ireturn, 1) := by decide +kernel
theorem dX7_quash_0 : decode cX7_quash 0 = .ok (.aload_n 0, 1) := by decide +kernel
theorem dX7_quash_1 : decode cX7_quash 1 = .ok (.aload_n 0, 1) := by decide +kernel
theorem dX7_quash_2 : decode cX7_quash 2 = .ok (.getfield 31, 3) := by decide +kernel
theorem dX7_quash_5 : decode cX7_quash 5 = .ok (.iload_n 1, 1) := by decide +kernel
theorem dX7_quash_6 : decode cX7_quash 6 = .ok (.iload_n 3, 1) := by decide +kernel
theorem dX7_quash_7 : decode cX7_quash 7 = .ok (.invokevirtual 93, 3) := by decide +kernel
theorem dX7_quash_10 : decode cX7_quash 10 = .ok (.astore 4, 2) := by decide +kernel
theorem dX7_quash_12 : decode cX7_quash 12 = .ok (.aload 4, 2) := by decide +kernel
theorem dX7_quash_14 : decode cX7_quash 14 = .ok (.ifnonnull 5, 3) := by decide +kernel
theorem dX7_quash_17 : decode cX7_quash 17 = .ok (.iconst 1, 1) := by decide +kernel
theorem dX7_quash_18 : decode cX7_quash 18 = .ok (.ireturn, 1) := by decide +kernel
theorem dX7_quash_19 : decode cX7_quash 19 = .ok (.aload_n 0, 1) := by decide +kernel
theorem dX7_quash_20 : decode cX7_quash 20 = .ok (.iload_n 1, 1) := by decide +kernel
theorem dX7_quash_21 : decode cX7_quash 21 = .ok (.iload_n 2, 1) := by decide +kernel
theorem dX7_quash_22 : decode cX7_quash 22 = .ok (.invokevirtual 56, 3) := by decide +kernel
theorem dX7_quash_25 : decode cX7_quash 25 = .ok (.istore 5, 2) := by decide +kernel
theorem dX7_quash_27 : decode cX7_quash 27 = .ok (.iload 5, 2) := by decide +kernel
theorem dX7_quash_29 : decode cX7_quash 29 = .ok (.ifCond .eq 6, 3) := by decide +kernel
theorem dX7_quash_32 : decode cX7_quash 32 = .ok (.iload 5, 2) := by decide +kernel
theorem dX7_quash_34 : decode cX7_quash 34 = .ok (.ireturn, 1) := by decide +kernel
theorem dX7_quash_35 : decode cX7_quash 35 = .ok (.aload 4, 2) := by decide +kernel
theorem dX7_quash_37 : decode cX7_quash 37 = .ok (.getfield 97, 3) := by decide +kernel
theorem dX7_quash_40 : decode cX7_quash 40 = .ok (.iconst 2, 1) := by decide +kernel
theorem dX7_quash_41 : decode cX7_quash 41 = .ok (.if_icmp .lt 21, 3) := by decide +kernel
theorem dX7_quash_44 : decode cX7_quash 44 = .ok (.aload 4, 2) := by decide +kernel
theorem dX7_quash_46 : decode cX7_quash 46 = .ok (.getfield 97, 3) := by decide +kernel
theorem dX7_quash_49 : decode cX7_quash 49 = .ok (.bipush 7, 2) := by decide +kernel
theorem dX7_quash_51 : decode cX7_quash 51 = .ok (.if_icmp .gt 11, 3) := by decide +kernel
theorem dX7_quash_54 : decode cX7_quash 54 = .ok (.aload 4, 2) := by decide +kernel
theorem dX7_quash_56 : decode cX7_quash 56 = .ok (.invokevirtual 102, 3) := by decide +kernel
theorem dX7_quash_59 : decode cX7_quash 59 = .ok (.ifCond .eq 5, 3) := by decide +kernel
theorem dX7_quash_62 : decode cX7_quash 62 = .ok (.iconst 5, 1) := by decide +kernel
theorem dX7_quash_63 : decode cX7_quash 63 = .ok (.ireturn, 1) := by decide +kernel
theorem dX7_quash_64 : decode cX7_quash 64 = .ok (.new 9, 3) := by decide +kernel
theorem dX7_quash_67 : decode cX7_quash 67 = .ok (.dup, 1) := by decide +kernel
theorem dX7_quash_68 : decode cX7_quash 68 = .ok (.aload_n 0, 1) := by decide +kernel
theorem dX7_quash_69 : decode cX7_quash 69 = .ok (.getfield 22, 3) := by decide +kernel
theorem dX7_quash_72 : decode cX7_quash 72 = .ok (.iconst 4, 1) := by decide +kernel
theorem dX7_quash_73 : decode cX7_quash 73 = .ok (.iload_n 1, 1) := by decide +kernel
theorem dX7_quash_74 : decode cX7_quash 74 = .ok (.iload_n 2, 1) := by decide +kernel
theorem dX7_quash_75 : decode cX7_quash 75 = .ok (.invokespecial 60, 3) := by decide +kernel
theorem dX7_quash_78 : decode cX7_quash 78 = .ok (.astore 6, 2) := by decide +kernel
theorem dX7_quash_80 : decode cX7_quash 80 = .ok (.aload 6, 2) := by decide +kernel
theorem dX7_quash_82 : decode cX7_quash 82 = .ok (.iload_n 3, 1) := by decide +kernel
theorem dX7_quash_83 : decode cX7_quash 83 = .ok (.putfield 70, 3) := by decide +kernel
theorem dX7_quash_86 : decode cX7_quash 86 = .ok (.aload_n 0, 1) := by decide +kernel
theorem dX7_quash_87 : decode cX7_quash 87 = .ok (.aload 6, 2) := by decide +kernel
theorem dX7_quash_89 : decode cX7_quash 89 = .ok (.invokevirtual 63, 3) := by decide +kernel
theorem dX7_quash_92 : decode cX7_quash 92 = .ok (.ireturn, 1) := by decide +kernel
theorem dX7_month_0 : decode cX7_month 0 = .ok (.aload_n 0, 1) := by decide +kernel
theorem dX7_month_1 : decode cX7_month 1 = .ok (.iload_n 1, 1) := by decide +kernel
theorem dX7_month_2 : decode cX7_month 2 = .ok (.invokevirtual 106, 3) := by decide +kernel
theorem dX7_month_5 : decode cX7_month 5 = .ok (.ifCond .eq 10, 3) := by decide +kernel
theorem dX7_month_8 : decode cX7_month 8 = .ok (.iload_n 2, 1) := by decide +kernel
theorem dX7_month_9 : decode cX7_month 9 = .ok (.invokestatic 109, 3) := by decide +kernel
theorem dX7_month_12 : decode cX7_month 12 = .ok (.ifCond .ne 5, 3) := by decide +kernel
theorem dX7_month_15 : decode cX7_month 15 = .ok (.iconst 1, 1) := by decide +kernel
theorem dX7_month_16 : decode cX7_month 16 = .ok (.ireturn, 1) := by decide +kernel
theorem dX7_month_17 : decode cX7_month 17 = .ok (.iload 4, 2) := by decide +kernel
theorem dX7_month_19 : decode cX7_month 19 = .ok (.ifCond .lt 10, 3) := by decide +kernel
theorem dX7_month_22 : decode cX7_month 22 = .ok (.iload 4, 2) := by decide +kernel
theorem dX7_month_24 : decode cX7_month 24 = .ok (.bipush 30, 2) := by decide +kernel
theorem dX7_month_26 : decode cX7_month 26 = .ok (.if_icmp .le 5, 3) := by decide +kernel
theorem dX7_month_29 : decode cX7_month 29 = .ok (.iconst 3, 1) := by decide +kernel
theorem dX7_month_30 : decode cX7_month 30 = .ok (.ireturn, 1) := by decide +kernel
theorem dX7_month_31 : decode cX7_month 31 = .ok (.new 9, 3) := by decide +kernel
theorem dX7_month_34 : decode cX7_month 34 = .ok (.dup, 1) := by decide +kernel
theorem dX7_month_35 : decode cX7_month 35 = .ok (.aload_n 0, 1) := by decide +kernel
theorem dX7_month_36 : decode cX7_month 36 = .ok (.getfield 22, 3) := by decide +kernel
theorem dX7_month_39 : decode cX7_month 39 = .ok (.iconst 5, 1) := by decide +kernel
theorem dX7_month_40 : decode cX7_month 40 = .ok (.iload_n 1, 1) := by decide +kernel
theorem dX7_month_41 : decode cX7_month 41 = .ok (.iload_n 2, 1) := by decide +kernel
theorem dX7_month_42 : decode cX7_month 42 = .ok (.invokespecial 60, 3) := by decide +kernel
theorem dX7_month_45 : decode cX7_month 45 = .ok (.astore 5, 2) := by decide +kernel
theorem dX7_month_47 : decode cX7_month 47 = .ok (.aload 5, 2) := by decide +kernel
theorem dX7_month_49 : decode cX7_month 49 = .ok (.iload_n 3, 1) := by decide +kernel
theorem dX7_month_50 : decode cX7_month 50 = .ok (.ifCond .eq 7, 3) := by decide +kernel
theorem dX7_month_53 : decode cX7_month 53 = .ok (.iconst 1, 1) := by decide +kernel
theorem dX7_month_54 : decode cX7_month 54 = .ok (.goto 4, 3) := by decide +kernel
theorem dX7_month_57 : decode cX7_month 57 = .ok (.iconst 0, 1) := by decide +kernel
theorem dX7_month_58 : decode cX7_month 58 = .ok (.putfield 70, 3) := by decide +kernel
theorem dX7_month_61 : decode cX7_month 61 = .ok (.aload 5, 2) := by decide +kernel
theorem dX7_month_63 : decode cX7_month 63 = .ok (.iload 4, 2) := by decide +kernel
theorem dX7_month_65 : decode cX7_month 65 = .ok (.putfield 73, 3) := by decide +kernel
theorem dX7_month_68 : decode cX7_month 68 = .ok (.aload_n 0, 1) := by decide +kernel
theorem dX7_month_69 : decode cX7_month 69 = .ok (.aload 5, 2) := by decide +kernel
theorem dX7_month_71 : decode cX7_month 71 = .ok (.invokevirtual 63, 3) := by decide +kernel
theorem dX7_month_74 : decode cX7_month 74 = .ok (.ireturn, 1) := by decide +kernel
theorem dX7_held_0 : decode cX7_held 0 = .ok (.aload_n 0, 1) := by decide +kernel
theorem dX7_held_1 : decode cX7_held 1 = .ok (.aload_n 0, 1) := by decide +kernel
theorem dX7_held_2 : decode cX7_held 2 = .ok (.getfield 31, 3) := by decide +kernel
theorem dX7_held_5 : decode cX7_held 5 = .ok (.iload_n 1, 1) := by decide +kernel
theorem dX7_held_6 : decode cX7_held 6 = .ok (.invokevirtual 112, 3) := by decide +kernel
theorem dX7_held_9 : decode cX7_held 9 = .ok (.astore 5, 2) := by decide +kernel
theorem dX7_held_11 : decode cX7_held 11 = .ok (.aload 5, 2) := by decide +kernel
theorem dX7_held_13 : decode cX7_held 13 = .ok (.ifnull 10, 3) := by decide +kernel
theorem dX7_held_16 : decode cX7_held 16 = .ok (.iload_n 2, 1) := by decide +kernel
theorem dX7_held_17 : decode cX7_held 17 = .ok (.invokestatic 109, 3) := by decide +kernel
theorem dX7_held_20 : decode cX7_held 20 = .ok (.ifCond .ne 5, 3) := by decide +kernel
theorem dX7_held_23 : decode cX7_held 23 = .ok (.iconst 1, 1) := by decide +kernel
theorem dX7_held_24 : decode cX7_held 24 = .ok (.ireturn, 1) := by decide +kernel
theorem dX7_held_25 : decode cX7_held 25 = .ok (.aload 5, 2) := by decide +kernel
theorem dX7_held_27 : decode cX7_held 27 = .ok (.iload_n 2, 1) := by decide +kernel
theorem dX7_held_28 : decode cX7_held 28 = .ok (.invokevirtual 115, 3) := by decide +kernel
theorem dX7_held_31 : decode cX7_held 31 = .ok (.ifCond .eq 16, 3) := by decide +kernel
theorem dX7_held_34 : decode cX7_held 34 = .ok (.aload 5, 2) := by decide +kernel
theorem dX7_held_36 : decode cX7_held 36 = .ok (.iload_n 2, 1) := by decide +kernel
theorem dX7_held_37 : decode cX7_held 37 = .ok (.iload 4, 2) := by decide +kernel
theorem dX7_held_39 : decode cX7_held 39 = .ok (.invokevirtual 120, 3) := by decide +kernel
theorem dX7_held_42 : decode cX7_held 42 = .ok (.ifCond .ne 5, 3) := by decide +kernel
theorem dX7_held_45 : decode cX7_held 45 = .ok (.iconst 3, 1) := by decide +kernel
theorem dX7_held_46 : decode cX7_held 46 = .ok (.ireturn, 1) := by decide +kernel
theorem dX7_held_47 : decode cX7_held 47 = .ok (.aload 5, 2) := by decide +kernel
theorem dX7_held_49 : decode cX7_held 49 = .ok (.iload_n 2, 1) := by decide +kernel
theorem dX7_held_50 : decode cX7_held 50 = .ok (.invokevirtual 115, 3) := by decide +kernel
theorem dX7_held_53 : decode cX7_held 53 = .ok (.ifCond .eq 17, 3) := by decide +kernel
theorem dX7_held_56 : decode cX7_held 56 = .ok (.iload_n 3, 1) := by decide +kernel
theorem dX7_held_57 : decode cX7_held 57 = .ok (.ifCond .lt 13, 3) := by decide +kernel
theorem dX7_held_60 : decode cX7_held 60 = .ok (.iload_n 3, 1) := by decide +kernel
theorem dX7_held_61 : decode cX7_held 61 = .ok (.aload 5, 2) := by decide +kernel
theorem dX7_held_63 : decode cX7_held 63 = .ok (.iload_n 2, 1) := by decide +kernel
theorem dX7_held_64 : decode cX7_held 64 = .ok (.invokevirtual 124, 3) := by decide +kernel
theorem dX7_held_67 : decode cX7_held 67 = .ok (.if_icmp .lt 6, 3) := by decide +kernel
theorem dX7_held_70 : decode cX7_held 70 = .ok (.bipush 6, 2) := by decide +kernel
theorem dX7_held_72 : decode cX7_held 72 = .ok (.ireturn, 1) := by decide +kernel
theorem dX7_held_73 : decode cX7_held 73 = .ok (.new 9, 3) := by decide +kernel
theorem dX7_held_76 : decode cX7_held 76 = .ok (.dup, 1) := by decide +kernel
theorem dX7_held_77 : decode cX7_held 77 = .ok (.aload_n 0, 1) := by decide +kernel
theorem dX7_held_78 : decode cX7_held 78 = .ok (.getfield 22, 3) := by decide +kernel
theorem dX7_held_81 : decode cX7_held 81 = .ok (.bipush 6, 2) := by decide +kernel
theorem dX7_held_83 : decode cX7_held 83 = .ok (.iload_n 1, 1) := by decide +kernel
theorem dX7_held_84 : decode cX7_held 84 = .ok (.iload_n 2, 1) := by decide +kernel
theorem dX7_held_85 : decode cX7_held 85 = .ok (.invokespecial 60, 3) := by decide +kernel
theorem dX7_held_88 : decode cX7_held 88 = .ok (.astore 6, 2) := by decide +kernel
theorem dX7_held_90 : decode cX7_held 90 = .ok (.aload 6, 2) := by decide +kernel
theorem dX7_held_92 : decode cX7_held 92 = .ok (.iload_n 3, 1) := by decide +kernel
theorem dX7_held_93 : decode cX7_held 93 = .ok (.putfield 70, 3) := by decide +kernel
theorem dX7_held_96 : decode cX7_held 96 = .ok (.aload 6, 2) := by decide +kernel
theorem dX7_held_98 : decode cX7_held 98 = .ok (.iload 4, 2) := by decide +kernel
theorem dX7_held_100 : decode cX7_held 100 = .ok (.putfield 73, 3) := by decide +kernel
theorem dX7_held_103 : decode cX7_held 103 = .ok (.aload_n 0, 1) := by decide +kernel
theorem dX7_held_104 : decode cX7_held 104 = .ok (.aload 6, 2) := by decide +kernel
theorem dX7_held_106 : decode cX7_held 106 = .ok (.invokevirtual 63, 3) := by decide +kernel
theorem dX7_held_109 : decode cX7_held 109 = .ok (.ireturn, 1) := by decide +kernel
theorem dX7_tear_0 : decode cX7_tear 0 = .ok (.aload_n 0, 1) := by decide +kernel
theorem dX7_tear_1 : decode cX7_tear 1 = .ok (.iload_n 1, 1) := by decide +kernel
theorem dX7_tear_2 : decode cX7_tear 2 = .ok (.invokevirtual 106, 3) := by decide +kernel
theorem dX7_tear_5 : decode cX7_tear 5 = .ok (.ifCond .eq 10, 3) := by decide +kernel
theorem dX7_tear_8 : decode cX7_tear 8 = .ok (.iload_n 2, 1) := by decide +kernel
theorem dX7_tear_9 : decode cX7_tear 9 = .ok (.invokestatic 109, 3) := by decide +kernel
theorem dX7_tear_12 : decode cX7_tear 12 = .ok (.ifCond .ne 5, 3) := by decide +kernel
theorem dX7_tear_15 : decode cX7_tear 15 = .ok (.iconst 1, 1) := by decide +kernel
theorem dX7_tear_16 : decode cX7_tear 16 = .ok (.ireturn, 1) := by decide +kernel
theorem dX7_tear_17 : decode cX7_tear 17 = .ok (.aload_n 0, 1) := by decide +kernel
theorem dX7_tear_18 : decode cX7_tear 18 = .ok (.new 9, 3) := by decide +kernel
theorem dX7_tear_21 : decode cX7_tear 21 = .ok (.dup, 1) := by decide +kernel
theorem dX7_tear_22 : decode cX7_tear 22 = .ok (.aload_n 0, 1) := by decide +kernel
theorem dX7_tear_23 : decode cX7_tear 23 = .ok (.getfield 22, 3) := by decide +kernel
theorem dX7_tear_26 : decode cX7_tear 26 = .ok (.bipush 7, 2) := by decide +kernel
theorem dX7_tear_28 : decode cX7_tear 28 = .ok (.iload_n 1, 1) := by decide +kernel
theorem dX7_tear_29 : decode cX7_tear 29 = .ok (.iload_n 2, 1) := by decide +kernel
theorem dX7_tear_30 : decode cX7_tear 30 = .ok (.invokespecial 60, 3) := by decide +kernel
theorem dX7_tear_33 : decode cX7_tear 33 = .ok (.invokevirtual 63, 3) := by decide +kernel
theorem dX7_tear_36 : decode cX7_tear 36 = .ok (.ireturn, 1) := by decide +kernel
theorem dX7_copy_0 : decode cX7_copy 0 = .ok (.aload_n 0, 1) := by decide +kernel
theorem dX7_copy_1 : decode cX7_copy 1 = .ok (.aload_n 0, 1) := by decide +kernel
theorem dX7_copy_2 : decode cX7_copy 2 = .ok (.getfield 31, 3) := by decide +kernel
theorem dX7_copy_5 : decode cX7_copy 5 = .ok (.iload_n 1, 1) := by decide +kernel
theorem dX7_copy_6 : decode cX7_copy 6 = .ok (.invokevirtual 112, 3) := by decide +kernel
theorem dX7_copy_9 : decode cX7_copy 9 = .ok (.astore 5, 2) := by decide +kernel
theorem dX7_copy_11 : decode cX7_copy 11 = .ok (.aload 5, 2) := by decide +kernel
theorem dX7_copy_13 : decode cX7_copy 13 = .ok (.ifnull 26, 3) := by decide +kernel
theorem dX7_copy_16 : decode cX7_copy 16 = .ok (.iload_n 2, 1) := by decide +kernel
theorem dX7_copy_17 : decode cX7_copy 17 = .ok (.invokestatic 109, 3) := by decide +kernel
theorem dX7_copy_20 : decode cX7_copy 20 = .ok (.ifCond .eq 19, 3) := by decide +kernel
theorem dX7_copy_23 : decode cX7_copy 23 = .ok (.aload_n 0, 1) := by decide +kernel
theorem dX7_copy_24 : decode cX7_copy 24 = .ok (.iload_n 3, 1) := by decide +kernel
theorem dX7_copy_25 : decode cX7_copy 25 = .ok (.invokevirtual 106, 3) := by decide +kernel
theorem dX7_copy_28 : decode cX7_copy 28 = .ok (.ifCond .eq 11, 3) := by decide +kernel
theorem dX7_copy_31 : decode cX7_copy 31 = .ok (.iload 4, 2) := by decide +kernel
theorem dX7_copy_33 : decode cX7_copy 33 = .ok (.invokestatic 109, 3) := by decide +kernel
theorem dX7_copy_36 : decode cX7_copy 36 = .ok (.ifCond .ne 5, 3) := by decide +kernel
theorem dX7_copy_39 : decode cX7_copy 39 = .ok (.iconst 1, 1) := by decide +kernel
theorem dX7_copy_40 : decode cX7_copy 40 = .ok (.ireturn, 1) := by decide +kernel
theorem dX7_copy_41 : decode cX7_copy 41 = .ok (.aload 5, 2) := by decide +kernel
theorem dX7_copy_43 : decode cX7_copy 43 = .ok (.iload_n 2, 1) := by decide +kernel
theorem dX7_copy_44 : decode cX7_copy 44 = .ok (.invokevirtual 115, 3) := by decide +kernel
theorem dX7_copy_47 : decode cX7_copy 47 = .ok (.ifCond .ne 6, 3) := by decide +kernel
theorem dX7_copy_50 : decode cX7_copy 50 = .ok (.bipush 6, 2) := by decide +kernel
theorem dX7_copy_52 : decode cX7_copy 52 = .ok (.ireturn, 1) := by decide +kernel
theorem dX7_copy_53 : decode cX7_copy 53 = .ok (.new 9, 3) := by decide +kernel
theorem dX7_copy_56 : decode cX7_copy 56 = .ok (.dup, 1) := by decide +kernel
theorem dX7_copy_57 : decode cX7_copy 57 = .ok (.aload_n 0, 1) := by decide +kernel
theorem dX7_copy_58 : decode cX7_copy 58 = .ok (.getfield 22, 3) := by decide +kernel
theorem dX7_copy_61 : decode cX7_copy 61 = .ok (.bipush 8, 2) := by decide +kernel
theorem dX7_copy_63 : decode cX7_copy 63 = .ok (.iload_n 1, 1) := by decide +kernel
theorem dX7_copy_64 : decode cX7_copy 64 = .ok (.iload_n 2, 1) := by decide +kernel
theorem dX7_copy_65 : decode cX7_copy 65 = .ok (.invokespecial 60, 3) := by decide +kernel
theorem dX7_copy_68 : decode cX7_copy 68 = .ok (.astore 6, 2) := by decide +kernel
theorem dX7_copy_70 : decode cX7_copy 70 = .ok (.aload 6, 2) := by decide +kernel
theorem dX7_copy_72 : decode cX7_copy 72 = .ok (.iload_n 3, 1) := by decide +kernel
theorem dX7_copy_73 : decode cX7_copy 73 = .ok (.putfield 70, 3) := by decide +kernel
theorem dX7_copy_76 : decode cX7_copy 76 = .ok (.aload 6, 2) := by decide +kernel
theorem dX7_copy_78 : decode cX7_copy 78 = .ok (.iload 4, 2) := by decide +kernel
theorem dX7_copy_80 : decode cX7_copy 80 = .ok (.putfield 73, 3) := by decide +kernel
theorem dX7_copy_83 : decode cX7_copy 83 = .ok (.aload_n 0, 1) := by decide +kernel
theorem dX7_copy_84 : decode cX7_copy 84 = .ok (.aload 6, 2) := by decide +kernel
theorem dX7_copy_86 : decode cX7_copy 86 = .ok (.invokevirtual 63, 3) := by decide +kernel
theorem dX7_copy_89 : decode cX7_copy 89 = .ok (.ireturn, 1) := by decide +kernel
theorem dX7_off_0 : decode cX7_off 0 = .ok (.aload_n 0, 1) := by decide +kernel
theorem dX7_off_1 : decode cX7_off 1 = .ok (.aload_n 0, 1) := by decide +kernel
theorem dX7_off_2 : decode cX7_off 2 = .ok (.getfield 31, 3) := by decide +kernel
theorem dX7_off_5 : decode cX7_off 5 = .ok (.iload_n 1, 1) := by decide +kernel
theorem dX7_off_6 : decode cX7_off 6 = .ok (.iload_n 2, 1) := by decide +kernel
theorem dX7_off_7 : decode cX7_off 7 = .ok (.invokevirtual 93, 3) := by decide +kernel
theorem dX7_off_10 : decode cX7_off 10 = .ok (.astore 5, 2) := by decide +kernel
theorem dX7_off_12 : decode cX7_off 12 = .ok (.aload 5, 2) := by decide +kernel
theorem dX7_off_14 : decode cX7_off 14 = .ok (.ifnonnull 5, 3) := by decide +kernel
theorem dX7_off_17 : decode cX7_off 17 = .ok (.iconst 1, 1) := by decide +kernel
theorem dX7_off_18 : decode cX7_off 18 = .ok (.ireturn, 1) := by decide +kernel
theorem dX7_off_19 : decode cX7_off 19 = .ok (.iload_n 3, 1) := by decide +kernel
theorem dX7_off_20 : decode cX7_off 20 = .ok (.iconst 2, 1) := by decide +kernel
theorem dX7_off_21 : decode cX7_off 21 = .ok (.if_icmp .lt 22, 3) := by decide +kernel
theorem dX7_off_24 : decode cX7_off 24 = .ok (.iload_n 3, 1) := by decide +kernel
theorem dX7_off_25 : decode cX7_off 25 = .ok (.bipush 100, 2) := by decide +kernel
theorem dX7_off_27 : decode cX7_off 27 = .ok (.if_icmp .gt 16, 3) := by decide +kernel
theorem dX7_off_30 : decode cX7_off 30 = .ok (.iload 4, 2) := by decide +kernel
theorem dX7_off_32 : decode cX7_off 32 = .ok (.ifCond .lt 11, 3) := by decide +kernel
theorem dX7_off_35 : decode cX7_off 35 = .ok (.iload 4, 2) := by decide +kernel
theorem dX7_off_37 : decode cX7_off 37 = .ok (.sipush 1000, 3) := by decide +kernel
theorem dX7_off_40 : decode cX7_off 40 = .ok (.if_icmp .le 5, 3) := by decide +kernel
theorem dX7_off_43 : decode cX7_off 43 = .ok (.iconst 3, 1) := by decide +kernel
theorem dX7_off_44 : decode cX7_off 44 = .ok (.ireturn, 1) := by decide +kernel
theorem dX7_off_45 : decode cX7_off 45 = .ok (.aload 5, 2) := by decide +kernel
theorem dX7_off_47 : decode cX7_off 47 = .ok (.invokevirtual 128, 3) := by decide +kernel
theorem dX7_off_50 : decode cX7_off 50 = .ok (.ifCond .ne 5, 3) := by decide +kernel
theorem dX7_off_53 : decode cX7_off 53 = .ok (.iconst 5, 1) := by decide +kernel
theorem dX7_off_54 : decode cX7_off 54 = .ok (.ireturn, 1) := by decide +kernel
theorem dX7_off_55 : decode cX7_off 55 = .ok (.new 9, 3) := by decide +kernel
theorem dX7_off_58 : decode cX7_off 58 = .ok (.dup, 1) := by decide +kernel
theorem dX7_off_59 : decode cX7_off 59 = .ok (.aload_n 0, 1) := by decide +kernel
theorem dX7_off_60 : decode cX7_off 60 = .ok (.getfield 22, 3) := by decide +kernel
theorem dX7_off_63 : decode cX7_off 63 = .ok (.bipush 9, 2) := by decide +kernel
theorem dX7_off_65 : decode cX7_off 65 = .ok (.iload_n 1, 1) := by decide +kernel
theorem dX7_off_66 : decode cX7_off 66 = .ok (.iload_n 2, 1) := by decide +kernel
theorem dX7_off_67 : decode cX7_off 67 = .ok (.invokespecial 60, 3) := by decide +kernel
theorem dX7_off_70 : decode cX7_off 70 = .ok (.astore 6, 2) := by decide +kernel
theorem dX7_off_72 : decode cX7_off 72 = .ok (.aload 6, 2) := by decide +kernel
theorem dX7_off_74 : decode cX7_off 74 = .ok (.iload_n 3, 1) := by decide +kernel
theorem dX7_off_75 : decode cX7_off 75 = .ok (.putfield 70, 3) := by decide +kernel
theorem dX7_off_78 : decode cX7_off 78 = .ok (.aload 6, 2) := by decide +kernel
theorem dX7_off_80 : decode cX7_off 80 = .ok (.iload 4, 2) := by decide +kernel
theorem dX7_off_82 : decode cX7_off 82 = .ok (.putfield 73, 3) := by decide +kernel
theorem dX7_off_85 : decode cX7_off 85 = .ok (.aload_n 0, 1) := by decide +kernel
theorem dX7_off_86 : decode cX7_off 86 = .ok (.aload 6, 2) := by decide +kernel
theorem dX7_off_88 : decode cX7_off 88 = .ok (.invokevirtual 63, 3) := by decide +kernel
theorem dX7_off_91 : decode cX7_off 91 = .ok (.ireturn, 1) := by decide +kernel
theorem dX7_back_0 : decode cX7_back 0 = .ok (.aload_n 0, 1) := by decide +kernel
theorem dX7_back_1 : decode cX7_back 1 = .ok (.aload_n 0, 1) := by decide +kernel
theorem dX7_back_2 : decode cX7_back 2 = .ok (.getfield 31, 3) := by decide +kernel
theorem dX7_back_5 : decode cX7_back 5 = .ok (.iload_n 1, 1) := by decide +kernel
theorem dX7_back_6 : decode cX7_back 6 = .ok (.invokevirtual 112, 3) := by decide +kernel
theorem dX7_back_9 : decode cX7_back 9 = .ok (.astore 4, 2) := by decide +kernel
theorem dX7_back_11 : decode cX7_back 11 = .ok (.aload 4, 2) := by decide +kernel
theorem dX7_back_13 : decode cX7_back 13 = .ok (.ifnonnull 7, 3) := by decide +kernel
theorem dX7_back_16 : decode cX7_back 16 = .ok (.aconst_null, 1) := by decide +kernel
theorem dX7_back_17 : decode cX7_back 17 = .ok (.goto 9, 3) := by decide +kernel
theorem dX7_back_20 : decode cX7_back 20 = .ok (.aload 4, 2) := by decide +kernel
theorem dX7_back_22 : decode cX7_back 22 = .ok (.iload_n 2, 1) := by decide +kernel
theorem dX7_back_23 : decode cX7_back 23 = .ok (.invokevirtual 131, 3) := by decide +kernel
theorem dX7_back_26 : decode cX7_back 26 = .ok (.astore 5, 2) := by decide +kernel
theorem dX7_back_28 : decode cX7_back 28 = .ok (.aload 5, 2) := by decide +kernel
theorem dX7_back_30 : decode cX7_back 30 = .ok (.ifnonnull 5, 3) := by decide +kernel
theorem dX7_back_33 : decode cX7_back 33 = .ok (.iconst 1, 1) := by decide +kernel
theorem dX7_back_34 : decode cX7_back 34 = .ok (.ireturn, 1) := by decide +kernel
theorem dX7_back_35 : decode cX7_back 35 = .ok (.aload 5, 2) := by decide +kernel
theorem dX7_back_37 : decode cX7_back 37 = .ok (.invokevirtual 128, 3) := by decide +kernel
theorem dX7_back_40 : decode cX7_back 40 = .ok (.ifCond .ne 5, 3) := by decide +kernel
theorem dX7_back_43 : decode cX7_back 43 = .ok (.iconst 5, 1) := by decide +kernel
theorem dX7_back_44 : decode cX7_back 44 = .ok (.ireturn, 1) := by decide +kernel
theorem dX7_back_45 : decode cX7_back 45 = .ok (.aload_n 0, 1) := by decide +kernel
theorem dX7_back_46 : decode cX7_back 46 = .ok (.getfield 41, 3) := by decide +kernel
theorem dX7_back_49 : decode cX7_back 49 = .ok (.aload 4, 2) := by decide +kernel
theorem dX7_back_51 : decode cX7_back 51 = .ok (.iconst 0, 1) := by decide +kernel
theorem dX7_back_52 : decode cX7_back 52 = .ok (.invokevirtual 135, 3) := by decide +kernel
theorem dX7_back_55 : decode cX7_back 55 = .ok (.aload_n 0, 1) := by decide +kernel
theorem dX7_back_56 : decode cX7_back 56 = .ok (.getfield 41, 3) := by decide +kernel
theorem dX7_back_59 : decode cX7_back 59 = .ok (.aload 5, 2) := by decide +kernel
theorem dX7_back_61 : decode cX7_back 61 = .ok (.iload_n 2, 1) := by decide +kernel
theorem dX7_back_62 : decode cX7_back 62 = .ok (.aload_n 0, 1) := by decide +kernel
theorem dX7_back_63 : decode cX7_back 63 = .ok (.getfield 22, 3) := by decide +kernel
theorem dX7_back_66 : decode cX7_back 66 = .ok (.invokevirtual 139, 3) := by decide +kernel
theorem dX7_back_69 : decode cX7_back 69 = .ok (.aload 5, 2) := by decide +kernel
theorem dX7_back_71 : decode cX7_back 71 = .ok (.getfield 143, 3) := by decide +kernel
theorem dX7_back_74 : decode cX7_back 74 = .ok (.isub, 1) := by decide +kernel
theorem dX7_back_75 : decode cX7_back 75 = .ok (.istore 6, 2) := by decide +kernel
theorem dX7_back_77 : decode cX7_back 77 = .ok (.iload_n 3, 1) := by decide +kernel
theorem dX7_back_78 : decode cX7_back 78 = .ok (.aload 5, 2) := by decide +kernel
theorem dX7_back_80 : decode cX7_back 80 = .ok (.getfield 143, 3) := by decide +kernel
theorem dX7_back_83 : decode cX7_back 83 = .ok (.ineg, 1) := by decide +kernel
theorem dX7_back_84 : decode cX7_back 84 = .ok (.if_icmp .lt 13, 3) := by decide +kernel
theorem dX7_back_87 : decode cX7_back 87 = .ok (.iload_n 3, 1) := by decide +kernel
theorem dX7_back_88 : decode cX7_back 88 = .ok (.ifCond .le 11, 3) := by decide +kernel
theorem dX7_back_91 : decode cX7_back 91 = .ok (.iload_n 3, 1) := by decide +kernel
theorem dX7_back_92 : decode cX7_back 92 = .ok (.iload 6, 2) := by decide +kernel
theorem dX7_back_94 : decode cX7_back 94 = .ok (.if_icmp .le 5, 3) := by decide +kernel
theorem dX7_back_97 : decode cX7_back 97 = .ok (.iconst 3, 1) := by decide +kernel
theorem dX7_back_98 : decode cX7_back 98 = .ok (.ireturn, 1) := by decide +kernel
theorem dX7_back_99 : decode cX7_back 99 = .ok (.new 9, 3) := by decide +kernel
theorem dX7_back_102 : decode cX7_back 102 = .ok (.dup, 1) := by decide +kernel
theorem dX7_back_103 : decode cX7_back 103 = .ok (.aload_n 0, 1) := by decide +kernel
theorem dX7_back_104 : decode cX7_back 104 = .ok (.getfield 22, 3) := by decide +kernel
theorem dX7_back_107 : decode cX7_back 107 = .ok (.bipush 10, 2) := by decide +kernel
theorem dX7_back_109 : decode cX7_back 109 = .ok (.iload_n 1, 1) := by decide +kernel
theorem dX7_back_110 : decode cX7_back 110 = .ok (.iload_n 2, 1) := by decide +kernel
theorem dX7_back_111 : decode cX7_back 111 = .ok (.invokespecial 60, 3) := by decide +kernel
theorem dX7_back_114 : decode cX7_back 114 = .ok (.astore 7, 2) := by decide +kernel
theorem dX7_back_116 : decode cX7_back 116 = .ok (.aload 7, 2) := by decide +kernel
theorem dX7_back_118 : decode cX7_back 118 = .ok (.iload_n 3, 1) := by decide +kernel
theorem dX7_back_119 : decode cX7_back 119 = .ok (.putfield 70, 3) := by decide +kernel
theorem dX7_back_122 : decode cX7_back 122 = .ok (.aload_n 0, 1) := by decide +kernel
theorem dX7_back_123 : decode cX7_back 123 = .ok (.aload 7, 2) := by decide +kernel
theorem dX7_back_125 : decode cX7_back 125 = .ok (.invokevirtual 63, 3) := by decide +kernel
theorem dX7_back_128 : decode cX7_back 128 = .ok (.ireturn, 1) := by decide +kernel
theorem dX7_grant_0 : decode cX7_grant 0 = .ok (.aload_n 0, 1) := by decide +kernel
theorem dX7_grant_1 : decode cX7_grant 1 = .ok (.aload_n 0, 1) := by decide +kernel
theorem dX7_grant_2 : decode cX7_grant 2 = .ok (.getfield 31, 3) := by decide +kernel
theorem dX7_grant_5 : decode cX7_grant 5 = .ok (.iload_n 1, 1) := by decide +kernel
theorem dX7_grant_6 : decode cX7_grant 6 = .ok (.invokevirtual 112, 3) := by decide +kernel
theorem dX7_grant_9 : decode cX7_grant 9 = .ok (.astore_n 3, 1) := by decide +kernel
theorem dX7_grant_10 : decode cX7_grant 10 = .ok (.aload_n 3, 1) := by decide +kernel
theorem dX7_grant_11 : decode cX7_grant 11 = .ok (.ifnonnull 5, 3) := by decide +kernel
theorem dX7_grant_14 : decode cX7_grant 14 = .ok (.iconst 1, 1) := by decide +kernel
theorem dX7_grant_15 : decode cX7_grant 15 = .ok (.ireturn, 1) := by decide +kernel
theorem dX7_grant_16 : decode cX7_grant 16 = .ok (.iload_n 2, 1) := by decide +kernel
theorem dX7_grant_17 : decode cX7_grant 17 = .ok (.invokestatic 52, 3) := by decide +kernel
theorem dX7_grant_20 : decode cX7_grant 20 = .ok (.ifCond .ne 5, 3) := by decide +kernel
theorem dX7_grant_23 : decode cX7_grant 23 = .ok (.iconst 3, 1) := by decide +kernel
theorem dX7_grant_24 : decode cX7_grant 24 = .ok (.ireturn, 1) := by decide +kernel
theorem dX7_grant_25 : decode cX7_grant 25 = .ok (.aload_n 0, 1) := by decide +kernel
theorem dX7_grant_26 : decode cX7_grant 26 = .ok (.getfield 15, 3) := by decide +kernel
theorem dX7_grant_29 : decode cX7_grant 29 = .ok (.sipush 400, 3) := by decide +kernel
theorem dX7_grant_32 : decode cX7_grant 32 = .ok (.if_icmp .lt 6, 3) := by decide +kernel
theorem dX7_grant_35 : decode cX7_grant 35 = .ok (.bipush 7, 2) := by decide +kernel
theorem dX7_grant_37 : decode cX7_grant 37 = .ok (.ireturn, 1) := by decide +kernel
theorem dX7_grant_38 : decode cX7_grant 38 = .ok (.aload_n 0, 1) := by decide +kernel
theorem dX7_grant_39 : decode cX7_grant 39 = .ok (.getfield 41, 3) := by decide +kernel
theorem dX7_grant_42 : decode cX7_grant 42 = .ok (.aload_n 3, 1) := by decide +kernel
theorem dX7_grant_43 : decode cX7_grant 43 = .ok (.iconst 0, 1) := by decide +kernel
theorem dX7_grant_44 : decode cX7_grant 44 = .ok (.invokevirtual 135, 3) := by decide +kernel
theorem dX7_grant_47 : decode cX7_grant 47 = .ok (.iload_n 2, 1) := by decide +kernel
theorem dX7_grant_48 : decode cX7_grant 48 = .ok (.aload_n 0, 1) := by decide +kernel
theorem dX7_grant_49 : decode cX7_grant 49 = .ok (.getfield 41, 3) := by decide +kernel
theorem dX7_grant_52 : decode cX7_grant 52 = .ok (.aload_n 3, 1) := by decide +kernel
theorem dX7_grant_53 : decode cX7_grant 53 = .ok (.sipush 500, 3) := by decide +kernel
theorem dX7_grant_56 : decode cX7_grant 56 = .ok (.invokevirtual 146, 3) := by decide +kernel
theorem dX7_grant_59 : decode cX7_grant 59 = .ok (.if_icmp .ge 6, 3) := by decide +kernel
theorem dX7_grant_62 : decode cX7_grant 62 = .ok (.bipush 8, 2) := by decide +kernel
theorem dX7_grant_64 : decode cX7_grant 64 = .ok (.ireturn, 1) := by decide +kernel
theorem dX7_grant_65 : decode cX7_grant 65 = .ok (.aload_n 0, 1) := by decide +kernel
theorem dX7_grant_66 : decode cX7_grant 66 = .ok (.new 9, 3) := by decide +kernel
theorem dX7_grant_69 : decode cX7_grant 69 = .ok (.dup, 1) := by decide +kernel
theorem dX7_grant_70 : decode cX7_grant 70 = .ok (.aload_n 0, 1) := by decide +kernel
theorem dX7_grant_71 : decode cX7_grant 71 = .ok (.getfield 22, 3) := by decide +kernel
theorem dX7_grant_74 : decode cX7_grant 74 = .ok (.bipush 11, 2) := by decide +kernel
theorem dX7_grant_76 : decode cX7_grant 76 = .ok (.iload_n 1, 1) := by decide +kernel
theorem dX7_grant_77 : decode cX7_grant 77 = .ok (.iload_n 2, 1) := by decide +kernel
theorem dX7_grant_78 : decode cX7_grant 78 = .ok (.invokespecial 60, 3) := by decide +kernel
theorem dX7_grant_81 : decode cX7_grant 81 = .ok (.invokevirtual 63, 3) := by decide +kernel
theorem dX7_grant_84 : decode cX7_grant 84 = .ok (.ireturn, 1) := by decide +kernel
theorem dX7_recall_0 : decode cX7_recall 0 = .ok (.aload_n 0, 1) := by decide +kernel
theorem dX7_recall_1 : decode cX7_recall 1 = .ok (.aload_n 0, 1) := by decide +kernel
theorem dX7_recall_2 : decode cX7_recall 2 = .ok (.getfield 31, 3) := by decide +kernel
theorem dX7_recall_5 : decode cX7_recall 5 = .ok (.iload_n 1, 1) := by decide +kernel
theorem dX7_recall_6 : decode cX7_recall 6 = .ok (.invokevirtual 112, 3) := by decide +kernel
theorem dX7_recall_9 : decode cX7_recall 9 = .ok (.astore 5, 2) := by decide +kernel
theorem dX7_recall_11 : decode cX7_recall 11 = .ok (.aload_n 0, 1) := by decide +kernel
theorem dX7_recall_12 : decode cX7_recall 12 = .ok (.iload_n 1, 1) := by decide +kernel
theorem dX7_recall_13 : decode cX7_recall 13 = .ok (.iload_n 2, 1) := by decide +kernel
theorem dX7_recall_14 : decode cX7_recall 14 = .ok (.invokevirtual 56, 3) := by decide +kernel
theorem dX7_recall_17 : decode cX7_recall 17 = .ok (.istore 6, 2) := by decide +kernel
theorem dX7_recall_19 : decode cX7_recall 19 = .ok (.aload 5, 2) := by decide +kernel
theorem dX7_recall_21 : decode cX7_recall 21 = .ok (.ifnull 8, 3) := by decide +kernel
theorem dX7_recall_24 : decode cX7_recall 24 = .ok (.iload 6, 2) := by decide +kernel
theorem dX7_recall_26 : decode cX7_recall 26 = .ok (.ifCond .eq 6, 3) := by decide +kernel
theorem dX7_recall_29 : decode cX7_recall 29 = .ok (.iload 6, 2) := by decide +kernel
theorem dX7_recall_31 : decode cX7_recall 31 = .ok (.ireturn, 1) := by decide +kernel
theorem dX7_recall_32 : decode cX7_recall 32 = .ok (.iload_n 3, 1) := by decide +kernel
theorem dX7_recall_33 : decode cX7_recall 33 = .ok (.invokestatic 52, 3) := by decide +kernel
theorem dX7_recall_36 : decode cX7_recall 36 = .ok (.ifCond .eq 17, 3) := by decide +kernel
theorem dX7_recall_39 : decode cX7_recall 39 = .ok (.iload 4, 2) := by decide +kernel
theorem dX7_recall_41 : decode cX7_recall 41 = .ok (.iconst 1, 1) := by decide +kernel
theorem dX7_recall_42 : decode cX7_recall 42 = .ok (.if_icmp .lt 11, 3) := by decide +kernel
theorem dX7_recall_45 : decode cX7_recall 45 = .ok (.iload 4, 2) := by decide +kernel
theorem dX7_recall_47 : decode cX7_recall 47 = .ok (.sipush 1000, 3) := by decide +kernel
theorem dX7_recall_50 : decode cX7_recall 50 = .ok (.if_icmp .le 5, 3) := by decide +kernel
theorem dX7_recall_53 : decode cX7_recall 53 = .ok (.iconst 3, 1) := by decide +kernel
theorem dX7_recall_54 : decode cX7_recall 54 = .ok (.ireturn, 1) := by decide +kernel
theorem dX7_recall_55 : decode cX7_recall 55 = .ok (.aload_n 0, 1) := by decide +kernel
theorem dX7_recall_56 : decode cX7_recall 56 = .ok (.getfield 15, 3) := by decide +kernel
theorem dX7_recall_59 : decode cX7_recall 59 = .ok (.sipush 400, 3) := by decide +kernel
theorem dX7_recall_62 : decode cX7_recall 62 = .ok (.if_icmp .lt 6, 3) := by decide +kernel
theorem dX7_recall_65 : decode cX7_recall 65 = .ok (.bipush 7, 2) := by decide +kernel
theorem dX7_recall_67 : decode cX7_recall 67 = .ok (.ireturn, 1) := by decide +kernel
theorem dX7_recall_68 : decode cX7_recall 68 = .ok (.aload_n 0, 1) := by decide +kernel
theorem dX7_recall_69 : decode cX7_recall 69 = .ok (.getfield 41, 3) := by decide +kernel
theorem dX7_recall_72 : decode cX7_recall 72 = .ok (.aload 5, 2) := by decide +kernel
theorem dX7_recall_74 : decode cX7_recall 74 = .ok (.iconst 0, 1) := by decide +kernel
theorem dX7_recall_75 : decode cX7_recall 75 = .ok (.invokevirtual 135, 3) := by decide +kernel
theorem dX7_recall_78 : decode cX7_recall 78 = .ok (.aload_n 0, 1) := by decide +kernel
theorem dX7_recall_79 : decode cX7_recall 79 = .ok (.getfield 41, 3) := by decide +kernel
theorem dX7_recall_82 : decode cX7_recall 82 = .ok (.invokevirtual 150, 3) := by decide +kernel
theorem dX7_recall_85 : decode cX7_recall 85 = .ok (.istore 7, 2) := by decide +kernel
theorem dX7_recall_87 : decode cX7_recall 87 = .ok (.aload 5, 2) := by decide +kernel
theorem dX7_recall_89 : decode cX7_recall 89 = .ok (.getfield 154, 3) := by decide +kernel
theorem dX7_recall_92 : decode cX7_recall 92 = .ok (.iconst (-1), 1) := by decide +kernel
theorem dX7_recall_93 : decode cX7_recall 93 = .ok (.if_icmp .eq 29, 3) := by decide +kernel
theorem dX7_recall_96 : decode cX7_recall 96 = .ok (.iload_n 3, 1) := by decide +kernel
theorem dX7_recall_97 : decode cX7_recall 97 = .ok (.aload 5, 2) := by decide +kernel
theorem dX7_recall_99 : decode cX7_recall 99 = .ok (.getfield 154, 3) := by decide +kernel
theorem dX7_recall_102 : decode cX7_recall 102 = .ok (.if_icmp .le 20, 3) := by decide +kernel
theorem dX7_recall_105 : decode cX7_recall 105 = .ok (.iload 7, 2) := by decide +kernel
theorem dX7_recall_107 : decode cX7_recall 107 = .ok (.ldc 157, 2) := by decide +kernel
theorem dX7_recall_109 : decode cX7_recall 109 = .ok (.if_icmp .eq 13, 3) := by decide +kernel
theorem dX7_recall_112 : decode cX7_recall 112 = .ok (.iload 7, 2) := by decide +kernel
theorem dX7_recall_114 : decode cX7_recall 114 = .ok (.aload 5, 2) := by decide +kernel
theorem dX7_recall_116 : decode cX7_recall 116 = .ok (.getfield 154, 3) := by decide +kernel
theorem dX7_recall_119 : decode cX7_recall 119 = .ok (.if_icmp .gt 6, 3) := by decide +kernel
theorem dX7_recall_122 : decode cX7_recall 122 = .ok (.bipush 8, 2) := by decide +kernel
theorem dX7_recall_124 : decode cX7_recall 124 = .ok (.ireturn, 1) := by decide +kernel
theorem dX7_recall_125 : decode cX7_recall 125 = .ok (.new 9, 3) := by decide +kernel
theorem dX7_recall_128 : decode cX7_recall 128 = .ok (.dup, 1) := by decide +kernel
theorem dX7_recall_129 : decode cX7_recall 129 = .ok (.aload_n 0, 1) := by decide +kernel
theorem dX7_recall_130 : decode cX7_recall 130 = .ok (.getfield 22, 3) := by decide +kernel
theorem dX7_recall_133 : decode cX7_recall 133 = .ok (.bipush 12, 2) := by decide +kernel
theorem dX7_recall_135 : decode cX7_recall 135 = .ok (.iload_n 1, 1) := by decide +kernel
theorem dX7_recall_136 : decode cX7_recall 136 = .ok (.iload_n 2, 1) := by decide +kernel
theorem dX7_recall_137 : decode cX7_recall 137 = .ok (.invokespecial 60, 3) := by decide +kernel
theorem dX7_recall_140 : decode cX7_recall 140 = .ok (.astore 8, 2) := by decide +kernel
theorem dX7_recall_142 : decode cX7_recall 142 = .ok (.aload 8, 2) := by decide +kernel
theorem dX7_recall_144 : decode cX7_recall 144 = .ok (.iload_n 3, 1) := by decide +kernel
theorem dX7_recall_145 : decode cX7_recall 145 = .ok (.putfield 70, 3) := by decide +kernel
theorem dX7_recall_148 : decode cX7_recall 148 = .ok (.aload 8, 2) := by decide +kernel
theorem dX7_recall_150 : decode cX7_recall 150 = .ok (.iload 4, 2) := by decide +kernel
theorem dX7_recall_152 : decode cX7_recall 152 = .ok (.putfield 73, 3) := by decide +kernel
theorem dX7_recall_155 : decode cX7_recall 155 = .ok (.aload 8, 2) := by decide +kernel
theorem dX7_recall_157 : decode cX7_recall 157 = .ok (.iconst 1, 1) := by decide +kernel
theorem dX7_recall_158 : decode cX7_recall 158 = .ok (.iload 7, 2) := by decide +kernel
theorem dX7_recall_160 : decode cX7_recall 160 = .ok (.aload 5, 2) := by decide +kernel
theorem dX7_recall_162 : decode cX7_recall 162 = .ok (.getfield 154, 3) := by decide +kernel
theorem dX7_recall_165 : decode cX7_recall 165 = .ok (.isub, 1) := by decide +kernel
theorem dX7_recall_166 : decode cX7_recall 166 = .ok (.iload 4, 2) := by decide +kernel
theorem dX7_recall_168 : decode cX7_recall 168 = .ok (.invokestatic 158, 3) := by decide +kernel
theorem dX7_recall_171 : decode cX7_recall 171 = .ok (.invokestatic 161, 3) := by decide +kernel
theorem dX7_recall_174 : decode cX7_recall 174 = .ok (.putfield 166, 3) := by decide +kernel
theorem dX7_recall_177 : decode cX7_recall 177 = .ok (.aload_n 0, 1) := by decide +kernel
theorem dX7_recall_178 : decode cX7_recall 178 = .ok (.aload 8, 2) := by decide +kernel
theorem dX7_recall_180 : decode cX7_recall 180 = .ok (.invokevirtual 63, 3) := by decide +kernel
theorem dX7_recall_183 : decode cX7_recall 183 = .ok (.ireturn, 1) := by decide +kernel
theorem dX7_kind_0 : decode cX7_kind 0 = .ok (.aload_n 0, 1) := by decide +kernel
theorem dX7_kind_1 : decode cX7_kind 1 = .ok (.aload_n 0, 1) := by decide +kernel
theorem dX7_kind_2 : decode cX7_kind 2 = .ok (.invokevirtual 169, 3) := by decide +kernel
theorem dX7_kind_5 : decode cX7_kind 5 = .ok (.iload_n 1, 1) := by decide +kernel
theorem dX7_kind_6 : decode cX7_kind 6 = .ok (.iload_n 2, 1) := by decide +kernel
theorem dX7_kind_7 : decode cX7_kind 7 = .ok (.invokevirtual 93, 3) := by decide +kernel
theorem dX7_kind_10 : decode cX7_kind 10 = .ok (.astore_n 3, 1) := by decide +kernel
theorem dX7_kind_11 : decode cX7_kind 11 = .ok (.aload_n 3, 1) := by decide +kernel
theorem dX7_kind_12 : decode cX7_kind 12 = .ok (.ifnonnull 7, 3) := by decide +kernel
theorem dX7_kind_15 : decode cX7_kind 15 = .ok (.iconst (-1), 1) := by decide +kernel
theorem dX7_kind_16 : decode cX7_kind 16 = .ok (.goto 7, 3) := by decide +kernel
theorem dX7_kind_19 : decode cX7_kind 19 = .ok (.aload_n 3, 1) := by decide +kernel
theorem dX7_kind_20 : decode cX7_kind 20 = .ok (.getfield 97, 3) := by decide +kernel
theorem dX7_kind_23 : decode cX7_kind 23 = .ok (.ireturn, 1) := by decide +kernel
theorem dX7_begins_0 : decode cX7_begins 0 = .ok (.aload_n 0, 1) := by decide +kernel
theorem dX7_begins_1 : decode cX7_begins 1 = .ok (.iload_n 1, 1) := by decide +kernel
theorem dX7_begins_2 : decode cX7_begins 2 = .ok (.iload_n 2, 1) := by decide +kernel
theorem dX7_begins_3 : decode cX7_begins 3 = .ok (.iload_n 3, 1) := by decide +kernel
theorem dX7_begins_4 : decode cX7_begins 4 = .ok (.invokevirtual 173, 3) := by decide +kernel
theorem dX7_begins_7 : decode cX7_begins 7 = .ok (.ifCond .eq 17, 3) := by decide +kernel
theorem dX7_begins_10 : decode cX7_begins 10 = .ok (.aload_n 0, 1) := by decide +kernel
theorem dX7_begins_11 : decode cX7_begins 11 = .ok (.getfield 41, 3) := by decide +kernel
theorem dX7_begins_14 : decode cX7_begins 14 = .ok (.iload_n 2, 1) := by decide +kernel
theorem dX7_begins_15 : decode cX7_begins 15 = .ok (.invokevirtual 177, 3) := by decide +kernel
theorem dX7_begins_18 : decode cX7_begins 18 = .ok (.invokestatic 180, 3) := by decide +kernel
theorem dX7_begins_21 : decode cX7_begins 21 = .ok (.goto 4, 3) := by decide +kernel
theorem dX7_begins_24 : decode cX7_begins 24 = .ok (.iconst (-1), 1) := by decide +kernel
theorem dX7_begins_25 : decode cX7_begins 25 = .ok (.ireturn, 1) := by decide +kernel
theorem dX7_ends_0 : decode cX7_ends 0 = .ok (.aload_n 0, 1) := by decide +kernel
theorem dX7_ends_1 : decode cX7_ends 1 = .ok (.iload_n 1, 1) := by decide +kernel
theorem dX7_ends_2 : decode cX7_ends 2 = .ok (.iload_n 2, 1) := by decide +kernel
theorem dX7_ends_3 : decode cX7_ends 3 = .ok (.iload_n 3, 1) := by decide +kernel
theorem dX7_ends_4 : decode cX7_ends 4 = .ok (.invokevirtual 173, 3) := by decide +kernel
theorem dX7_ends_7 : decode cX7_ends 7 = .ok (.ifCond .eq 17, 3) := by decide +kernel
theorem dX7_ends_10 : decode cX7_ends 10 = .ok (.aload_n 0, 1) := by decide +kernel
theorem dX7_ends_11 : decode cX7_ends 11 = .ok (.getfield 41, 3) := by decide +kernel
theorem dX7_ends_14 : decode cX7_ends 14 = .ok (.iload_n 2, 1) := by decide +kernel
theorem dX7_ends_15 : decode cX7_ends 15 = .ok (.invokevirtual 183, 3) := by decide +kernel
theorem dX7_ends_18 : decode cX7_ends 18 = .ok (.invokestatic 180, 3) := by decide +kernel
theorem dX7_ends_21 : decode cX7_ends 21 = .ok (.goto 4, 3) := by decide +kernel
theorem dX7_ends_24 : decode cX7_ends 24 = .ok (.iconst (-1), 1) := by decide +kernel
theorem dX7_ends_25 : decode cX7_ends 25 = .ok (.ireturn, 1) := by decide +kernel
theorem dX7_counted_0 : decode cX7_counted 0 = .ok (.iload_n 3, 1) := by decide +kernel
theorem dX7_counted_1 : decode cX7_counted 1 = .ok (.invokestatic 52, 3) := by decide +kernel
theorem dX7_counted_4 : decode cX7_counted 4 = .ok (.ifCond .eq 14, 3) := by decide +kernel
theorem dX7_counted_7 : decode cX7_counted 7 = .ok (.aload_n 0, 1) := by decide +kernel
theorem dX7_counted_8 : decode cX7_counted 8 = .ok (.iload_n 1, 1) := by decide +kernel
theorem dX7_counted_9 : decode cX7_counted 9 = .ok (.iload_n 2, 1) := by decide +kernel
theorem dX7_counted_10 : decode cX7_counted 10 = .ok (.iload 4, 2) := by decide +kernel
theorem dX7_counted_12 : decode cX7_counted 12 = .ok (.invokevirtual 173, 3) := by decide +kernel
theorem dX7_counted_15 : decode cX7_counted 15 = .ok (.ifCond .ne 5, 3) := by decide +kernel
theorem dX7_counted_18 : decode cX7_counted 18 = .ok (.iconst (-1), 1) := by decide +kernel
theorem dX7_counted_19 : decode cX7_counted 19 = .ok (.ireturn, 1) := by decide +kernel
theorem dX7_counted_20 : decode cX7_counted 20 = .ok (.aload_n 0, 1) := by decide +kernel
theorem dX7_counted_21 : decode cX7_counted 21 = .ok (.getfield 41, 3) := by decide +kernel
theorem dX7_counted_24 : decode cX7_counted 24 = .ok (.iload_n 2, 1) := by decide +kernel
theorem dX7_counted_25 : decode cX7_counted 25 = .ok (.iload_n 3, 1) := by decide +kernel
theorem dX7_counted_26 : decode cX7_counted 26 = .ok (.invokevirtual 186, 3) := by decide +kernel
theorem dX7_counted_29 : decode cX7_counted 29 = .ok (.ireturn, 1) := by decide +kernel
theorem dX7_taken_0 : decode cX7_taken 0 = .ok (.iload_n 3, 1) := by decide +kernel
theorem dX7_taken_1 : decode cX7_taken 1 = .ok (.invokestatic 52, 3) := by decide +kernel
theorem dX7_taken_4 : decode cX7_taken 4 = .ok (.ifCond .eq 13, 3) := by decide +kernel
theorem dX7_taken_7 : decode cX7_taken 7 = .ok (.aload_n 0, 1) := by decide +kernel
theorem dX7_taken_8 : decode cX7_taken 8 = .ok (.iload_n 1, 1) := by decide +kernel
theorem dX7_taken_9 : decode cX7_taken 9 = .ok (.iload_n 2, 1) := by decide +kernel
theorem dX7_taken_10 : decode cX7_taken 10 = .ok (.iconst 0, 1) := by decide +kernel
theorem dX7_taken_11 : decode cX7_taken 11 = .ok (.invokevirtual 173, 3) := by decide +kernel
theorem dX7_taken_14 : decode cX7_taken 14 = .ok (.ifCond .ne 5, 3) := by decide +kernel
theorem dX7_taken_17 : decode cX7_taken 17 = .ok (.iconst (-1), 1) := by decide +kernel
theorem dX7_taken_18 : decode cX7_taken 18 = .ok (.ireturn, 1) := by decide +kernel
theorem dX7_taken_19 : decode cX7_taken 19 = .ok (.aload_n 0, 1) := by decide +kernel
theorem dX7_taken_20 : decode cX7_taken 20 = .ok (.getfield 41, 3) := by decide +kernel
theorem dX7_taken_23 : decode cX7_taken 23 = .ok (.aload_n 0, 1) := by decide +kernel
theorem dX7_taken_24 : decode cX7_taken 24 = .ok (.aload_n 0, 1) := by decide +kernel
theorem dX7_taken_25 : decode cX7_taken 25 = .ok (.invokevirtual 169, 3) := by decide +kernel
theorem dX7_taken_28 : decode cX7_taken 28 = .ok (.iload_n 1, 1) := by decide +kernel
theorem dX7_taken_29 : decode cX7_taken 29 = .ok (.iload_n 2, 1) := by decide +kernel
theorem dX7_taken_30 : decode cX7_taken 30 = .ok (.invokevirtual 93, 3) := by decide +kernel
theorem dX7_taken_33 : decode cX7_taken 33 = .ok (.iload_n 2, 1) := by decide +kernel
theorem dX7_taken_34 : decode cX7_taken 34 = .ok (.iload_n 3, 1) := by decide +kernel
theorem dX7_taken_35 : decode cX7_taken 35 = .ok (.invokevirtual 139, 3) := by decide +kernel
theorem dX7_taken_38 : decode cX7_taken 38 = .ok (.ireturn, 1) := by decide +kernel
theorem dX7_why_0 : decode cX7_why 0 = .ok (.aload_n 0, 1) := by decide +kernel
theorem dX7_why_1 : decode cX7_why 1 = .ok (.aload_n 0, 1) := by decide +kernel
theorem dX7_why_2 : decode cX7_why 2 = .ok (.invokevirtual 169, 3) := by decide +kernel
theorem dX7_why_5 : decode cX7_why 5 = .ok (.iload_n 1, 1) := by decide +kernel
theorem dX7_why_6 : decode cX7_why 6 = .ok (.invokevirtual 112, 3) := by decide +kernel
theorem dX7_why_9 : decode cX7_why 9 = .ok (.astore 4, 2) := by decide +kernel
theorem dX7_why_11 : decode cX7_why 11 = .ok (.aload 4, 2) := by decide +kernel
theorem dX7_why_13 : decode cX7_why 13 = .ok (.ifnonnull 7, 3) := by decide +kernel
theorem dX7_why_16 : decode cX7_why 16 = .ok (.aconst_null, 1) := by decide +kernel
theorem dX7_why_17 : decode cX7_why 17 = .ok (.goto 9, 3) := by decide +kernel
theorem dX7_why_20 : decode cX7_why 20 = .ok (.aload 4, 2) := by decide +kernel
theorem dX7_why_22 : decode cX7_why 22 = .ok (.iload_n 2, 1) := by decide +kernel
theorem dX7_why_23 : decode cX7_why 23 = .ok (.invokevirtual 131, 3) := by decide +kernel
theorem dX7_why_26 : decode cX7_why 26 = .ok (.astore 5, 2) := by decide +kernel
theorem dX7_why_28 : decode cX7_why 28 = .ok (.aload 5, 2) := by decide +kernel
theorem dX7_why_30 : decode cX7_why 30 = .ok (.ifnull 10, 3) := by decide +kernel
theorem dX7_why_33 : decode cX7_why 33 = .ok (.iload_n 3, 1) := by decide +kernel
theorem dX7_why_34 : decode cX7_why 34 = .ok (.invokestatic 52, 3) := by decide +kernel
theorem dX7_why_37 : decode cX7_why 37 = .ok (.ifCond .ne 5, 3) := by decide +kernel
theorem dX7_why_40 : decode cX7_why 40 = .ok (.iconst (-1), 1) := by decide +kernel
theorem dX7_why_41 : decode cX7_why 41 = .ok (.ireturn, 1) := by decide +kernel
theorem dX7_why_42 : decode cX7_why 42 = .ok (.aload 5, 2) := by decide +kernel
theorem dX7_why_44 : decode cX7_why 44 = .ok (.invokevirtual 189, 3) := by decide +kernel
theorem dX7_why_47 : decode cX7_why 47 = .ok (.ifCond .ne 6, 3) := by decide +kernel
theorem dX7_why_50 : decode cX7_why 50 = .ok (.bipush 7, 2) := by decide +kernel
theorem dX7_why_52 : decode cX7_why 52 = .ok (.ireturn, 1) := by decide +kernel
theorem dX7_why_53 : decode cX7_why 53 = .ok (.aload 5, 2) := by decide +kernel
theorem dX7_why_55 : decode cX7_why 55 = .ok (.invokevirtual 102, 3) := by decide +kernel
theorem dX7_why_58 : decode cX7_why 58 = .ok (.ifCond .eq 6, 3) := by decide +kernel
theorem dX7_why_61 : decode cX7_why 61 = .ok (.bipush 6, 2) := by decide +kernel
theorem dX7_why_63 : decode cX7_why 63 = .ok (.ireturn, 1) := by decide +kernel
theorem dX7_why_64 : decode cX7_why 64 = .ok (.aload_n 0, 1) := by decide +kernel
theorem dX7_why_65 : decode cX7_why 65 = .ok (.getfield 41, 3) := by decide +kernel
theorem dX7_why_68 : decode cX7_why 68 = .ok (.aload 4, 2) := by decide +kernel
theorem dX7_why_70 : decode cX7_why 70 = .ok (.iconst 0, 1) := by decide +kernel
theorem dX7_why_71 : decode cX7_why 71 = .ok (.invokevirtual 135, 3) := by decide +kernel
theorem dX7_why_74 : decode cX7_why 74 = .ok (.aload_n 0, 1) := by decide +kernel
theorem dX7_why_75 : decode cX7_why 75 = .ok (.getfield 41, 3) := by decide +kernel
theorem dX7_why_78 : decode cX7_why 78 = .ok (.iload_n 2, 1) := by decide +kernel
theorem dX7_why_79 : decode cX7_why 79 = .ok (.invokevirtual 183, 3) := by decide +kernel
theorem dX7_why_82 : decode cX7_why 82 = .ok (.iload_n 3, 1) := by decide +kernel
theorem dX7_why_83 : decode cX7_why 83 = .ok (.if_icmp .ge 5, 3) := by decide +kernel
theorem dX7_why_86 : decode cX7_why 86 = .ok (.iconst 3, 1) := by decide +kernel
theorem dX7_why_87 : decode cX7_why 87 = .ok (.ireturn, 1) := by decide +kernel
theorem dX7_why_88 : decode cX7_why 88 = .ok (.aload 4, 2) := by decide +kernel
theorem dX7_why_90 : decode cX7_why 90 = .ok (.bipush 6, 2) := by decide +kernel
theorem dX7_why_92 : decode cX7_why 92 = .ok (.iload_n 2, 1) := by decide +kernel
theorem dX7_why_93 : decode cX7_why 93 = .ok (.iload_n 3, 1) := by decide +kernel
theorem dX7_why_94 : decode cX7_why 94 = .ok (.invokevirtual 192, 3) := by decide +kernel
theorem dX7_why_97 : decode cX7_why 97 = .ok (.iconst (-1), 1) := by decide +kernel
theorem dX7_why_98 : decode cX7_why 98 = .ok (.if_icmp .eq 5, 3) := by decide +kernel
theorem dX7_why_101 : decode cX7_why 101 = .ok (.iconst 4, 1) := by decide +kernel
theorem dX7_why_102 : decode cX7_why 102 = .ok (.ireturn, 1) := by decide +kernel
theorem dX7_why_103 : decode cX7_why 103 = .ok (.aload 4, 2) := by decide +kernel
theorem dX7_why_105 : decode cX7_why 105 = .ok (.bipush 7, 2) := by decide +kernel
theorem dX7_why_107 : decode cX7_why 107 = .ok (.iload_n 2, 1) := by decide +kernel
theorem dX7_why_108 : decode cX7_why 108 = .ok (.iload_n 3, 1) := by decide +kernel
theorem dX7_why_109 : decode cX7_why 109 = .ok (.invokevirtual 192, 3) := by decide +kernel
theorem dX7_why_112 : decode cX7_why 112 = .ok (.iconst (-1), 1) := by decide +kernel
theorem dX7_why_113 : decode cX7_why 113 = .ok (.if_icmp .eq 5, 3) := by decide +kernel
theorem dX7_why_116 : decode cX7_why 116 = .ok (.iconst 1, 1) := by decide +kernel
theorem dX7_why_117 : decode cX7_why 117 = .ok (.ireturn, 1) := by decide +kernel
theorem dX7_why_118 : decode cX7_why 118 = .ok (.aload_n 0, 1) := by decide +kernel
theorem dX7_why_119 : decode cX7_why 119 = .ok (.getfield 41, 3) := by decide +kernel
theorem dX7_why_122 : decode cX7_why 122 = .ok (.iload_n 2, 1) := by decide +kernel
theorem dX7_why_123 : decode cX7_why 123 = .ok (.invokevirtual 177, 3) := by decide +kernel
theorem dX7_why_126 : decode cX7_why 126 = .ok (.iload_n 3, 1) := by decide +kernel
theorem dX7_why_127 : decode cX7_why 127 = .ok (.if_icmp .le 5, 3) := by decide +kernel
theorem dX7_why_130 : decode cX7_why 130 = .ok (.iconst 2, 1) := by decide +kernel
theorem dX7_why_131 : decode cX7_why 131 = .ok (.ireturn, 1) := by decide +kernel
theorem dX7_why_132 : decode cX7_why 132 = .ok (.aload 4, 2) := by decide +kernel
theorem dX7_why_134 : decode cX7_why 134 = .ok (.iload_n 3, 1) := by decide +kernel
theorem dX7_why_135 : decode cX7_why 135 = .ok (.iconst 0, 1) := by decide +kernel
theorem dX7_why_136 : decode cX7_why 136 = .ok (.invokevirtual 196, 3) := by decide +kernel
theorem dX7_why_139 : decode cX7_why 139 = .ok (.ifCond .eq 7, 3) := by decide +kernel
theorem dX7_why_142 : decode cX7_why 142 = .ok (.iconst 0, 1) := by decide +kernel
theorem dX7_why_143 : decode cX7_why 143 = .ok (.goto 4, 3) := by decide +kernel
theorem dX7_why_146 : decode cX7_why 146 = .ok (.iconst 5, 1) := by decide +kernel
theorem dX7_why_147 : decode cX7_why 147 = .ok (.ireturn, 1) := by decide +kernel
theorem dX7_by_0 : decode cX7_by 0 = .ok (.aload_n 0, 1) := by decide +kernel
theorem dX7_by_1 : decode cX7_by 1 = .ok (.iload_n 1, 1) := by decide +kernel
theorem dX7_by_2 : decode cX7_by 2 = .ok (.iload_n 2, 1) := by decide +kernel
theorem dX7_by_3 : decode cX7_by 3 = .ok (.iload_n 3, 1) := by decide +kernel
theorem dX7_by_4 : decode cX7_by 4 = .ok (.invokevirtual 200, 3) := by decide +kernel
theorem dX7_by_7 : decode cX7_by 7 = .ok (.istore 4, 2) := by decide +kernel
theorem dX7_by_9 : decode cX7_by 9 = .ok (.aload_n 0, 1) := by decide +kernel
theorem dX7_by_10 : decode cX7_by 10 = .ok (.aload_n 0, 1) := by decide +kernel
theorem dX7_by_11 : decode cX7_by 11 = .ok (.invokevirtual 169, 3) := by decide +kernel
theorem dX7_by_14 : decode cX7_by 14 = .ok (.iload_n 1, 1) := by decide +kernel
theorem dX7_by_15 : decode cX7_by 15 = .ok (.invokevirtual 112, 3) := by decide +kernel
theorem dX7_by_18 : decode cX7_by 18 = .ok (.astore 5, 2) := by decide +kernel
theorem dX7_by_20 : decode cX7_by 20 = .ok (.aload 5, 2) := by decide +kernel
theorem dX7_by_22 : decode cX7_by 22 = .ok (.ifnonnull 7, 3) := by decide +kernel
theorem dX7_by_25 : decode cX7_by 25 = .ok (.aconst_null, 1) := by decide +kernel
theorem dX7_by_26 : decode cX7_by 26 = .ok (.goto 9, 3) := by decide +kernel
theorem dX7_by_29 : decode cX7_by 29 = .ok (.aload 5, 2) := by decide +kernel
theorem dX7_by_31 : decode cX7_by 31 = .ok (.iload_n 2, 1) := by decide +kernel
theorem dX7_by_32 : decode cX7_by 32 = .ok (.invokevirtual 131, 3) := by decide +kernel
theorem dX7_by_35 : decode cX7_by 35 = .ok (.astore 6, 2) := by decide +kernel
theorem dX7_by_37 : decode cX7_by 37 = .ok (.aload 6, 2) := by decide +kernel
theorem dX7_by_39 : decode cX7_by 39 = .ok (.ifnonnull 5, 3) := by decide +kernel
theorem dX7_by_42 : decode cX7_by 42 = .ok (.iconst (-1), 1) := by decide +kernel
theorem dX7_by_43 : decode cX7_by 43 = .ok (.ireturn, 1) := by decide +kernel
theorem dX7_by_44 : decode cX7_by 44 = .ok (.iload 4, 2) := by decide +kernel
theorem dX7_by_46 : decode cX7_by 46 = .ok (.lookupswitch 60 #[(1, 50), (4, 40), (6, 34)], 34) := by decide +kernel
theorem dX7_by_80 : decode cX7_by 80 = .ok (.aload 6, 2) := by decide +kernel
theorem dX7_by_82 : decode cX7_by 82 = .ok (.getfield 203, 3) := by decide +kernel
theorem dX7_by_85 : decode cX7_by 85 = .ok (.ireturn, 1) := by decide +kernel
theorem dX7_by_86 : decode cX7_by 86 = .ok (.aload 5, 2) := by decide +kernel
theorem dX7_by_88 : decode cX7_by 88 = .ok (.bipush 6, 2) := by decide +kernel
theorem dX7_by_90 : decode cX7_by 90 = .ok (.iload_n 2, 1) := by decide +kernel
theorem dX7_by_91 : decode cX7_by 91 = .ok (.iload_n 3, 1) := by decide +kernel
theorem dX7_by_92 : decode cX7_by 92 = .ok (.invokevirtual 192, 3) := by decide +kernel
theorem dX7_by_95 : decode cX7_by 95 = .ok (.ireturn, 1) := by decide +kernel
theorem dX7_by_96 : decode cX7_by 96 = .ok (.aload 5, 2) := by decide +kernel
theorem dX7_by_98 : decode cX7_by 98 = .ok (.bipush 7, 2) := by decide +kernel
theorem dX7_by_100 : decode cX7_by 100 = .ok (.iload_n 2, 1) := by decide +kernel
theorem dX7_by_101 : decode cX7_by 101 = .ok (.iload_n 3, 1) := by decide +kernel
theorem dX7_by_102 : decode cX7_by 102 = .ok (.invokevirtual 192, 3) := by decide +kernel
theorem dX7_by_105 : decode cX7_by 105 = .ok (.ireturn, 1) := by decide +kernel
theorem dX7_by_106 : decode cX7_by 106 = .ok (.iconst (-1), 1) := by decide +kernel
theorem dX7_by_107 : decode cX7_by 107 = .ok (.ireturn, 1) := by decide +kernel
theorem dX7_full_0 : decode cX7_full 0 = .ok (.aload_n 0, 1) := by decide +kernel
theorem dX7_full_1 : decode cX7_full 1 = .ok (.aload_n 0, 1) := by decide +kernel
theorem dX7_full_2 : decode cX7_full 2 = .ok (.invokevirtual 169, 3) := by decide +kernel
theorem dX7_full_5 : decode cX7_full 5 = .ok (.iload_n 1, 1) := by decide +kernel
theorem dX7_full_6 : decode cX7_full 6 = .ok (.invokevirtual 112, 3) := by decide +kernel
theorem dX7_full_9 : decode cX7_full 9 = .ok (.astore_n 3, 1) := by decide +kernel
theorem dX7_full_10 : decode cX7_full 10 = .ok (.aload_n 3, 1) := by decide +kernel
theorem dX7_full_11 : decode cX7_full 11 = .ok (.ifnonnull 5, 3) := by decide +kernel
theorem dX7_full_14 : decode cX7_full 14 = .ok (.iconst (-1), 1) := by decide +kernel
theorem dX7_full_15 : decode cX7_full 15 = .ok (.ireturn, 1) := by decide +kernel
theorem dX7_full_16 : decode cX7_full 16 = .ok (.aload_n 0, 1) := by decide +kernel
theorem dX7_full_17 : decode cX7_full 17 = .ok (.getfield 41, 3) := by decide +kernel
theorem dX7_full_20 : decode cX7_full 20 = .ok (.aload_n 3, 1) := by decide +kernel
theorem dX7_full_21 : decode cX7_full 21 = .ok (.iload_n 2, 1) := by decide +kernel
theorem dX7_full_22 : decode cX7_full 22 = .ok (.invokevirtual 135, 3) := by decide +kernel
theorem dX7_full_25 : decode cX7_full 25 = .ok (.aload_n 0, 1) := by decide +kernel
theorem dX7_full_26 : decode cX7_full 26 = .ok (.getfield 41, 3) := by decide +kernel
theorem dX7_full_29 : decode cX7_full 29 = .ok (.invokevirtual 150, 3) := by decide +kernel
theorem dX7_full_32 : decode cX7_full 32 = .ok (.istore 4, 2) := by decide +kernel
theorem dX7_full_34 : decode cX7_full 34 = .ok (.iload 4, 2) := by decide +kernel
theorem dX7_full_36 : decode cX7_full 36 = .ok (.ldc 157, 2) := by decide +kernel
theorem dX7_full_38 : decode cX7_full 38 = .ok (.if_icmp .ne 7, 3) := by decide +kernel
theorem dX7_full_41 : decode cX7_full 41 = .ok (.iconst (-1), 1) := by decide +kernel
theorem dX7_full_42 : decode cX7_full 42 = .ok (.goto 5, 3) := by decide +kernel
theorem dX7_full_45 : decode cX7_full 45 = .ok (.iload 4, 2) := by decide +kernel
theorem dX7_full_47 : decode cX7_full 47 = .ok (.ireturn, 1) := by decide +kernel
theorem dX7_watched_0 : decode cX7_watched 0 = .ok (.aload_n 0, 1) := by decide +kernel
theorem dX7_watched_1 : decode cX7_watched 1 = .ok (.aload_n 0, 1) := by decide +kernel
theorem dX7_watched_2 : decode cX7_watched 2 = .ok (.invokevirtual 169, 3) := by decide +kernel
theorem dX7_watched_5 : decode cX7_watched 5 = .ok (.iload_n 1, 1) := by decide +kernel
theorem dX7_watched_6 : decode cX7_watched 6 = .ok (.invokevirtual 112, 3) := by decide +kernel
theorem dX7_watched_9 : decode cX7_watched 9 = .ok (.astore 4, 2) := by decide +kernel
theorem dX7_watched_11 : decode cX7_watched 11 = .ok (.aload 4, 2) := by decide +kernel
theorem dX7_watched_13 : decode cX7_watched 13 = .ok (.ifnull 14, 3) := by decide +kernel
theorem dX7_watched_16 : decode cX7_watched 16 = .ok (.iload_n 2, 1) := by decide +kernel
theorem dX7_watched_17 : decode cX7_watched 17 = .ok (.ifCond .lt 10, 3) := by decide +kernel
theorem dX7_watched_20 : decode cX7_watched 20 = .ok (.iload_n 2, 1) := by decide +kernel
theorem dX7_watched_21 : decode cX7_watched 21 = .ok (.sipush 1000, 3) := by decide +kernel
theorem dX7_watched_24 : decode cX7_watched 24 = .ok (.if_icmp .le 5, 3) := by decide +kernel
theorem dX7_watched_27 : decode cX7_watched 27 = .ok (.iconst (-1), 1) := by decide +kernel
theorem dX7_watched_28 : decode cX7_watched 28 = .ok (.ireturn, 1) := by decide +kernel
theorem dX7_watched_29 : decode cX7_watched 29 = .ok (.aload_n 0, 1) := by decide +kernel
theorem dX7_watched_30 : decode cX7_watched 30 = .ok (.getfield 41, 3) := by decide +kernel
theorem dX7_watched_33 : decode cX7_watched 33 = .ok (.aload 4, 2) := by decide +kernel
theorem dX7_watched_35 : decode cX7_watched 35 = .ok (.iload_n 3, 1) := by decide +kernel
theorem dX7_watched_36 : decode cX7_watched 36 = .ok (.invokevirtual 135, 3) := by decide +kernel
theorem dX7_watched_39 : decode cX7_watched 39 = .ok (.aload_n 0, 1) := by decide +kernel
theorem dX7_watched_40 : decode cX7_watched 40 = .ok (.getfield 41, 3) := by decide +kernel
theorem dX7_watched_43 : decode cX7_watched 43 = .ok (.aload 4, 2) := by decide +kernel
theorem dX7_watched_45 : decode cX7_watched 45 = .ok (.iload_n 2, 1) := by decide +kernel
theorem dX7_watched_46 : decode cX7_watched 46 = .ok (.invokevirtual 146, 3) := by decide +kernel
theorem dX7_watched_49 : decode cX7_watched 49 = .ok (.invokestatic 180, 3) := by decide +kernel
theorem dX7_watched_52 : decode cX7_watched 52 = .ok (.ireturn, 1) := by decide +kernel
theorem dX7_open_0 : decode cX7_open 0 = .ok (.aload_n 0, 1) := by decide +kernel
theorem dX7_open_1 : decode cX7_open 1 = .ok (.aload_n 0, 1) := by decide +kernel
theorem dX7_open_2 : decode cX7_open 2 = .ok (.invokevirtual 169, 3) := by decide +kernel
theorem dX7_open_5 : decode cX7_open 5 = .ok (.iload_n 1, 1) := by decide +kernel
theorem dX7_open_6 : decode cX7_open 6 = .ok (.invokevirtual 112, 3) := by decide +kernel
theorem dX7_open_9 : decode cX7_open 9 = .ok (.astore_n 3, 1) := by decide +kernel
theorem dX7_open_10 : decode cX7_open 10 = .ok (.aload_n 3, 1) := by decide +kernel
theorem dX7_open_11 : decode cX7_open 11 = .ok (.ifnull 10, 3) := by decide +kernel
theorem dX7_open_14 : decode cX7_open 14 = .ok (.iload_n 2, 1) := by decide +kernel
theorem dX7_open_15 : decode cX7_open 15 = .ok (.invokestatic 109, 3) := by decide +kernel
theorem dX7_open_18 : decode cX7_open 18 = .ok (.ifCond .ne 5, 3) := by decide +kernel
theorem dX7_open_21 : decode cX7_open 21 = .ok (.iconst (-1), 1) := by decide +kernel
theorem dX7_open_22 : decode cX7_open 22 = .ok (.ireturn, 1) := by decide +kernel
theorem dX7_open_23 : decode cX7_open 23 = .ok (.aload_n 3, 1) := by decide +kernel
theorem dX7_open_24 : decode cX7_open 24 = .ok (.iload_n 2, 1) := by decide +kernel
theorem dX7_open_25 : decode cX7_open 25 = .ok (.invokevirtual 206, 3) := by decide +kernel
theorem dX7_open_28 : decode cX7_open 28 = .ok (.ifCond .eq 7, 3) := by decide +kernel
theorem dX7_open_31 : decode cX7_open 31 = .ok (.iconst 1, 1) := by decide +kernel
theorem dX7_open_32 : decode cX7_open 32 = .ok (.goto 4, 3) := by decide +kernel
theorem dX7_open_35 : decode cX7_open 35 = .ok (.iconst 0, 1) := by decide +kernel
theorem dX7_open_36 : decode cX7_open 36 = .ok (.ireturn, 1) := by decide +kernel
theorem dX7_over_0 : decode cX7_over 0 = .ok (.aload_n 0, 1) := by decide +kernel
theorem dX7_over_1 : decode cX7_over 1 = .ok (.aload_n 0, 1) := by decide +kernel
theorem dX7_over_2 : decode cX7_over 2 = .ok (.invokevirtual 169, 3) := by decide +kernel
theorem dX7_over_5 : decode cX7_over 5 = .ok (.iload_n 1, 1) := by decide +kernel
theorem dX7_over_6 : decode cX7_over 6 = .ok (.invokevirtual 112, 3) := by decide +kernel
theorem dX7_over_9 : decode cX7_over 9 = .ok (.astore_n 2, 1) := by decide +kernel
theorem dX7_over_10 : decode cX7_over 10 = .ok (.aload_n 2, 1) := by decide +kernel
theorem dX7_over_11 : decode cX7_over 11 = .ok (.ifnonnull 5, 3) := by decide +kernel
theorem dX7_over_14 : decode cX7_over 14 = .ok (.iconst (-1), 1) := by decide +kernel
theorem dX7_over_15 : decode cX7_over 15 = .ok (.ireturn, 1) := by decide +kernel
theorem dX7_over_16 : decode cX7_over 16 = .ok (.aload_n 0, 1) := by decide +kernel
theorem dX7_over_17 : decode cX7_over 17 = .ok (.getfield 41, 3) := by decide +kernel
theorem dX7_over_20 : decode cX7_over 20 = .ok (.aload_n 2, 1) := by decide +kernel
theorem dX7_over_21 : decode cX7_over 21 = .ok (.iconst 0, 1) := by decide +kernel
theorem dX7_over_22 : decode cX7_over 22 = .ok (.invokevirtual 135, 3) := by decide +kernel
theorem dX7_over_25 : decode cX7_over 25 = .ok (.iconst 0, 1) := by decide +kernel
theorem dX7_over_26 : decode cX7_over 26 = .ok (.istore_n 3, 1) := by decide +kernel
theorem dX7_over_27 : decode cX7_over 27 = .ok (.aload_n 0, 1) := by decide +kernel
theorem dX7_over_28 : decode cX7_over 28 = .ok (.getfield 41, 3) := by decide +kernel
theorem dX7_over_31 : decode cX7_over 31 = .ok (.invokevirtual 150, 3) := by decide +kernel
theorem dX7_over_34 : decode cX7_over 34 = .ok (.istore 4, 2) := by decide +kernel
theorem dX7_over_36 : decode cX7_over 36 = .ok (.iload 4, 2) := by decide +kernel
theorem dX7_over_38 : decode cX7_over 38 = .ok (.aload_n 0, 1) := by decide +kernel
theorem dX7_over_39 : decode cX7_over 39 = .ok (.invokevirtual 209, 3) := by decide +kernel
theorem dX7_over_42 : decode cX7_over 42 = .ok (.if_icmp .gt 21, 3) := by decide +kernel
theorem dX7_over_45 : decode cX7_over 45 = .ok (.aload_n 2, 1) := by decide +kernel
theorem dX7_over_46 : decode cX7_over 46 = .ok (.iload 4, 2) := by decide +kernel
theorem dX7_over_48 : decode cX7_over 48 = .ok (.invokevirtual 212, 3) := by decide +kernel
theorem dX7_over_51 : decode cX7_over 51 = .ok (.ifCond .eq 6, 3) := by decide +kernel
theorem dX7_over_54 : decode cX7_over 54 = .ok (.iinc 3 1, 3) := by decide +kernel
theorem dX7_over_57 : decode cX7_over 57 = .ok (.iinc 4 1, 3) := by decide +kernel
theorem dX7_over_60 : decode cX7_over 60 = .ok (.goto (-24), 3) := by decide +kernel
theorem dX7_over_63 : decode cX7_over 63 = .ok (.iload_n 3, 1) := by decide +kernel
theorem dX7_over_64 : decode cX7_over 64 = .ok (.ireturn, 1) := by decide +kernel
theorem dX7_ring_0 : decode cX7_ring 0 = .ok (.aload_n 0, 1) := by decide +kernel
theorem dX7_ring_1 : decode cX7_ring 1 = .ok (.getfield 48, 3) := by decide +kernel
theorem dX7_ring_4 : decode cX7_ring 4 = .ok (.iload_n 1, 1) := by decide +kernel
theorem dX7_ring_5 : decode cX7_ring 5 = .ok (.invokevirtual 215, 3) := by decide +kernel
theorem dX7_ring_8 : decode cX7_ring 8 = .ok (.ireturn, 1) := by decide +kernel
theorem dX7_check_0 : decode cX7_check 0 = .ok (.iload_n 3, 1) := by decide +kernel
theorem dX7_check_1 : decode cX7_check 1 = .ok (.invokestatic 52, 3) := by decide +kernel
theorem dX7_check_4 : decode cX7_check 4 = .ok (.ifCond .eq 13, 3) := by decide +kernel
theorem dX7_check_7 : decode cX7_check 7 = .ok (.aload_n 0, 1) := by decide +kernel
theorem dX7_check_8 : decode cX7_check 8 = .ok (.iload_n 1, 1) := by decide +kernel
theorem dX7_check_9 : decode cX7_check 9 = .ok (.iload_n 2, 1) := by decide +kernel
theorem dX7_check_10 : decode cX7_check 10 = .ok (.iconst 0, 1) := by decide +kernel
theorem dX7_check_11 : decode cX7_check 11 = .ok (.invokevirtual 173, 3) := by decide +kernel
theorem dX7_check_14 : decode cX7_check 14 = .ok (.ifCond .ne 6, 3) := by decide +kernel
theorem dX7_check_17 : decode cX7_check 17 = .ok (.bipush (-2), 2) := by decide +kernel
theorem dX7_check_19 : decode cX7_check 19 = .ok (.ireturn, 1) := by decide +kernel
theorem dX7_check_20 : decode cX7_check 20 = .ok (.iconst 0, 1) := by decide +kernel
theorem dX7_check_21 : decode cX7_check 21 = .ok (.istore 5, 2) := by decide +kernel
theorem dX7_check_23 : decode cX7_check 23 = .ok (.iload 5, 2) := by decide +kernel
theorem dX7_check_25 : decode cX7_check 25 = .ok (.bipush 32, 2) := by decide +kernel
theorem dX7_check_27 : decode cX7_check 27 = .ok (.if_icmp .ge 48, 3) := by decide +kernel
theorem dX7_check_30 : decode cX7_check 30 = .ok (.iload 4, 2) := by decide +kernel
theorem dX7_check_32 : decode cX7_check 32 = .ok (.iload 5, 2) := by decide +kernel
theorem dX7_check_34 : decode cX7_check 34 = .ok (.iushr, 1) := by decide +kernel
theorem dX7_check_35 : decode cX7_check 35 = .ok (.iconst 1, 1) := by decide +kernel
theorem dX7_check_36 : decode cX7_check 36 = .ok (.iand, 1) := by decide +kernel
theorem dX7_check_37 : decode cX7_check 37 = .ok (.ifCond .eq 7, 3) := by decide +kernel
theorem dX7_check_40 : decode cX7_check 40 = .ok (.iconst 1, 1) := by decide +kernel
theorem dX7_check_41 : decode cX7_check 41 = .ok (.goto 4, 3) := by decide +kernel
theorem dX7_check_44 : decode cX7_check 44 = .ok (.iconst 0, 1) := by decide +kernel
theorem dX7_check_45 : decode cX7_check 45 = .ok (.istore 6, 2) := by decide +kernel
theorem dX7_check_47 : decode cX7_check 47 = .ok (.iload 6, 2) := by decide +kernel
theorem dX7_check_49 : decode cX7_check 49 = .ok (.aload_n 0, 1) := by decide +kernel
theorem dX7_check_50 : decode cX7_check 50 = .ok (.getfield 41, 3) := by decide +kernel
theorem dX7_check_53 : decode cX7_check 53 = .ok (.iload_n 2, 1) := by decide +kernel
theorem dX7_check_54 : decode cX7_check 54 = .ok (.iload_n 3, 1) := by decide +kernel
theorem dX7_check_55 : decode cX7_check 55 = .ok (.iload 5, 2) := by decide +kernel
theorem dX7_check_57 : decode cX7_check 57 = .ok (.iadd, 1) := by decide +kernel
theorem dX7_check_58 : decode cX7_check 58 = .ok (.invokevirtual 218, 3) := by decide +kernel
theorem dX7_check_61 : decode cX7_check 61 = .ok (.if_icmp .eq 8, 3) := by decide +kernel
theorem dX7_check_64 : decode cX7_check 64 = .ok (.iload_n 3, 1) := by decide +kernel
theorem dX7_check_65 : decode cX7_check 65 = .ok (.iload 5, 2) := by decide +kernel
theorem dX7_check_67 : decode cX7_check 67 = .ok (.iadd, 1) := by decide +kernel
theorem dX7_check_68 : decode cX7_check 68 = .ok (.ireturn, 1) := by decide +kernel
theorem dX7_check_69 : decode cX7_check 69 = .ok (.iinc 5 1, 3) := by decide +kernel
theorem dX7_check_72 : decode cX7_check 72 = .ok (.goto (-49), 3) := by decide +kernel
theorem dX7_check_75 : decode cX7_check 75 = .ok (.iconst (-1), 1) := by decide +kernel
theorem dX7_check_76 : decode cX7_check 76 = .ok (.ireturn, 1) := by decide +kernel
theorem dX7_image_0 : decode cX7_image 0 = .ok (.iload_n 1, 1) := by decide +kernel
theorem dX7_image_1 : decode cX7_image 1 = .ok (.ifCond .lt 20, 3) := by decide +kernel
theorem dX7_image_4 : decode cX7_image 4 = .ok (.iload_n 1, 1) := by decide +kernel
theorem dX7_image_5 : decode cX7_image 5 = .ok (.aload_n 0, 1) := by decide +kernel
theorem dX7_image_6 : decode cX7_image 6 = .ok (.getfield 15, 3) := by decide +kernel
theorem dX7_image_9 : decode cX7_image 9 = .ok (.if_icmp .ge 12, 3) := by decide +kernel
theorem dX7_image_12 : decode cX7_image 12 = .ok (.aload_n 0, 1) := by decide +kernel
theorem dX7_image_13 : decode cX7_image 13 = .ok (.getfield 11, 3) := by decide +kernel
theorem dX7_image_16 : decode cX7_image 16 = .ok (.iload_n 1, 1) := by decide +kernel
theorem dX7_image_17 : decode cX7_image 17 = .ok (.aaload, 1) := by decide +kernel
theorem dX7_image_18 : decode cX7_image 18 = .ok (.goto 4, 3) := by decide +kernel
theorem dX7_image_21 : decode cX7_image 21 = .ok (.aconst_null, 1) := by decide +kernel
theorem dX7_image_22 : decode cX7_image 22 = .ok (.astore_n 3, 1) := by decide +kernel
theorem dX7_image_23 : decode cX7_image 23 = .ok (.aload_n 3, 1) := by decide +kernel
theorem dX7_image_24 : decode cX7_image 24 = .ok (.ifnonnull 7, 3) := by decide +kernel
theorem dX7_image_27 : decode cX7_image 27 = .ok (.iconst (-1), 1) := by decide +kernel
theorem dX7_image_28 : decode cX7_image 28 = .ok (.goto 8, 3) := by decide +kernel
theorem dX7_image_31 : decode cX7_image 31 = .ok (.aload_n 3, 1) := by decide +kernel
theorem dX7_image_32 : decode cX7_image 32 = .ok (.iload_n 2, 1) := by decide +kernel
theorem dX7_image_33 : decode cX7_image 33 = .ok (.invokevirtual 221, 3) := by decide +kernel
theorem dX7_image_36 : decode cX7_image 36 = .ok (.ireturn, 1) := by decide +kernel
theorem dX7_take_0 : decode cX7_take 0 = .ok (.iload_n 2, 1) := by decide +kernel
theorem dX7_take_1 : decode cX7_take 1 = .ok (.ifCond .lt 17, 3) := by decide +kernel
theorem dX7_take_4 : decode cX7_take 4 = .ok (.iload_n 2, 1) := by decide +kernel
theorem dX7_take_5 : decode cX7_take 5 = .ok (.bipush 12, 2) := by decide +kernel
theorem dX7_take_7 : decode cX7_take 7 = .ok (.if_icmp .gt 11, 3) := by decide +kernel
theorem dX7_take_10 : decode cX7_take 10 = .ok (.aload_n 0, 1) := by decide +kernel
theorem dX7_take_11 : decode cX7_take 11 = .ok (.iload_n 1, 1) := by decide +kernel
theorem dX7_take_12 : decode cX7_take 12 = .ok (.invokevirtual 224, 3) := by decide +kernel
theorem dX7_take_15 : decode cX7_take 15 = .ok (.ifCond .ne 5, 3) := by decide +kernel
theorem dX7_take_18 : decode cX7_take 18 = .ok (.iconst (-1), 1) := by decide +kernel
theorem dX7_take_19 : decode cX7_take 19 = .ok (.ireturn, 1) := by decide +kernel
theorem dX7_take_20 : decode cX7_take 20 = .ok (.iload_n 2, 1) := by decide +kernel
theorem dX7_take_21 : decode cX7_take 21 = .ok (.tableswitch 207 0 11 #[63, 71, 83, 99, 115, 125, 145, 157, 165, 177, 189, 199], 63) := by decide +kernel
theorem dX7_take_84 : decode cX7_take 84 = .ok (.aload_n 0, 1) := by decide +kernel
theorem dX7_take_85 : decode cX7_take 85 = .ok (.iload_n 3, 1) := by decide +kernel
theorem dX7_take_86 : decode cX7_take 86 = .ok (.iload 4, 2) := by decide +kernel
theorem dX7_take_88 : decode cX7_take 88 = .ok (.invokevirtual 226, 3) := by decide +kernel
theorem dX7_take_91 : decode cX7_take 91 = .ok (.ireturn, 1) := by decide +kernel
theorem dX7_take_92 : decode cX7_take 92 = .ok (.aload_n 0, 1) := by decide +kernel
theorem dX7_take_93 : decode cX7_take 93 = .ok (.iload_n 3, 1) := by decide +kernel
theorem dX7_take_94 : decode cX7_take 94 = .ok (.iload 4, 2) := by decide +kernel
theorem dX7_take_96 : decode cX7_take 96 = .ok (.iload 5, 2) := by decide +kernel
theorem dX7_take_98 : decode cX7_take 98 = .ok (.iload 6, 2) := by decide +kernel
theorem dX7_take_100 : decode cX7_take 100 = .ok (.invokevirtual 229, 3) := by decide +kernel
theorem dX7_take_103 : decode cX7_take 103 = .ok (.ireturn, 1) := by decide +kernel
theorem dX7_take_104 : decode cX7_take 104 = .ok (.aload_n 0, 1) := by decide +kernel
theorem dX7_take_105 : decode cX7_take 105 = .ok (.iload_n 3, 1) := by decide +kernel
theorem dX7_take_106 : decode cX7_take 106 = .ok (.iload 4, 2) := by decide +kernel
theorem dX7_take_108 : decode cX7_take 108 = .ok (.iload 5, 2) := by decide +kernel
theorem dX7_take_110 : decode cX7_take 110 = .ok (.iload 6, 2) := by decide +kernel
theorem dX7_take_112 : decode cX7_take 112 = .ok (.iload 7, 2) := by decide +kernel
theorem dX7_take_114 : decode cX7_take 114 = .ok (.iload 8, 2) := by decide +kernel
theorem dX7_take_116 : decode cX7_take 116 = .ok (.invokevirtual 233, 3) := by decide +kernel
theorem dX7_take_119 : decode cX7_take 119 = .ok (.ireturn, 1) := by decide +kernel
theorem dX7_take_120 : decode cX7_take 120 = .ok (.aload_n 0, 1) := by decide +kernel
theorem dX7_take_121 : decode cX7_take 121 = .ok (.iload_n 3, 1) := by decide +kernel
theorem dX7_take_122 : decode cX7_take 122 = .ok (.iload 4, 2) := by decide +kernel
theorem dX7_take_124 : decode cX7_take 124 = .ok (.iload 5, 2) := by decide +kernel
theorem dX7_take_126 : decode cX7_take 126 = .ok (.iload 6, 2) := by decide +kernel
theorem dX7_take_128 : decode cX7_take 128 = .ok (.iload 7, 2) := by decide +kernel
theorem dX7_take_130 : decode cX7_take 130 = .ok (.iload 8, 2) := by decide +kernel
theorem dX7_take_132 : decode cX7_take 132 = .ok (.invokevirtual 237, 3) := by decide +kernel
theorem dX7_take_135 : decode cX7_take 135 = .ok (.ireturn, 1) := by decide +kernel
theorem dX7_take_136 : decode cX7_take 136 = .ok (.aload_n 0, 1) := by decide +kernel
theorem dX7_take_137 : decode cX7_take 137 = .ok (.iload_n 3, 1) := by decide +kernel
theorem dX7_take_138 : decode cX7_take 138 = .ok (.iload 4, 2) := by decide +kernel
theorem dX7_take_140 : decode cX7_take 140 = .ok (.iload 5, 2) := by decide +kernel
theorem dX7_take_142 : decode cX7_take 142 = .ok (.invokevirtual 240, 3) := by decide +kernel
theorem dX7_take_145 : decode cX7_take 145 = .ok (.ireturn, 1) := by decide +kernel
theorem dX7_take_146 : decode cX7_take 146 = .ok (.aload_n 0, 1) := by decide +kernel
theorem dX7_take_147 : decode cX7_take 147 = .ok (.iload_n 3, 1) := by decide +kernel
theorem dX7_take_148 : decode cX7_take 148 = .ok (.iload 4, 2) := by decide +kernel
theorem dX7_take_150 : decode cX7_take 150 = .ok (.iload 5, 2) := by decide +kernel
theorem dX7_take_152 : decode cX7_take 152 = .ok (.ifCond .eq 7, 3) := by decide +kernel
theorem dX7_take_155 : decode cX7_take 155 = .ok (.iconst 1, 1) := by decide +kernel
theorem dX7_take_156 : decode cX7_take 156 = .ok (.goto 4, 3) := by decide +kernel
theorem dX7_take_159 : decode cX7_take 159 = .ok (.iconst 0, 1) := by decide +kernel
theorem dX7_take_160 : decode cX7_take 160 = .ok (.iload 6, 2) := by decide +kernel
theorem dX7_take_162 : decode cX7_take 162 = .ok (.invokevirtual 243, 3) := by decide +kernel
theorem dX7_take_165 : decode cX7_take 165 = .ok (.ireturn, 1) := by decide +kernel
theorem dX7_take_166 : decode cX7_take 166 = .ok (.aload_n 0, 1) := by decide +kernel
theorem dX7_take_167 : decode cX7_take 167 = .ok (.iload_n 3, 1) := by decide +kernel
theorem dX7_take_168 : decode cX7_take 168 = .ok (.iload 4, 2) := by decide +kernel
theorem dX7_take_170 : decode cX7_take 170 = .ok (.iload 5, 2) := by decide +kernel
theorem dX7_take_172 : decode cX7_take 172 = .ok (.iload 6, 2) := by decide +kernel
theorem dX7_take_174 : decode cX7_take 174 = .ok (.invokevirtual 247, 3) := by decide +kernel
theorem dX7_take_177 : decode cX7_take 177 = .ok (.ireturn, 1) := by decide +kernel
theorem dX7_take_178 : decode cX7_take 178 = .ok (.aload_n 0, 1) := by decide +kernel
theorem dX7_take_179 : decode cX7_take 179 = .ok (.iload_n 3, 1) := by decide +kernel
theorem dX7_take_180 : decode cX7_take 180 = .ok (.iload 4, 2) := by decide +kernel
theorem dX7_take_182 : decode cX7_take 182 = .ok (.invokevirtual 250, 3) := by decide +kernel
theorem dX7_take_185 : decode cX7_take 185 = .ok (.ireturn, 1) := by decide +kernel
theorem dX7_take_186 : decode cX7_take 186 = .ok (.aload_n 0, 1) := by decide +kernel
theorem dX7_take_187 : decode cX7_take 187 = .ok (.iload_n 3, 1) := by decide +kernel
theorem dX7_take_188 : decode cX7_take 188 = .ok (.iload 4, 2) := by decide +kernel
theorem dX7_take_190 : decode cX7_take 190 = .ok (.iload 5, 2) := by decide +kernel
theorem dX7_take_192 : decode cX7_take 192 = .ok (.iload 6, 2) := by decide +kernel
theorem dX7_take_194 : decode cX7_take 194 = .ok (.invokevirtual 253, 3) := by decide +kernel
theorem dX7_take_197 : decode cX7_take 197 = .ok (.ireturn, 1) := by decide +kernel
theorem dX7_take_198 : decode cX7_take 198 = .ok (.aload_n 0, 1) := by decide +kernel
theorem dX7_take_199 : decode cX7_take 199 = .ok (.iload_n 3, 1) := by decide +kernel
theorem dX7_take_200 : decode cX7_take 200 = .ok (.iload 4, 2) := by decide +kernel
theorem dX7_take_202 : decode cX7_take 202 = .ok (.iload 5, 2) := by decide +kernel
theorem dX7_take_204 : decode cX7_take 204 = .ok (.iload 6, 2) := by decide +kernel
theorem dX7_take_206 : decode cX7_take 206 = .ok (.invokevirtual 256, 3) := by decide +kernel
theorem dX7_take_209 : decode cX7_take 209 = .ok (.ireturn, 1) := by decide +kernel
theorem dX7_take_210 : decode cX7_take 210 = .ok (.aload_n 0, 1) := by decide +kernel
theorem dX7_take_211 : decode cX7_take 211 = .ok (.iload_n 3, 1) := by decide +kernel
theorem dX7_take_212 : decode cX7_take 212 = .ok (.iload 4, 2) := by decide +kernel
theorem dX7_take_214 : decode cX7_take 214 = .ok (.iload 5, 2) := by decide +kernel
theorem dX7_take_216 : decode cX7_take 216 = .ok (.invokevirtual 259, 3) := by decide +kernel
theorem dX7_take_219 : decode cX7_take 219 = .ok (.ireturn, 1) := by decide +kernel
theorem dX7_take_220 : decode cX7_take 220 = .ok (.aload_n 0, 1) := by decide +kernel
theorem dX7_take_221 : decode cX7_take 221 = .ok (.iload_n 3, 1) := by decide +kernel
theorem dX7_take_222 : decode cX7_take 222 = .ok (.iload 4, 2) := by decide +kernel
theorem dX7_take_224 : decode cX7_take 224 = .ok (.invokevirtual 262, 3) := by decide +kernel
theorem dX7_take_227 : decode cX7_take 227 = .ok (.ireturn, 1) := by decide +kernel
theorem dX7_take_228 : decode cX7_take 228 = .ok (.aload_n 0, 1) := by decide +kernel
theorem dX7_take_229 : decode cX7_take 229 = .ok (.iload_n 3, 1) := by decide +kernel
theorem dX7_take_230 : decode cX7_take 230 = .ok (.iload 4, 2) := by decide +kernel
theorem dX7_take_232 : decode cX7_take 232 = .ok (.iload 5, 2) := by decide +kernel
theorem dX7_take_234 : decode cX7_take 234 = .ok (.iload 6, 2) := by decide +kernel
theorem dX7_take_236 : decode cX7_take 236 = .ok (.invokevirtual 265, 3) := by decide +kernel
theorem dX7_take_239 : decode cX7_take 239 = .ok (.ireturn, 1) := by decide +kernel
theorem dX7_count_0 : decode cX7_count 0 = .ok (.iload_n 1, 1) := by decide +kernel
theorem dX7_count_1 : decode cX7_count 1 = .ok (.tableswitch 51 0 3 #[31, 36, 41, 46], 31) := by decide +kernel
theorem dX7_count_32 : decode cX7_count 32 = .ok (.aload_n 0, 1) := by decide +kernel
theorem dX7_count_33 : decode cX7_count 33 = .ok (.getfield 22, 3) := by decide +kernel
theorem dX7_count_36 : decode cX7_count 36 = .ok (.ireturn, 1) := by decide +kernel
theorem dX7_count_37 : decode cX7_count 37 = .ok (.aload_n 0, 1) := by decide +kernel
theorem dX7_count_38 : decode cX7_count 38 = .ok (.getfield 19, 3) := by decide +kernel
theorem dX7_count_41 : decode cX7_count 41 = .ok (.ireturn, 1) := by decide +kernel
theorem dX7_count_42 : decode cX7_count 42 = .ok (.aload_n 0, 1) := by decide +kernel
theorem dX7_count_43 : decode cX7_count 43 = .ok (.getfield 15, 3) := by decide +kernel
theorem dX7_count_46 : decode cX7_count 46 = .ok (.ireturn, 1) := by decide +kernel
theorem dX7_count_47 : decode cX7_count 47 = .ok (.aload_n 0, 1) := by decide +kernel
theorem dX7_count_48 : decode cX7_count 48 = .ok (.invokevirtual 209, 3) := by decide +kernel
theorem dX7_count_51 : decode cX7_count 51 = .ok (.ireturn, 1) := by decide +kernel
theorem dX7_count_52 : decode cX7_count 52 = .ok (.iconst (-1), 1) := by decide +kernel
theorem dX7_count_53 : decode cX7_count 53 = .ok (.ireturn, 1) := by decide +kernel
theorem dX7_isDay_0 : decode cX7_isDay 0 = .ok (.iload_n 0, 1) := by decide +kernel
theorem dX7_isDay_1 : decode cX7_isDay 1 = .ok (.ifCond .lt 14, 3) := by decide +kernel
theorem dX7_isDay_4 : decode cX7_isDay 4 = .ok (.iload_n 0, 1) := by decide +kernel
theorem dX7_isDay_5 : decode cX7_isDay 5 = .ok (.sipush 3600, 3) := by decide +kernel
theorem dX7_isDay_8 : decode cX7_isDay 8 = .ok (.if_icmp .ge 7, 3) := by decide +kernel
theorem dX7_isDay_11 : decode cX7_isDay 11 = .ok (.iconst 1, 1) := by decide +kernel
theorem dX7_isDay_12 : decode cX7_isDay 12 = .ok (.goto 4, 3) := by decide +kernel
theorem dX7_isDay_15 : decode cX7_isDay 15 = .ok (.iconst 0, 1) := by decide +kernel
theorem dX7_isDay_16 : decode cX7_isDay 16 = .ok (.ireturn, 1) := by decide +kernel
theorem dX7_isMonth_0 : decode cX7_isMonth 0 = .ok (.iload_n 0, 1) := by decide +kernel
theorem dX7_isMonth_1 : decode cX7_isMonth 1 = .ok (.ifCond .lt 13, 3) := by decide +kernel
theorem dX7_isMonth_4 : decode cX7_isMonth 4 = .ok (.iload_n 0, 1) := by decide +kernel
theorem dX7_isMonth_5 : decode cX7_isMonth 5 = .ok (.bipush 120, 2) := by decide +kernel
theorem dX7_isMonth_7 : decode cX7_isMonth 7 = .ok (.if_icmp .ge 7, 3) := by decide +kernel
theorem dX7_isMonth_10 : decode cX7_isMonth 10 = .ok (.iconst 1, 1) := by decide +kernel
theorem dX7_isMonth_11 : decode cX7_isMonth 11 = .ok (.goto 4, 3) := by decide +kernel
theorem dX7_isMonth_14 : decode cX7_isMonth 14 = .ok (.iconst 0, 1) := by decide +kernel
theorem dX7_isMonth_15 : decode cX7_isMonth 15 = .ok (.ireturn, 1) := by decide +kernel
theorem dX7_isPlace_0 : decode cX7_isPlace 0 = .ok (.iload_n 0, 1) := by decide +kernel
theorem dX7_isPlace_1 : decode cX7_isPlace 1 = .ok (.ifCond .lt 13, 3) := by decide +kernel
theorem dX7_isPlace_4 : decode cX7_isPlace 4 = .ok (.iload_n 0, 1) := by decide +kernel
theorem dX7_isPlace_5 : decode cX7_isPlace 5 = .ok (.bipush 12, 2) := by decide +kernel
theorem dX7_isPlace_7 : decode cX7_isPlace 7 = .ok (.if_icmp .ge 7, 3) := by decide +kernel
theorem dX7_isPlace_10 : decode cX7_isPlace 10 = .ok (.iconst 1, 1) := by decide +kernel
theorem dX7_isPlace_11 : decode cX7_isPlace 11 = .ok (.goto 4, 3) := by decide +kernel
theorem dX7_isPlace_14 : decode cX7_isPlace 14 = .ok (.iconst 0, 1) := by decide +kernel
theorem dX7_isPlace_15 : decode cX7_isPlace 15 = .ok (.ireturn, 1) := by decide +kernel
theorem dX7_isNeed_0 : decode cX7_isNeed 0 = .ok (.iload_n 0, 1) := by decide +kernel
theorem dX7_isNeed_1 : decode cX7_isNeed 1 = .ok (.iconst 1, 1) := by decide +kernel
theorem dX7_isNeed_2 : decode cX7_isNeed 2 = .ok (.if_icmp .lt 14, 3) := by decide +kernel
theorem dX7_isNeed_5 : decode cX7_isNeed 5 = .ok (.iload_n 0, 1) := by decide +kernel
theorem dX7_isNeed_6 : decode cX7_isNeed 6 = .ok (.sipush 3600, 3) := by decide +kernel
theorem dX7_isNeed_9 : decode cX7_isNeed 9 = .ok (.if_icmp .gt 7, 3) := by decide +kernel
theorem dX7_isNeed_12 : decode cX7_isNeed 12 = .ok (.iconst 1, 1) := by decide +kernel
theorem dX7_isNeed_13 : decode cX7_isNeed 13 = .ok (.goto 4, 3) := by decide +kernel
theorem dX7_isNeed_16 : decode cX7_isNeed 16 = .ok (.iconst 0, 1) := by decide +kernel
theorem dX7_isNeed_17 : decode cX7_isNeed 17 = .ok (.ireturn, 1) := by decide +kernel
theorem dX7_isSet_0 : decode cX7_isSet 0 = .ok (.iload_n 0, 1) := by decide +kernel
theorem dX7_isSet_1 : decode cX7_isSet 1 = .ok (.ifCond .lt 14, 3) := by decide +kernel
theorem dX7_isSet_4 : decode cX7_isSet 4 = .ok (.iload_n 0, 1) := by decide +kernel
theorem dX7_isSet_5 : decode cX7_isSet 5 = .ok (.sipush 4096, 3) := by decide +kernel
theorem dX7_isSet_8 : decode cX7_isSet 8 = .ok (.if_icmp .ge 7, 3) := by decide +kernel
theorem dX7_isSet_11 : decode cX7_isSet 11 = .ok (.iconst 1, 1) := by decide +kernel
theorem dX7_isSet_12 : decode cX7_isSet 12 = .ok (.goto 4, 3) := by decide +kernel
theorem dX7_isSet_15 : decode cX7_isSet 15 = .ok (.iconst 0, 1) := by decide +kernel
theorem dX7_isSet_16 : decode cX7_isSet 16 = .ok (.ireturn, 1) := by decide +kernel
theorem dX7_names_0 : decode cX7_names 0 = .ok (.iload_n 0, 1) := by decide +kernel
theorem dX7_names_1 : decode cX7_names 1 = .ok (.iload_n 1, 1) := by decide +kernel
theorem dX7_names_2 : decode cX7_names 2 = .ok (.ishr, 1) := by decide +kernel
theorem dX7_names_3 : decode cX7_names 3 = .ok (.iconst 1, 1) := by decide +kernel
theorem dX7_names_4 : decode cX7_names 4 = .ok (.iand, 1) := by decide +kernel
theorem dX7_names_5 : decode cX7_names 5 = .ok (.ifCond .eq 7, 3) := by decide +kernel
theorem dX7_names_8 : decode cX7_names 8 = .ok (.iconst 1, 1) := by decide +kernel
theorem dX7_names_9 : decode cX7_names 9 = .ok (.goto 4, 3) := by decide +kernel
theorem dX7_names_12 : decode cX7_names 12 = .ok (.iconst 0, 1) := by decide +kernel
theorem dX7_names_13 : decode cX7_names 13 = .ok (.ireturn, 1) := by decide +kernel
theorem dX7_part_0 : decode cX7_part 0 = .ok (.iload_n 0, 1) := by decide +kernel
theorem dX7_part_1 : decode cX7_part 1 = .ok (.iload_n 1, 1) := by decide +kernel
theorem dX7_part_2 : decode cX7_part 2 = .ok (.imul, 1) := by decide +kernel
theorem dX7_part_3 : decode cX7_part 3 = .ok (.sipush 999, 3) := by decide +kernel
theorem dX7_part_6 : decode cX7_part 6 = .ok (.iadd, 1) := by decide +kernel
theorem dX7_part_7 : decode cX7_part 7 = .ok (.sipush 1000, 3) := by decide +kernel
theorem dX7_part_10 : decode cX7_part 10 = .ok (.idiv, 1) := by decide +kernel
theorem dX7_part_11 : decode cX7_part 11 = .ok (.ireturn, 1) := by decide +kernel
theorem dX7_dayOrNone_0 : decode cX7_dayOrNone 0 = .ok (.iload_n 0, 1) := by decide +kernel
theorem dX7_dayOrNone_1 : decode cX7_dayOrNone 1 = .ok (.invokestatic 52, 3) := by decide +kernel
theorem dX7_dayOrNone_4 : decode cX7_dayOrNone 4 = .ok (.ifCond .eq 7, 3) := by decide +kernel
theorem dX7_dayOrNone_7 : decode cX7_dayOrNone 7 = .ok (.iload_n 0, 1) := by decide +kernel
theorem dX7_dayOrNone_8 : decode cX7_dayOrNone 8 = .ok (.goto 4, 3) := by decide +kernel
theorem dX7_dayOrNone_11 : decode cX7_dayOrNone 11 = .ok (.iconst (-1), 1) := by decide +kernel
theorem dX7_dayOrNone_12 : decode cX7_dayOrNone 12 = .ok (.ireturn, 1) := by decide +kernel
theorem dX7_bitsFrom_0 : decode cX7_bitsFrom 0 = .ok (.iload_n 0, 1) := by decide +kernel
theorem dX7_bitsFrom_1 : decode cX7_bitsFrom 1 = .ok (.ifCond .gt 7, 3) := by decide +kernel
theorem dX7_bitsFrom_4 : decode cX7_bitsFrom 4 = .ok (.ldc_w 268, 3) := by decide +kernel
theorem dX7_bitsFrom_7 : decode cX7_bitsFrom 7 = .ok (.ireturn, 1) := by decide +kernel
theorem dX7_bitsFrom_8 : decode cX7_bitsFrom 8 = .ok (.iload_n 0, 1) := by decide +kernel
theorem dX7_bitsFrom_9 : decode cX7_bitsFrom 9 = .ok (.bipush 30, 2) := by decide +kernel
theorem dX7_bitsFrom_11 : decode cX7_bitsFrom 11 = .ok (.if_icmp .ge 15, 3) := by decide +kernel
theorem dX7_bitsFrom_14 : decode cX7_bitsFrom 14 = .ok (.ldc_w 268, 3) := by decide +kernel
theorem dX7_bitsFrom_17 : decode cX7_bitsFrom 17 = .ok (.ldc_w 268, 3) := by decide +kernel
theorem dX7_bitsFrom_20 : decode cX7_bitsFrom 20 = .ok (.iload_n 0, 1) := by decide +kernel
theorem dX7_bitsFrom_21 : decode cX7_bitsFrom 21 = .ok (.ishl, 1) := by decide +kernel
theorem dX7_bitsFrom_22 : decode cX7_bitsFrom 22 = .ok (.iand, 1) := by decide +kernel
theorem dX7_bitsFrom_23 : decode cX7_bitsFrom 23 = .ok (.goto 4, 3) := by decide +kernel
theorem dX7_bitsFrom_26 : decode cX7_bitsFrom 26 = .ok (.iconst 0, 1) := by decide +kernel
theorem dX7_bitsFrom_27 : decode cX7_bitsFrom 27 = .ok (.ireturn, 1) := by decide +kernel
theorem dX7_bitsUpTo_0 : decode cX7_bitsUpTo 0 = .ok (.iload_n 0, 1) := by decide +kernel
theorem dX7_bitsUpTo_1 : decode cX7_bitsUpTo 1 = .ok (.ifCond .ge 5, 3) := by decide +kernel
theorem dX7_bitsUpTo_4 : decode cX7_bitsUpTo 4 = .ok (.iconst 0, 1) := by decide +kernel
theorem dX7_bitsUpTo_5 : decode cX7_bitsUpTo 5 = .ok (.ireturn, 1) := by decide +kernel
theorem dX7_bitsUpTo_6 : decode cX7_bitsUpTo 6 = .ok (.iload_n 0, 1) := by decide +kernel
theorem dX7_bitsUpTo_7 : decode cX7_bitsUpTo 7 = .ok (.bipush 29, 2) := by decide +kernel
theorem dX7_bitsUpTo_9 : decode cX7_bitsUpTo 9 = .ok (.if_icmp .ge 13, 3) := by decide +kernel
theorem dX7_bitsUpTo_12 : decode cX7_bitsUpTo 12 = .ok (.iconst 1, 1) := by decide +kernel
theorem dX7_bitsUpTo_13 : decode cX7_bitsUpTo 13 = .ok (.iload_n 0, 1) := by decide +kernel
theorem dX7_bitsUpTo_14 : decode cX7_bitsUpTo 14 = .ok (.iconst 1, 1) := by decide +kernel
theorem dX7_bitsUpTo_15 : decode cX7_bitsUpTo 15 = .ok (.iadd, 1) := by decide +kernel
theorem dX7_bitsUpTo_16 : decode cX7_bitsUpTo 16 = .ok (.ishl, 1) := by decide +kernel
theorem dX7_bitsUpTo_17 : decode cX7_bitsUpTo 17 = .ok (.iconst 1, 1) := by decide +kernel
theorem dX7_bitsUpTo_18 : decode cX7_bitsUpTo 18 = .ok (.isub, 1) := by decide +kernel
theorem dX7_bitsUpTo_19 : decode cX7_bitsUpTo 19 = .ok (.goto 6, 3) := by decide +kernel
theorem dX7_bitsUpTo_22 : decode cX7_bitsUpTo 22 = .ok (.ldc_w 268, 3) := by decide +kernel
theorem dX7_bitsUpTo_25 : decode cX7_bitsUpTo 25 = .ok (.ireturn, 1) := by decide +kernel
theorem dX7_isPerson_0 : decode cX7_isPerson 0 = .ok (.iload_n 1, 1) := by decide +kernel
theorem dX7_isPerson_1 : decode cX7_isPerson 1 = .ok (.ifCond .lt 15, 3) := by decide +kernel
theorem dX7_isPerson_4 : decode cX7_isPerson 4 = .ok (.iload_n 1, 1) := by decide +kernel
theorem dX7_isPerson_5 : decode cX7_isPerson 5 = .ok (.aload_n 0, 1) := by decide +kernel
theorem dX7_isPerson_6 : decode cX7_isPerson 6 = .ok (.getfield 19, 3) := by decide +kernel
theorem dX7_isPerson_9 : decode cX7_isPerson 9 = .ok (.if_icmp .ge 7, 3) := by decide +kernel
theorem dX7_isPerson_12 : decode cX7_isPerson 12 = .ok (.iconst 1, 1) := by decide +kernel
theorem dX7_isPerson_13 : decode cX7_isPerson 13 = .ok (.goto 4, 3) := by decide +kernel
theorem dX7_isPerson_16 : decode cX7_isPerson 16 = .ok (.iconst 0, 1) := by decide +kernel
theorem dX7_isPerson_17 : decode cX7_isPerson 17 = .ok (.ireturn, 1) := by decide +kernel
theorem dX7_fileOf_0 : decode cX7_fileOf 0 = .ok (.aload_n 0, 1) := by decide +kernel
theorem dX7_fileOf_1 : decode cX7_fileOf 1 = .ok (.iload_n 2, 1) := by decide +kernel
theorem dX7_fileOf_2 : decode cX7_fileOf 2 = .ok (.invokevirtual 106, 3) := by decide +kernel
theorem dX7_fileOf_5 : decode cX7_fileOf 5 = .ok (.ifCond .eq 11, 3) := by decide +kernel
theorem dX7_fileOf_8 : decode cX7_fileOf 8 = .ok (.aload_n 1, 1) := by decide +kernel
theorem dX7_fileOf_9 : decode cX7_fileOf 9 = .ok (.iload_n 2, 1) := by decide +kernel
theorem dX7_fileOf_10 : decode cX7_fileOf 10 = .ok (.invokevirtual 79, 3) := by decide +kernel
theorem dX7_fileOf_13 : decode cX7_fileOf 13 = .ok (.goto 4, 3) := by decide +kernel
theorem dX7_fileOf_16 : decode cX7_fileOf 16 = .ok (.aconst_null, 1) := by decide +kernel
theorem dX7_fileOf_17 : decode cX7_fileOf 17 = .ok (.areturn, 1) := by decide +kernel
theorem dX7_placeOf_0 : decode cX7_placeOf 0 = .ok (.aload_n 0, 1) := by decide +kernel
theorem dX7_placeOf_1 : decode cX7_placeOf 1 = .ok (.aload_n 1, 1) := by decide +kernel
theorem dX7_placeOf_2 : decode cX7_placeOf 2 = .ok (.iload_n 2, 1) := by decide +kernel
theorem dX7_placeOf_3 : decode cX7_placeOf 3 = .ok (.invokevirtual 112, 3) := by decide +kernel
theorem dX7_placeOf_6 : decode cX7_placeOf 6 = .ok (.astore 4, 2) := by decide +kernel
theorem dX7_placeOf_8 : decode cX7_placeOf 8 = .ok (.aload 4, 2) := by decide +kernel
theorem dX7_placeOf_10 : decode cX7_placeOf 10 = .ok (.ifnonnull 7, 3) := by decide +kernel
theorem dX7_placeOf_13 : decode cX7_placeOf 13 = .ok (.aconst_null, 1) := by decide +kernel
theorem dX7_placeOf_14 : decode cX7_placeOf 14 = .ok (.goto 9, 3) := by decide +kernel
theorem dX7_placeOf_17 : decode cX7_placeOf 17 = .ok (.aload 4, 2) := by decide +kernel
theorem dX7_placeOf_19 : decode cX7_placeOf 19 = .ok (.iload_n 3, 1) := by decide +kernel
theorem dX7_placeOf_20 : decode cX7_placeOf 20 = .ok (.invokevirtual 131, 3) := by decide +kernel
theorem dX7_placeOf_23 : decode cX7_placeOf 23 = .ok (.areturn, 1) := by decide +kernel
theorem dX7_putStatus_0 : decode cX7_putStatus 0 = .ok (.aload_n 0, 1) := by decide +kernel
theorem dX7_putStatus_1 : decode cX7_putStatus 1 = .ok (.aload_n 0, 1) := by decide +kernel
theorem dX7_putStatus_2 : decode cX7_putStatus 2 = .ok (.getfield 31, 3) := by decide +kernel
theorem dX7_putStatus_5 : decode cX7_putStatus 5 = .ok (.iload_n 1, 1) := by decide +kernel
theorem dX7_putStatus_6 : decode cX7_putStatus 6 = .ok (.iload_n 2, 1) := by decide +kernel
theorem dX7_putStatus_7 : decode cX7_putStatus 7 = .ok (.invokevirtual 93, 3) := by decide +kernel
theorem dX7_putStatus_10 : decode cX7_putStatus 10 = .ok (.astore_n 3, 1) := by decide +kernel
theorem dX7_putStatus_11 : decode cX7_putStatus 11 = .ok (.aload_n 3, 1) := by decide +kernel
theorem dX7_putStatus_12 : decode cX7_putStatus 12 = .ok (.ifnonnull 5, 3) := by decide +kernel
theorem dX7_putStatus_15 : decode cX7_putStatus 15 = .ok (.iconst 1, 1) := by decide +kernel
theorem dX7_putStatus_16 : decode cX7_putStatus 16 = .ok (.ireturn, 1) := by decide +kernel
theorem dX7_putStatus_17 : decode cX7_putStatus 17 = .ok (.aload_n 3, 1) := by decide +kernel
theorem dX7_putStatus_18 : decode cX7_putStatus 18 = .ok (.getfield 97, 3) := by decide +kernel
theorem dX7_putStatus_21 : decode cX7_putStatus 21 = .ok (.ifCond .ne 7, 3) := by decide +kernel
theorem dX7_putStatus_24 : decode cX7_putStatus 24 = .ok (.iconst 0, 1) := by decide +kernel
theorem dX7_putStatus_25 : decode cX7_putStatus 25 = .ok (.goto 4, 3) := by decide +kernel
theorem dX7_putStatus_28 : decode cX7_putStatus 28 = .ok (.iconst 2, 1) := by decide +kernel
theorem dX7_putStatus_29 : decode cX7_putStatus 29 = .ok (.ireturn, 1) := by decide +kernel
theorem dX7_tell_0 : decode cX7_tell 0 = .ok (.aload_n 0, 1) := by decide +kernel
theorem dX7_tell_1 : decode cX7_tell 1 = .ok (.getfield 15, 3) := by decide +kernel
theorem dX7_tell_4 : decode cX7_tell 4 = .ok (.sipush 400, 3) := by decide +kernel
theorem dX7_tell_7 : decode cX7_tell 7 = .ok (.if_icmp .lt 6, 3) := by decide +kernel
theorem dX7_tell_10 : decode cX7_tell 10 = .ok (.bipush 7, 2) := by decide +kernel
theorem dX7_tell_12 : decode cX7_tell 12 = .ok (.ireturn, 1) := by decide +kernel
theorem dX7_tell_13 : decode cX7_tell 13 = .ok (.aload_n 0, 1) := by decide +kernel
theorem dX7_tell_14 : decode cX7_tell 14 = .ok (.getfield 11, 3) := by decide +kernel
theorem dX7_tell_17 : decode cX7_tell 17 = .ok (.aload_n 0, 1) := by decide +kernel
theorem dX7_tell_18 : decode cX7_tell 18 = .ok (.getfield 15, 3) := by decide +kernel
theorem dX7_tell_21 : decode cX7_tell 21 = .ok (.aload_n 1, 1) := by decide +kernel
theorem dX7_tell_22 : decode cX7_tell 22 = .ok (.aastore, 1) := by decide +kernel
theorem dX7_tell_23 : decode cX7_tell 23 = .ok (.aload_n 0, 1) := by decide +kernel
theorem dX7_tell_24 : decode cX7_tell 24 = .ok (.dup, 1) := by decide +kernel
theorem dX7_tell_25 : decode cX7_tell 25 = .ok (.getfield 15, 3) := by decide +kernel
theorem dX7_tell_28 : decode cX7_tell 28 = .ok (.iconst 1, 1) := by decide +kernel
theorem dX7_tell_29 : decode cX7_tell 29 = .ok (.iadd, 1) := by decide +kernel
theorem dX7_tell_30 : decode cX7_tell 30 = .ok (.putfield 15, 3) := by decide +kernel
theorem dX7_tell_33 : decode cX7_tell 33 = .ok (.aload_n 0, 1) := by decide +kernel
theorem dX7_tell_34 : decode cX7_tell 34 = .ok (.getfield 31, 3) := by decide +kernel
theorem dX7_tell_37 : decode cX7_tell 37 = .ok (.aload_n 0, 1) := by decide +kernel
theorem dX7_tell_38 : decode cX7_tell 38 = .ok (.getfield 11, 3) := by decide +kernel
theorem dX7_tell_41 : decode cX7_tell 41 = .ok (.aload_n 0, 1) := by decide +kernel
theorem dX7_tell_42 : decode cX7_tell 42 = .ok (.getfield 15, 3) := by decide +kernel
theorem dX7_tell_45 : decode cX7_tell 45 = .ok (.invokevirtual 269, 3) := by decide +kernel
theorem dX7_tell_48 : decode cX7_tell 48 = .ok (.iconst 0, 1) := by decide +kernel
theorem dX7_tell_49 : decode cX7_tell 49 = .ok (.ireturn, 1) := by decide +kernel
theorem dX7_dayAsked_0 : decode cX7_dayAsked 0 = .ok (.aload_n 0, 1) := by decide +kernel
theorem dX7_dayAsked_1 : decode cX7_dayAsked 1 = .ok (.getfield 25, 3) := by decide +kernel
theorem dX7_dayAsked_4 : decode cX7_dayAsked 4 = .ok (.iconst (-1), 1) := by decide +kernel
theorem dX7_dayAsked_5 : decode cX7_dayAsked 5 = .ok (.if_icmp .ne 10, 3) := by decide +kernel
theorem dX7_dayAsked_8 : decode cX7_dayAsked 8 = .ok (.aload_n 0, 1) := by decide +kernel
theorem dX7_dayAsked_9 : decode cX7_dayAsked 9 = .ok (.getfield 22, 3) := by decide +kernel
theorem dX7_dayAsked_12 : decode cX7_dayAsked 12 = .ok (.goto 7, 3) := by decide +kernel
theorem dX7_dayAsked_15 : decode cX7_dayAsked 15 = .ok (.aload_n 0, 1) := by decide +kernel
theorem dX7_dayAsked_16 : decode cX7_dayAsked 16 = .ok (.getfield 25, 3) := by decide +kernel
theorem dX7_dayAsked_19 : decode cX7_dayAsked 19 = .ok (.ireturn, 1) := by decide +kernel
theorem dX7_known_0 : decode cX7_known 0 = .ok (.aload_n 0, 1) := by decide +kernel
theorem dX7_known_1 : decode cX7_known 1 = .ok (.getfield 15, 3) := by decide +kernel
theorem dX7_known_4 : decode cX7_known 4 = .ok (.istore_n 1, 1) := by decide +kernel
theorem dX7_known_5 : decode cX7_known 5 = .ok (.iload_n 1, 1) := by decide +kernel
theorem dX7_known_6 : decode cX7_known 6 = .ok (.ifCond .le 27, 3) := by decide +kernel
theorem dX7_known_9 : decode cX7_known 9 = .ok (.aload_n 0, 1) := by decide +kernel
theorem dX7_known_10 : decode cX7_known 10 = .ok (.getfield 11, 3) := by decide +kernel
theorem dX7_known_13 : decode cX7_known 13 = .ok (.iload_n 1, 1) := by decide +kernel
theorem dX7_known_14 : decode cX7_known 14 = .ok (.iconst 1, 1) := by decide +kernel
theorem dX7_known_15 : decode cX7_known 15 = .ok (.isub, 1) := by decide +kernel
theorem dX7_known_16 : decode cX7_known 16 = .ok (.aaload, 1) := by decide +kernel
theorem dX7_known_17 : decode cX7_known 17 = .ok (.aload_n 0, 1) := by decide +kernel
theorem dX7_known_18 : decode cX7_known 18 = .ok (.invokevirtual 209, 3) := by decide +kernel
theorem dX7_known_21 : decode cX7_known 21 = .ok (.invokestatic 273, 3) := by decide +kernel
theorem dX7_known_24 : decode cX7_known 24 = .ok (.ifCond .eq 9, 3) := by decide +kernel
theorem dX7_known_27 : decode cX7_known 27 = .ok (.iinc 1 (-1), 3) := by decide +kernel
theorem dX7_known_30 : decode cX7_known 30 = .ok (.goto (-25), 3) := by decide +kernel
theorem dX7_known_33 : decode cX7_known 33 = .ok (.iload_n 1, 1) := by decide +kernel
theorem dX7_known_34 : decode cX7_known 34 = .ok (.aload_n 0, 1) := by decide +kernel
theorem dX7_known_35 : decode cX7_known 35 = .ok (.getfield 15, 3) := by decide +kernel
theorem dX7_known_38 : decode cX7_known 38 = .ok (.if_icmp .ne 8, 3) := by decide +kernel
theorem dX7_known_41 : decode cX7_known 41 = .ok (.aload_n 0, 1) := by decide +kernel
theorem dX7_known_42 : decode cX7_known 42 = .ok (.getfield 31, 3) := by decide +kernel
theorem dX7_known_45 : decode cX7_known 45 = .ok (.areturn, 1) := by decide +kernel
theorem dX7_known_46 : decode cX7_known 46 = .ok (.aload_n 0, 1) := by decide +kernel
theorem dX7_known_47 : decode cX7_known 47 = .ok (.getfield 35, 3) := by decide +kernel
theorem dX7_known_50 : decode cX7_known 50 = .ok (.aload_n 0, 1) := by decide +kernel
theorem dX7_known_51 : decode cX7_known 51 = .ok (.getfield 11, 3) := by decide +kernel
theorem dX7_known_54 : decode cX7_known 54 = .ok (.iload_n 1, 1) := by decide +kernel
theorem dX7_known_55 : decode cX7_known 55 = .ok (.invokevirtual 269, 3) := by decide +kernel
theorem dX7_known_58 : decode cX7_known 58 = .ok (.aload_n 0, 1) := by decide +kernel
theorem dX7_known_59 : decode cX7_known 59 = .ok (.getfield 35, 3) := by decide +kernel
theorem dX7_known_62 : decode cX7_known 62 = .ok (.areturn, 1) := by decide +kernel
theorem dX7_isBehind_0 : decode cX7_isBehind 0 = .ok (.aload_n 0, 1) := by decide +kernel
theorem dX7_isBehind_1 : decode cX7_isBehind 1 = .ok (.ifnull 15, 3) := by decide +kernel
theorem dX7_isBehind_4 : decode cX7_isBehind 4 = .ok (.aload_n 0, 1) := by decide +kernel
theorem dX7_isBehind_5 : decode cX7_isBehind 5 = .ok (.getfield 277, 3) := by decide +kernel
theorem dX7_isBehind_8 : decode cX7_isBehind 8 = .ok (.iload_n 1, 1) := by decide +kernel
theorem dX7_isBehind_9 : decode cX7_isBehind 9 = .ok (.if_icmp .le 7, 3) := by decide +kernel
theorem dX7_isBehind_12 : decode cX7_isBehind 12 = .ok (.iconst 1, 1) := by decide +kernel
theorem dX7_isBehind_13 : decode cX7_isBehind 13 = .ok (.goto 4, 3) := by decide +kernel
theorem dX7_isBehind_16 : decode cX7_isBehind 16 = .ok (.iconst 0, 1) := by decide +kernel
theorem dX7_isBehind_17 : decode cX7_isBehind 17 = .ok (.ireturn, 1) := by decide +kernel
theorem dX7_reckonOrder_0 : decode cX7_reckonOrder 0 = .ok (.aload_n 0, 1) := by decide +kernel
theorem dX7_reckonOrder_1 : decode cX7_reckonOrder 1 = .ok (.aload_n 0, 1) := by decide +kernel
theorem dX7_reckonOrder_2 : decode cX7_reckonOrder 2 = .ok (.invokevirtual 169, 3) := by decide +kernel
theorem dX7_reckonOrder_5 : decode cX7_reckonOrder 5 = .ok (.iload_n 1, 1) := by decide +kernel
theorem dX7_reckonOrder_6 : decode cX7_reckonOrder 6 = .ok (.invokevirtual 112, 3) := by decide +kernel
theorem dX7_reckonOrder_9 : decode cX7_reckonOrder 9 = .ok (.astore 4, 2) := by decide +kernel
theorem dX7_reckonOrder_11 : decode cX7_reckonOrder 11 = .ok (.aload 4, 2) := by decide +kernel
theorem dX7_reckonOrder_13 : decode cX7_reckonOrder 13 = .ok (.ifnonnull 7, 3) := by decide +kernel
theorem dX7_reckonOrder_16 : decode cX7_reckonOrder 16 = .ok (.aconst_null, 1) := by decide +kernel
theorem dX7_reckonOrder_17 : decode cX7_reckonOrder 17 = .ok (.goto 9, 3) := by decide +kernel
theorem dX7_reckonOrder_20 : decode cX7_reckonOrder 20 = .ok (.aload 4, 2) := by decide +kernel
theorem dX7_reckonOrder_22 : decode cX7_reckonOrder 22 = .ok (.iload_n 2, 1) := by decide +kernel
theorem dX7_reckonOrder_23 : decode cX7_reckonOrder 23 = .ok (.invokevirtual 131, 3) := by decide +kernel
theorem dX7_reckonOrder_26 : decode cX7_reckonOrder 26 = .ok (.astore 5, 2) := by decide +kernel
theorem dX7_reckonOrder_28 : decode cX7_reckonOrder 28 = .ok (.aload 5, 2) := by decide +kernel
theorem dX7_reckonOrder_30 : decode cX7_reckonOrder 30 = .ok (.ifnull 11, 3) := by decide +kernel
theorem dX7_reckonOrder_33 : decode cX7_reckonOrder 33 = .ok (.aload 5, 2) := by decide +kernel
theorem dX7_reckonOrder_35 : decode cX7_reckonOrder 35 = .ok (.invokevirtual 278, 3) := by decide +kernel
theorem dX7_reckonOrder_38 : decode cX7_reckonOrder 38 = .ok (.ifCond .ne 5, 3) := by decide +kernel
theorem dX7_reckonOrder_41 : decode cX7_reckonOrder 41 = .ok (.iconst 0, 1) := by decide +kernel
theorem dX7_reckonOrder_42 : decode cX7_reckonOrder 42 = .ok (.ireturn, 1) := by decide +kernel
theorem dX7_reckonOrder_43 : decode cX7_reckonOrder 43 = .ok (.aload_n 0, 1) := by decide +kernel
theorem dX7_reckonOrder_44 : decode cX7_reckonOrder 44 = .ok (.getfield 41, 3) := by decide +kernel
theorem dX7_reckonOrder_47 : decode cX7_reckonOrder 47 = .ok (.aload 4, 2) := by decide +kernel
theorem dX7_reckonOrder_49 : decode cX7_reckonOrder 49 = .ok (.iload_n 3, 1) := by decide +kernel
theorem dX7_reckonOrder_50 : decode cX7_reckonOrder 50 = .ok (.invokevirtual 135, 3) := by decide +kernel
theorem dX7_reckonOrder_53 : decode cX7_reckonOrder 53 = .ok (.iconst 1, 1) := by decide +kernel
theorem dX7_reckonOrder_54 : decode cX7_reckonOrder 54 = .ok (.ireturn, 1) := by decide +kernel
