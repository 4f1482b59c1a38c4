theorem dX0_init_0 : decode cX0_init 0 = .ok (.aload_n 0, 1) := by decide +kernel
theorem dX0_init_1 : decode cX0_init 1 = .ok (.invokespecial 3, 3) := by decide +kernel
theorem dX0_init_4 : decode cX0_init 4 = .ok (.aload_n 0, 1) := by decide +kernel
theorem dX0_init_5 : decode cX0_init 5 = .ok (.bipush 16, 2) := by decide +kernel
theorem dX0_init_7 : decode cX0_init 7 = .ok (.newarray .int, 2) := by decide +kernel
theorem dX0_init_9 : decode cX0_init 9 = .ok (.putfield 9, 3) := by decide +kernel
theorem dX0_init_12 : decode cX0_init 12 = .ok (.return_, 1) := by decide +kernel
theorem dX0_begin_0 : decode cX0_begin 0 = .ok (.aload_n 0, 1) := by decide +kernel
theorem dX0_begin_1 : decode cX0_begin 1 = .ok (.iload_n 1, 1) := by decide +kernel
theorem dX0_begin_2 : decode cX0_begin 2 = .ok (.putfield 15, 3) := by decide +kernel
theorem dX0_begin_5 : decode cX0_begin 5 = .ok (.aload_n 0, 1) := by decide +kernel
theorem dX0_begin_6 : decode cX0_begin 6 = .ok (.iload_n 2, 1) := by decide +kernel
theorem dX0_begin_7 : decode cX0_begin 7 = .ok (.putfield 19, 3) := by decide +kernel
theorem dX0_begin_10 : decode cX0_begin 10 = .ok (.aload_n 0, 1) := by decide +kernel
theorem dX0_begin_11 : decode cX0_begin 11 = .ok (.iload_n 3, 1) := by decide +kernel
theorem dX0_begin_12 : decode cX0_begin 12 = .ok (.putfield 22, 3) := by decide +kernel
theorem dX0_begin_15 : decode cX0_begin 15 = .ok (.aload_n 0, 1) := by decide +kernel
theorem dX0_begin_16 : decode cX0_begin 16 = .ok (.iload 4, 2) := by decide +kernel
theorem dX0_begin_18 : decode cX0_begin 18 = .ok (.putfield 25, 3) := by decide +kernel
theorem dX0_begin_21 : decode cX0_begin 21 = .ok (.return_, 1) := by decide +kernel
theorem dX0_copyFrom_0 : decode cX0_copyFrom 0 = .ok (.aload_n 0, 1) := by decide +kernel
theorem dX0_copyFrom_1 : decode cX0_copyFrom 1 = .ok (.aload_n 1, 1) := by decide +kernel
theorem dX0_copyFrom_2 : decode cX0_copyFrom 2 = .ok (.getfield 15, 3) := by decide +kernel
theorem dX0_copyFrom_5 : decode cX0_copyFrom 5 = .ok (.putfield 15, 3) := by decide +kernel
theorem dX0_copyFrom_8 : decode cX0_copyFrom 8 = .ok (.aload_n 0, 1) := by decide +kernel
theorem dX0_copyFrom_9 : decode cX0_copyFrom 9 = .ok (.aload_n 1, 1) := by decide +kernel
theorem dX0_copyFrom_10 : decode cX0_copyFrom 10 = .ok (.getfield 19, 3) := by decide +kernel
theorem dX0_copyFrom_13 : decode cX0_copyFrom 13 = .ok (.putfield 19, 3) := by decide +kernel
theorem dX0_copyFrom_16 : decode cX0_copyFrom 16 = .ok (.aload_n 0, 1) := by decide +kernel
theorem dX0_copyFrom_17 : decode cX0_copyFrom 17 = .ok (.aload_n 1, 1) := by decide +kernel
theorem dX0_copyFrom_18 : decode cX0_copyFrom 18 = .ok (.getfield 22, 3) := by decide +kernel
theorem dX0_copyFrom_21 : decode cX0_copyFrom 21 = .ok (.putfield 22, 3) := by decide +kernel
theorem dX0_copyFrom_24 : decode cX0_copyFrom 24 = .ok (.aload_n 0, 1) := by decide +kernel
theorem dX0_copyFrom_25 : decode cX0_copyFrom 25 = .ok (.aload_n 1, 1) := by decide +kernel
theorem dX0_copyFrom_26 : decode cX0_copyFrom 26 = .ok (.getfield 25, 3) := by decide +kernel
theorem dX0_copyFrom_29 : decode cX0_copyFrom 29 = .ok (.putfield 25, 3) := by decide +kernel
theorem dX0_copyFrom_32 : decode cX0_copyFrom 32 = .ok (.aload_n 0, 1) := by decide +kernel
theorem dX0_copyFrom_33 : decode cX0_copyFrom 33 = .ok (.aload_n 1, 1) := by decide +kernel
theorem dX0_copyFrom_34 : decode cX0_copyFrom 34 = .ok (.getfield 28, 3) := by decide +kernel
theorem dX0_copyFrom_37 : decode cX0_copyFrom 37 = .ok (.putfield 28, 3) := by decide +kernel
theorem dX0_copyFrom_40 : decode cX0_copyFrom 40 = .ok (.aload_n 0, 1) := by decide +kernel
theorem dX0_copyFrom_41 : decode cX0_copyFrom 41 = .ok (.aload_n 1, 1) := by decide +kernel
theorem dX0_copyFrom_42 : decode cX0_copyFrom 42 = .ok (.getfield 31, 3) := by decide +kernel
theorem dX0_copyFrom_45 : decode cX0_copyFrom 45 = .ok (.putfield 31, 3) := by decide +kernel
theorem dX0_copyFrom_48 : decode cX0_copyFrom 48 = .ok (.aload_n 0, 1) := by decide +kernel
theorem dX0_copyFrom_49 : decode cX0_copyFrom 49 = .ok (.aload_n 1, 1) := by decide +kernel
theorem dX0_copyFrom_50 : decode cX0_copyFrom 50 = .ok (.getfield 34, 3) := by decide +kernel
theorem dX0_copyFrom_53 : decode cX0_copyFrom 53 = .ok (.putfield 34, 3) := by decide +kernel
theorem dX0_copyFrom_56 : decode cX0_copyFrom 56 = .ok (.aload_n 0, 1) := by decide +kernel
theorem dX0_copyFrom_57 : decode cX0_copyFrom 57 = .ok (.aload_n 1, 1) := by decide +kernel
theorem dX0_copyFrom_58 : decode cX0_copyFrom 58 = .ok (.getfield 37, 3) := by decide +kernel
theorem dX0_copyFrom_61 : decode cX0_copyFrom 61 = .ok (.putfield 37, 3) := by decide +kernel
theorem dX0_copyFrom_64 : decode cX0_copyFrom 64 = .ok (.iconst 0, 1) := by decide +kernel
theorem dX0_copyFrom_65 : decode cX0_copyFrom 65 = .ok (.istore_n 2, 1) := by decide +kernel
theorem dX0_copyFrom_66 : decode cX0_copyFrom 66 = .ok (.iload_n 2, 1) := by decide +kernel
theorem dX0_copyFrom_67 : decode cX0_copyFrom 67 = .ok (.bipush 16, 2) := by decide +kernel
theorem dX0_copyFrom_69 : decode cX0_copyFrom 69 = .ok (.if_icmp .ge 21, 3) := by decide +kernel
theorem dX0_copyFrom_72 : decode cX0_copyFrom 72 = .ok (.aload_n 0, 1) := by decide +kernel
theorem dX0_copyFrom_73 : decode cX0_copyFrom 73 = .ok (.getfield 9, 3) := by decide +kernel
theorem dX0_copyFrom_76 : decode cX0_copyFrom 76 = .ok (.iload_n 2, 1) := by decide +kernel
theorem dX0_copyFrom_77 : decode cX0_copyFrom 77 = .ok (.aload_n 1, 1) := by decide +kernel
theorem dX0_copyFrom_78 : decode cX0_copyFrom 78 = .ok (.getfield 9, 3) := by decide +kernel
theorem dX0_copyFrom_81 : decode cX0_copyFrom 81 = .ok (.iload_n 2, 1) := by decide +kernel
theorem dX0_copyFrom_82 : decode cX0_copyFrom 82 = .ok (.iaload, 1) := by decide +kernel
theorem dX0_copyFrom_83 : decode cX0_copyFrom 83 = .ok (.iastore, 1) := by decide +kernel
theorem dX0_copyFrom_84 : decode cX0_copyFrom 84 = .ok (.iinc 2 1, 3) := by decide +kernel
theorem dX0_copyFrom_87 : decode cX0_copyFrom 87 = .ok (.goto (-21), 3) := by decide +kernel
theorem dX0_copyFrom_90 : decode cX0_copyFrom 90 = .ok (.return_, 1) := by decide +kernel
theorem dX0_isOpen_0 : decode cX0_isOpen 0 = .ok (.aload_n 0, 1) := by decide +kernel
theorem dX0_isOpen_1 : decode cX0_isOpen 1 = .ok (.getfield 28, 3) := by decide +kernel
theorem dX0_isOpen_4 : decode cX0_isOpen 4 = .ok (.aload_n 0, 1) := by decide +kernel
theorem dX0_isOpen_5 : decode cX0_isOpen 5 = .ok (.getfield 25, 3) := by decide +kernel
theorem dX0_isOpen_8 : decode cX0_isOpen 8 = .ok (.if_icmp .lt 7, 3) := by decide +kernel
theorem dX0_isOpen_11 : decode cX0_isOpen 11 = .ok (.iconst 1, 1) := by decide +kernel
theorem dX0_isOpen_12 : decode cX0_isOpen 12 = .ok (.goto 4, 3) := by decide +kernel
theorem dX0_isOpen_15 : decode cX0_isOpen 15 = .ok (.iconst 0, 1) := by decide +kernel
theorem dX0_isOpen_16 : decode cX0_isOpen 16 = .ok (.ireturn, 1) := by decide +kernel
theorem dX0_enqueue_0 : decode cX0_enqueue 0 = .ok (.aload_n 0, 1) := by decide +kernel
theorem dX0_enqueue_1 : decode cX0_enqueue 1 = .ok (.getfield 37, 3) := by decide +kernel
theorem dX0_enqueue_4 : decode cX0_enqueue 4 = .ok (.ifCond .lt 12, 3) := by decide +kernel
theorem dX0_enqueue_7 : decode cX0_enqueue 7 = .ok (.aload_n 0, 1) := by decide +kernel
theorem dX0_enqueue_8 : decode cX0_enqueue 8 = .ok (.getfield 37, 3) := by decide +kernel
theorem dX0_enqueue_11 : decode cX0_enqueue 11 = .ok (.bipush 16, 2) := by decide +kernel
theorem dX0_enqueue_13 : decode cX0_enqueue 13 = .ok (.if_icmp .lt 5, 3) := by decide +kernel
theorem dX0_enqueue_16 : decode cX0_enqueue 16 = .ok (.iconst 0, 1) := by decide +kernel
theorem dX0_enqueue_17 : decode cX0_enqueue 17 = .ok (.ireturn, 1) := by decide +kernel
theorem dX0_enqueue_18 : decode cX0_enqueue 18 = .ok (.aload_n 0, 1) := by decide +kernel
theorem dX0_enqueue_19 : decode cX0_enqueue 19 = .ok (.getfield 9, 3) := by decide +kernel
theorem dX0_enqueue_22 : decode cX0_enqueue 22 = .ok (.aload_n 0, 1) := by decide +kernel
theorem dX0_enqueue_23 : decode cX0_enqueue 23 = .ok (.getfield 37, 3) := by decide +kernel
theorem dX0_enqueue_26 : decode cX0_enqueue 26 = .ok (.iload_n 1, 1) := by decide +kernel
theorem dX0_enqueue_27 : decode cX0_enqueue 27 = .ok (.iastore, 1) := by decide +kernel
theorem dX0_enqueue_28 : decode cX0_enqueue 28 = .ok (.aload_n 0, 1) := by decide +kernel
theorem dX0_enqueue_29 : decode cX0_enqueue 29 = .ok (.dup, 1) := by decide +kernel
theorem dX0_enqueue_30 : decode cX0_enqueue 30 = .ok (.getfield 37, 3) := by decide +kernel
theorem dX0_enqueue_33 : decode cX0_enqueue 33 = .ok (.iconst 1, 1) := by decide +kernel
theorem dX0_enqueue_34 : decode cX0_enqueue 34 = .ok (.iadd, 1) := by decide +kernel
theorem dX0_enqueue_35 : decode cX0_enqueue 35 = .ok (.putfield 37, 3) := by decide +kernel
theorem dX0_enqueue_38 : decode cX0_enqueue 38 = .ok (.iconst 1, 1) := by decide +kernel
theorem dX0_enqueue_39 : decode cX0_enqueue 39 = .ok (.ireturn, 1) := by decide +kernel
theorem dX0_dequeue_0 : decode cX0_dequeue 0 = .ok (.iconst 0, 1) := by decide +kernel
theorem dX0_dequeue_1 : decode cX0_dequeue 1 = .ok (.istore_n 2, 1) := by decide +kernel
theorem dX0_dequeue_2 : decode cX0_dequeue 2 = .ok (.iconst 0, 1) := by decide +kernel
theorem dX0_dequeue_3 : decode cX0_dequeue 3 = .ok (.istore_n 3, 1) := by decide +kernel
theorem dX0_dequeue_4 : decode cX0_dequeue 4 = .ok (.iload_n 3, 1) := by decide +kernel
theorem dX0_dequeue_5 : decode cX0_dequeue 5 = .ok (.aload_n 0, 1) := by decide +kernel
theorem dX0_dequeue_6 : decode cX0_dequeue 6 = .ok (.getfield 37, 3) := by decide +kernel
theorem dX0_dequeue_9 : decode cX0_dequeue 9 = .ok (.if_icmp .ge 40, 3) := by decide +kernel
theorem dX0_dequeue_12 : decode cX0_dequeue 12 = .ok (.iload_n 3, 1) := by decide +kernel
theorem dX0_dequeue_13 : decode cX0_dequeue 13 = .ok (.bipush 16, 2) := by decide +kernel
theorem dX0_dequeue_15 : decode cX0_dequeue 15 = .ok (.if_icmp .ge 34, 3) := by decide +kernel
theorem dX0_dequeue_18 : decode cX0_dequeue 18 = .ok (.aload_n 0, 1) := by decide +kernel
theorem dX0_dequeue_19 : decode cX0_dequeue 19 = .ok (.getfield 9, 3) := by decide +kernel
theorem dX0_dequeue_22 : decode cX0_dequeue 22 = .ok (.iload_n 3, 1) := by decide +kernel
theorem dX0_dequeue_23 : decode cX0_dequeue 23 = .ok (.iaload, 1) := by decide +kernel
theorem dX0_dequeue_24 : decode cX0_dequeue 24 = .ok (.iload_n 1, 1) := by decide +kernel
theorem dX0_dequeue_25 : decode cX0_dequeue 25 = .ok (.if_icmp .eq 18, 3) := by decide +kernel
theorem dX0_dequeue_28 : decode cX0_dequeue 28 = .ok (.aload_n 0, 1) := by decide +kernel
theorem dX0_dequeue_29 : decode cX0_dequeue 29 = .ok (.getfield 9, 3) := by decide +kernel
theorem dX0_dequeue_32 : decode cX0_dequeue 32 = .ok (.iload_n 2, 1) := by decide +kernel
theorem dX0_dequeue_33 : decode cX0_dequeue 33 = .ok (.aload_n 0, 1) := by decide +kernel
theorem dX0_dequeue_34 : decode cX0_dequeue 34 = .ok (.getfield 9, 3) := by decide +kernel
theorem dX0_dequeue_37 : decode cX0_dequeue 37 = .ok (.iload_n 3, 1) := by decide +kernel
theorem dX0_dequeue_38 : decode cX0_dequeue 38 = .ok (.iaload, 1) := by decide +kernel
theorem dX0_dequeue_39 : decode cX0_dequeue 39 = .ok (.iastore, 1) := by decide +kernel
theorem dX0_dequeue_40 : decode cX0_dequeue 40 = .ok (.iinc 2 1, 3) := by decide +kernel
theorem dX0_dequeue_43 : decode cX0_dequeue 43 = .ok (.iinc 3 1, 3) := by decide +kernel
theorem dX0_dequeue_46 : decode cX0_dequeue 46 = .ok (.goto (-42), 3) := by decide +kernel
theorem dX0_dequeue_49 : decode cX0_dequeue 49 = .ok (.aload_n 0, 1) := by decide +kernel
theorem dX0_dequeue_50 : decode cX0_dequeue 50 = .ok (.iload_n 2, 1) := by decide +kernel
theorem dX0_dequeue_51 : decode cX0_dequeue 51 = .ok (.putfield 37, 3) := by decide +kernel
theorem dX0_dequeue_54 : decode cX0_dequeue 54 = .ok (.return_, 1) := by decide +kernel
theorem dX1_init_0 : decode cX1_init 0 = .ok (.aload_n 0, 1) := by decide +kernel
theorem dX1_init_1 : decode cX1_init 1 = .ok (.invokespecial 3, 3) := by decide +kernel
theorem dX1_init_4 : decode cX1_init 4 = .ok (.aload_n 0, 1) := by decide +kernel
theorem dX1_init_5 : decode cX1_init 5 = .ok (.iconst 3, 1) := by decide +kernel
theorem dX1_init_6 : decode cX1_init 6 = .ok (.newarray .int, 2) := by decide +kernel
theorem dX1_init_8 : decode cX1_init 8 = .ok (.putfield 9, 3) := by decide +kernel
theorem dX1_init_11 : decode cX1_init 11 = .ok (.aload_n 0, 1) := by decide +kernel
theorem dX1_init_12 : decode cX1_init 12 = .ok (.iconst 3, 1) := by decide +kernel
theorem dX1_init_13 : decode cX1_init 13 = .ok (.newarray .int, 2) := by decide +kernel
theorem dX1_init_15 : decode cX1_init 15 = .ok (.putfield 15, 3) := by decide +kernel
theorem dX1_init_18 : decode cX1_init 18 = .ok (.aload_n 0, 1) := by decide +kernel
theorem dX1_init_19 : decode cX1_init 19 = .ok (.iconst 3, 1) := by decide +kernel
theorem dX1_init_20 : decode cX1_init 20 = .ok (.newarray .int, 2) := by decide +kernel
theorem dX1_init_22 : decode cX1_init 22 = .ok (.putfield 18, 3) := by decide +kernel
theorem dX1_init_25 : decode cX1_init 25 = .ok (.return_, 1) := by decide +kernel
theorem dX1_copyFrom_0 : decode cX1_copyFrom 0 = .ok (.aload_n 0, 1) := by decide +kernel
theorem dX1_copyFrom_1 : decode cX1_copyFrom 1 = .ok (.aload_n 1, 1) := by decide +kernel
theorem dX1_copyFrom_2 : decode cX1_copyFrom 2 = .ok (.getfield 21, 3) := by decide +kernel
theorem dX1_copyFrom_5 : decode cX1_copyFrom 5 = .ok (.putfield 21, 3) := by decide +kernel
theorem dX1_copyFrom_8 : decode cX1_copyFrom 8 = .ok (.iconst 0, 1) := by decide +kernel
theorem dX1_copyFrom_9 : decode cX1_copyFrom 9 = .ok (.istore_n 2, 1) := by decide +kernel
theorem dX1_copyFrom_10 : decode cX1_copyFrom 10 = .ok (.iload_n 2, 1) := by decide +kernel
theorem dX1_copyFrom_11 : decode cX1_copyFrom 11 = .ok (.iconst 3, 1) := by decide +kernel
theorem dX1_copyFrom_12 : decode cX1_copyFrom 12 = .ok (.if_icmp .ge 45, 3) := by decide +kernel
theorem dX1_copyFrom_15 : decode cX1_copyFrom 15 = .ok (.aload_n 0, 1) := by decide +kernel
theorem dX1_copyFrom_16 : decode cX1_copyFrom 16 = .ok (.getfield 9, 3) := by decide +kernel
theorem dX1_copyFrom_19 : decode cX1_copyFrom 19 = .ok (.iload_n 2, 1) := by decide +kernel
theorem dX1_copyFrom_20 : decode cX1_copyFrom 20 = .ok (.aload_n 1, 1) := by decide +kernel
theorem dX1_copyFrom_21 : decode cX1_copyFrom 21 = .ok (.getfield 9, 3) := by decide +kernel
theorem dX1_copyFrom_24 : decode cX1_copyFrom 24 = .ok (.iload_n 2, 1) := by decide +kernel
theorem dX1_copyFrom_25 : decode cX1_copyFrom 25 = .ok (.iaload, 1) := by decide +kernel
theorem dX1_copyFrom_26 : decode cX1_copyFrom 26 = .ok (.iastore, 1) := by decide +kernel
theorem dX1_copyFrom_27 : decode cX1_copyFrom 27 = .ok (.aload_n 0, 1) := by decide +kernel
theorem dX1_copyFrom_28 : decode cX1_copyFrom 28 = .ok (.getfield 15, 3) := by decide +kernel
theorem dX1_copyFrom_31 : decode cX1_copyFrom 31 = .ok (.iload_n 2, 1) := by decide +kernel
theorem dX1_copyFrom_32 : decode cX1_copyFrom 32 = .ok (.aload_n 1, 1) := by decide +kernel
theorem dX1_copyFrom_33 : decode cX1_copyFrom 33 = .ok (.getfield 15, 3) := by decide +kernel
theorem dX1_copyFrom_36 : decode cX1_copyFrom 36 = .ok (.iload_n 2, 1) := by decide +kernel
theorem dX1_copyFrom_37 : decode cX1_copyFrom 37 = .ok (.iaload, 1) := by decide +kernel
theorem dX1_copyFrom_38 : decode cX1_copyFrom 38 = .ok (.iastore, 1) := by decide +kernel
theorem dX1_copyFrom_39 : decode cX1_copyFrom 39 = .ok (.aload_n 0, 1) := by decide +kernel
theorem dX1_copyFrom_40 : decode cX1_copyFrom 40 = .ok (.getfield 18, 3) := by decide +kernel
theorem dX1_copyFrom_43 : decode cX1_copyFrom 43 = .ok (.iload_n 2, 1) := by decide +kernel
theorem dX1_copyFrom_44 : decode cX1_copyFrom 44 = .ok (.aload_n 1, 1) := by decide +kernel
theorem dX1_copyFrom_45 : decode cX1_copyFrom 45 = .ok (.getfield 18, 3) := by decide +kernel
theorem dX1_copyFrom_48 : decode cX1_copyFrom 48 = .ok (.iload_n 2, 1) := by decide +kernel
theorem dX1_copyFrom_49 : decode cX1_copyFrom 49 = .ok (.iaload, 1) := by decide +kernel
theorem dX1_copyFrom_50 : decode cX1_copyFrom 50 = .ok (.iastore, 1) := by decide +kernel
theorem dX1_copyFrom_51 : decode cX1_copyFrom 51 = .ok (.iinc 2 1, 3) := by decide +kernel
theorem dX1_copyFrom_54 : decode cX1_copyFrom 54 = .ok (.goto (-44), 3) := by decide +kernel
theorem dX1_copyFrom_57 : decode cX1_copyFrom 57 = .ok (.return_, 1) := by decide +kernel
theorem dX1_write_0 : decode cX1_write 0 = .ok (.iconst 0, 1) := by decide +kernel
theorem dX1_write_1 : decode cX1_write 1 = .ok (.istore 4, 2) := by decide +kernel
theorem dX1_write_3 : decode cX1_write 3 = .ok (.iconst 0, 1) := by decide +kernel
theorem dX1_write_4 : decode cX1_write 4 = .ok (.istore 5, 2) := by decide +kernel
theorem dX1_write_6 : decode cX1_write 6 = .ok (.iload 5, 2) := by decide +kernel
theorem dX1_write_8 : decode cX1_write 8 = .ok (.aload_n 0, 1) := by decide +kernel
theorem dX1_write_9 : decode cX1_write 9 = .ok (.getfield 21, 3) := by decide +kernel
theorem dX1_write_12 : decode cX1_write 12 = .ok (.if_icmp .ge 32, 3) := by decide +kernel
theorem dX1_write_15 : decode cX1_write 15 = .ok (.iload 5, 2) := by decide +kernel
theorem dX1_write_17 : decode cX1_write 17 = .ok (.iconst 3, 1) := by decide +kernel
theorem dX1_write_18 : decode cX1_write 18 = .ok (.if_icmp .ge 26, 3) := by decide +kernel
theorem dX1_write_21 : decode cX1_write 21 = .ok (.aload_n 0, 1) := by decide +kernel
theorem dX1_write_22 : decode cX1_write 22 = .ok (.getfield 18, 3) := by decide +kernel
theorem dX1_write_25 : decode cX1_write 25 = .ok (.iload 5, 2) := by decide +kernel
theorem dX1_write_27 : decode cX1_write 27 = .ok (.iaload, 1) := by decide +kernel
theorem dX1_write_28 : decode cX1_write 28 = .ok (.iload_n 3, 1) := by decide +kernel
theorem dX1_write_29 : decode cX1_write 29 = .ok (.if_icmp .lt 9, 3) := by decide +kernel
theorem dX1_write_32 : decode cX1_write 32 = .ok (.iload 5, 2) := by decide +kernel
theorem dX1_write_34 : decode cX1_write 34 = .ok (.iconst 1, 1) := by decide +kernel
theorem dX1_write_35 : decode cX1_write 35 = .ok (.iadd, 1) := by decide +kernel
theorem dX1_write_36 : decode cX1_write 36 = .ok (.istore 4, 2) := by decide +kernel
theorem dX1_write_38 : decode cX1_write 38 = .ok (.iinc 5 1, 3) := by decide +kernel
theorem dX1_write_41 : decode cX1_write 41 = .ok (.goto (-35), 3) := by decide +kernel
theorem dX1_write_44 : decode cX1_write 44 = .ok (.iload 4, 2) := by decide +kernel
theorem dX1_write_46 : decode cX1_write 46 = .ok (.iconst 3, 1) := by decide +kernel
theorem dX1_write_47 : decode cX1_write 47 = .ok (.if_icmp .lt 4, 3) := by decide +kernel
theorem dX1_write_50 : decode cX1_write 50 = .ok (.return_, 1) := by decide +kernel
theorem dX1_write_51 : decode cX1_write 51 = .ok (.aload_n 0, 1) := by decide +kernel
theorem dX1_write_52 : decode cX1_write 52 = .ok (.aload_n 0, 1) := by decide +kernel
theorem dX1_write_53 : decode cX1_write 53 = .ok (.getfield 21, 3) := by decide +kernel
theorem dX1_write_56 : decode cX1_write 56 = .ok (.iconst 1, 1) := by decide +kernel
theorem dX1_write_57 : decode cX1_write 57 = .ok (.iadd, 1) := by decide +kernel
theorem dX1_write_58 : decode cX1_write 58 = .ok (.iconst 3, 1) := by decide +kernel
theorem dX1_write_59 : decode cX1_write 59 = .ok (.invokestatic 25, 3) := by decide +kernel
theorem dX1_write_62 : decode cX1_write 62 = .ok (.putfield 21, 3) := by decide +kernel
theorem dX1_write_65 : decode cX1_write 65 = .ok (.aload_n 0, 1) := by decide +kernel
theorem dX1_write_66 : decode cX1_write 66 = .ok (.getfield 21, 3) := by decide +kernel
theorem dX1_write_69 : decode cX1_write 69 = .ok (.iconst 1, 1) := by decide +kernel
theorem dX1_write_70 : decode cX1_write 70 = .ok (.isub, 1) := by decide +kernel
theorem dX1_write_71 : decode cX1_write 71 = .ok (.istore 5, 2) := by decide +kernel
theorem dX1_write_73 : decode cX1_write 73 = .ok (.iload 5, 2) := by decide +kernel
theorem dX1_write_75 : decode cX1_write 75 = .ok (.iload 4, 2) := by decide +kernel
theorem dX1_write_77 : decode cX1_write 77 = .ok (.if_icmp .le 57, 3) := by decide +kernel
theorem dX1_write_80 : decode cX1_write 80 = .ok (.aload_n 0, 1) := by decide +kernel
theorem dX1_write_81 : decode cX1_write 81 = .ok (.getfield 9, 3) := by decide +kernel
theorem dX1_write_84 : decode cX1_write 84 = .ok (.iload 5, 2) := by decide +kernel
theorem dX1_write_86 : decode cX1_write 86 = .ok (.aload_n 0, 1) := by decide +kernel
theorem dX1_write_87 : decode cX1_write 87 = .ok (.getfield 9, 3) := by decide +kernel
theorem dX1_write_90 : decode cX1_write 90 = .ok (.iload 5, 2) := by decide +kernel
theorem dX1_write_92 : decode cX1_write 92 = .ok (.iconst 1, 1) := by decide +kernel
theorem dX1_write_93 : decode cX1_write 93 = .ok (.isub, 1) := by decide +kernel
theorem dX1_write_94 : decode cX1_write 94 = .ok (.iaload, 1) := by decide +kernel
theorem dX1_write_95 : decode cX1_write 95 = .ok (.iastore, 1) := by decide +kernel
theorem dX1_write_96 : decode cX1_write 96 = .ok (.aload_n 0, 1) := by decide +kernel
theorem dX1_write_97 : decode cX1_write 97 = .ok (.getfield 15, 3) := by decide +kernel
theorem dX1_write_100 : decode cX1_write 100 = .ok (.iload 5, 2) := by decide +kernel
theorem dX1_write_102 : decode cX1_write 102 = .ok (.aload_n 0, 1) := by decide +kernel
theorem dX1_write_103 : decode cX1_write 103 = .ok (.getfield 15, 3) := by decide +kernel
theorem dX1_write_106 : decode cX1_write 106 = .ok (.iload 5, 2) := by decide +kernel
theorem dX1_write_108 : decode cX1_write 108 = .ok (.iconst 1, 1) := by decide +kernel
theorem dX1_write_109 : decode cX1_write 109 = .ok (.isub, 1) := by decide +kernel
theorem dX1_write_110 : decode cX1_write 110 = .ok (.iaload, 1) := by decide +kernel
theorem dX1_write_111 : decode cX1_write 111 = .ok (.iastore, 1) := by decide +kernel
theorem dX1_write_112 : decode cX1_write 112 = .ok (.aload_n 0, 1) := by decide +kernel
theorem dX1_write_113 : decode cX1_write 113 = .ok (.getfield 18, 3) := by decide +kernel
theorem dX1_write_116 : decode cX1_write 116 = .ok (.iload 5, 2) := by decide +kernel
theorem dX1_write_118 : decode cX1_write 118 = .ok (.aload_n 0, 1) := by decide +kernel
theorem dX1_write_119 : decode cX1_write 119 = .ok (.getfield 18, 3) := by decide +kernel
theorem dX1_write_122 : decode cX1_write 122 = .ok (.iload 5, 2) := by decide +kernel
theorem dX1_write_124 : decode cX1_write 124 = .ok (.iconst 1, 1) := by decide +kernel
theorem dX1_write_125 : decode cX1_write 125 = .ok (.isub, 1) := by decide +kernel
theorem dX1_write_126 : decode cX1_write 126 = .ok (.iaload, 1) := by decide +kernel
theorem dX1_write_127 : decode cX1_write 127 = .ok (.iastore, 1) := by decide +kernel
theorem dX1_write_128 : decode cX1_write 128 = .ok (.iinc 5 (-1), 3) := by decide +kernel
theorem dX1_write_131 : decode cX1_write 131 = .ok (.goto (-58), 3) := by decide +kernel
theorem dX1_write_134 : decode cX1_write 134 = .ok (.aload_n 0, 1) := by decide +kernel
theorem dX1_write_135 : decode cX1_write 135 = .ok (.getfield 9, 3) := by decide +kernel
theorem dX1_write_138 : decode cX1_write 138 = .ok (.iload 4, 2) := by decide +kernel
theorem dX1_write_140 : decode cX1_write 140 = .ok (.iload_n 1, 1) := by decide +kernel
theorem dX1_write_141 : decode cX1_write 141 = .ok (.iastore, 1) := by decide +kernel
theorem dX1_write_142 : decode cX1_write 142 = .ok (.aload_n 0, 1) := by decide +kernel
theorem dX1_write_143 : decode cX1_write 143 = .ok (.getfield 15, 3) := by decide +kernel
theorem dX1_write_146 : decode cX1_write 146 = .ok (.iload 4, 2) := by decide +kernel
theorem dX1_write_148 : decode cX1_write 148 = .ok (.iload_n 2, 1) := by decide +kernel
theorem dX1_write_149 : decode cX1_write 149 = .ok (.iastore, 1) := by decide +kernel
theorem dX1_write_150 : decode cX1_write 150 = .ok (.aload_n 0, 1) := by decide +kernel
theorem dX1_write_151 : decode cX1_write 151 = .ok (.getfield 18, 3) := by decide +kernel
theorem dX1_write_154 : decode cX1_write 154 = .ok (.iload 4, 2) := by decide +kernel
theorem dX1_write_156 : decode cX1_write 156 = .ok (.iload_n 3, 1) := by decide +kernel
theorem dX1_write_157 : decode cX1_write 157 = .ok (.iastore, 1) := by decide +kernel
theorem dX1_write_158 : decode cX1_write 158 = .ok (.return_, 1) := by decide +kernel
theorem dX1_fact_0 : decode cX1_fact 0 = .ok (.iload_n 2, 1) := by decide +kernel
theorem dX1_fact_1 : decode cX1_fact 1 = .ok (.lookupswitch 41 #[(0, 27), (1, 34)], 27) := by decide +kernel
theorem dX1_fact_28 : decode cX1_fact 28 = .ok (.aload_n 0, 1) := by decide +kernel
theorem dX1_fact_29 : decode cX1_fact 29 = .ok (.getfield 9, 3) := by decide +kernel
theorem dX1_fact_32 : decode cX1_fact 32 = .ok (.iload_n 1, 1) := by decide +kernel
theorem dX1_fact_33 : decode cX1_fact 33 = .ok (.iaload, 1) := by decide +kernel
theorem dX1_fact_34 : decode cX1_fact 34 = .ok (.ireturn, 1) := by decide +kernel
theorem dX1_fact_35 : decode cX1_fact 35 = .ok (.aload_n 0, 1) := by decide +kernel
theorem dX1_fact_36 : decode cX1_fact 36 = .ok (.getfield 15, 3) := by decide +kernel
theorem dX1_fact_39 : decode cX1_fact 39 = .ok (.iload_n 1, 1) := by decide +kernel
theorem dX1_fact_40 : decode cX1_fact 40 = .ok (.iaload, 1) := by decide +kernel
theorem dX1_fact_41 : decode cX1_fact 41 = .ok (.ireturn, 1) := by decide +kernel
theorem dX1_fact_42 : decode cX1_fact 42 = .ok (.aload_n 0, 1) := by decide +kernel
theorem dX1_fact_43 : decode cX1_fact 43 = .ok (.getfield 18, 3) := by decide +kernel
theorem dX1_fact_46 : decode cX1_fact 46 = .ok (.iload_n 1, 1) := by decide +kernel
theorem dX1_fact_47 : decode cX1_fact 47 = .ok (.iaload, 1) := by decide +kernel
theorem dX1_fact_48 : decode cX1_fact 48 = .ok (.ireturn, 1) := by decide +kernel
theorem dX2_init_0 : decode cX2_init 0 = .ok (.aload_n 0, 1) := by decide +kernel
theorem dX2_init_1 : decode cX2_init 1 = .ok (.invokespecial 3, 3) := by decide +kernel
theorem dX2_init_4 : decode cX2_init 4 = .ok (.aload_n 0, 1) := by decide +kernel
theorem dX2_init_5 : decode cX2_init 5 = .ok (.bipush 8, 2) := by decide +kernel
theorem dX2_init_7 : decode cX2_init 7 = .ok (.anewarray 9, 3) := by decide +kernel
theorem dX2_init_10 : decode cX2_init 10 = .ok (.putfield 11, 3) := by decide +kernel
theorem dX2_init_13 : decode cX2_init 13 = .ok (.aload_n 0, 1) := by decide +kernel
theorem dX2_init_14 : decode cX2_init 14 = .ok (.bipush 12, 2) := by decide +kernel
theorem dX2_init_16 : decode cX2_init 16 = .ok (.anewarray 17, 3) := by decide +kernel
theorem dX2_init_19 : decode cX2_init 19 = .ok (.putfield 19, 3) := by decide +kernel
theorem dX2_init_22 : decode cX2_init 22 = .ok (.aload_n 0, 1) := by decide +kernel
theorem dX2_init_23 : decode cX2_init 23 = .ok (.bipush 16, 2) := by decide +kernel
theorem dX2_init_25 : decode cX2_init 25 = .ok (.anewarray 23, 3) := by decide +kernel
theorem dX2_init_28 : decode cX2_init 28 = .ok (.putfield 25, 3) := by decide +kernel
theorem dX2_init_31 : decode cX2_init 31 = .ok (.aload_n 0, 1) := by decide +kernel
theorem dX2_init_32 : decode cX2_init 32 = .ok (.new 29, 3) := by decide +kernel
theorem dX2_init_35 : decode cX2_init 35 = .ok (.dup, 1) := by decide +kernel
theorem dX2_init_36 : decode cX2_init 36 = .ok (.invokespecial 31, 3) := by decide +kernel
theorem dX2_init_39 : decode cX2_init 39 = .ok (.putfield 32, 3) := by decide +kernel
theorem dX2_init_42 : decode cX2_init 42 = .ok (.aload_n 0, 1) := by decide +kernel
theorem dX2_init_43 : decode cX2_init 43 = .ok (.iconst 1, 1) := by decide +kernel
theorem dX2_init_44 : decode cX2_init 44 = .ok (.putfield 36, 3) := by decide +kernel
theorem dX2_init_47 : decode cX2_init 47 = .ok (.aload_n 0, 1) := by decide +kernel
theorem dX2_init_48 : decode cX2_init 48 = .ok (.iconst (-1), 1) := by decide +kernel
theorem dX2_init_49 : decode cX2_init 49 = .ok (.putfield 40, 3) := by decide +kernel
theorem dX2_init_52 : decode cX2_init 52 = .ok (.iconst 0, 1) := by decide +kernel
theorem dX2_init_53 : decode cX2_init 53 = .ok (.istore_n 1, 1) := by decide +kernel
theorem dX2_init_54 : decode cX2_init 54 = .ok (.iload_n 1, 1) := by decide +kernel
theorem dX2_init_55 : decode cX2_init 55 = .ok (.bipush 8, 2) := by decide +kernel
theorem dX2_init_57 : decode cX2_init 57 = .ok (.if_icmp .ge 22, 3) := by decide +kernel
theorem dX2_init_60 : decode cX2_init 60 = .ok (.aload_n 0, 1) := by decide +kernel
theorem dX2_init_61 : decode cX2_init 61 = .ok (.getfield 11, 3) := by decide +kernel
theorem dX2_init_64 : decode cX2_init 64 = .ok (.iload_n 1, 1) := by decide +kernel
theorem dX2_init_65 : decode cX2_init 65 = .ok (.new 9, 3) := by decide +kernel
theorem dX2_init_68 : decode cX2_init 68 = .ok (.dup, 1) := by decide +kernel
theorem dX2_init_69 : decode cX2_init 69 = .ok (.invokespecial 43, 3) := by decide +kernel
theorem dX2_init_72 : decode cX2_init 72 = .ok (.aastore, 1) := by decide +kernel
theorem dX2_init_73 : decode cX2_init 73 = .ok (.iinc 1 1, 3) := by decide +kernel
theorem dX2_init_76 : decode cX2_init 76 = .ok (.goto (-22), 3) := by decide +kernel
theorem dX2_init_79 : decode cX2_init 79 = .ok (.iconst 0, 1) := by decide +kernel
theorem dX2_init_80 : decode cX2_init 80 = .ok (.istore_n 1, 1) := by decide +kernel
theorem dX2_init_81 : decode cX2_init 81 = .ok (.iload_n 1, 1) := by decide +kernel
theorem dX2_init_82 : decode cX2_init 82 = .ok (.bipush 12, 2) := by decide +kernel
theorem dX2_init_84 : decode cX2_init 84 = .ok (.if_icmp .ge 22, 3) := by decide +kernel
theorem dX2_init_87 : decode cX2_init 87 = .ok (.aload_n 0, 1) := by decide +kernel
theorem dX2_init_88 : decode cX2_init 88 = .ok (.getfield 19, 3) := by decide +kernel
theorem dX2_init_91 : decode cX2_init 91 = .ok (.iload_n 1, 1) := by decide +kernel
theorem dX2_init_92 : decode cX2_init 92 = .ok (.new 17, 3) := by decide +kernel
theorem dX2_init_95 : decode cX2_init 95 = .ok (.dup, 1) := by decide +kernel
theorem dX2_init_96 : decode cX2_init 96 = .ok (.invokespecial 44, 3) := by decide +kernel
theorem dX2_init_99 : decode cX2_init 99 = .ok (.aastore, 1) := by decide +kernel
theorem dX2_init_100 : decode cX2_init 100 = .ok (.iinc 1 1, 3) := by decide +kernel
theorem dX2_init_103 : decode cX2_init 103 = .ok (.goto (-22), 3) := by decide +kernel
theorem dX2_init_106 : decode cX2_init 106 = .ok (.iconst 0, 1) := by decide +kernel
theorem dX2_init_107 : decode cX2_init 107 = .ok (.istore_n 1, 1) := by decide +kernel
theorem dX2_init_108 : decode cX2_init 108 = .ok (.iload_n 1, 1) := by decide +kernel
theorem dX2_init_109 : decode cX2_init 109 = .ok (.bipush 16, 2) := by decide +kernel
theorem dX2_init_111 : decode cX2_init 111 = .ok (.if_icmp .ge 22, 3) := by decide +kernel
theorem dX2_init_114 : decode cX2_init 114 = .ok (.aload_n 0, 1) := by decide +kernel
theorem dX2_init_115 : decode cX2_init 115 = .ok (.getfield 25, 3) := by decide +kernel
theorem dX2_init_118 : decode cX2_init 118 = .ok (.iload_n 1, 1) := by decide +kernel
theorem dX2_init_119 : decode cX2_init 119 = .ok (.new 23, 3) := by decide +kernel
theorem dX2_init_122 : decode cX2_init 122 = .ok (.dup, 1) := by decide +kernel
theorem dX2_init_123 : decode cX2_init 123 = .ok (.invokespecial 45, 3) := by decide +kernel
theorem dX2_init_126 : decode cX2_init 126 = .ok (.aastore, 1) := by decide +kernel
theorem dX2_init_127 : decode cX2_init 127 = .ok (.iinc 1 1, 3) := by decide +kernel
theorem dX2_init_130 : decode cX2_init 130 = .ok (.goto (-22), 3) := by decide +kernel
theorem dX2_init_133 : decode cX2_init 133 = .ok (.return_, 1) := by decide +kernel
theorem dX2_copyFrom_0 : decode cX2_copyFrom 0 = .ok (.aload_n 0, 1) := by decide +kernel
theorem dX2_copyFrom_1 : decode cX2_copyFrom 1 = .ok (.aload_n 1, 1) := by decide +kernel
theorem dX2_copyFrom_2 : decode cX2_copyFrom 2 = .ok (.getfield 46, 3) := by decide +kernel
theorem dX2_copyFrom_5 : decode cX2_copyFrom 5 = .ok (.putfield 46, 3) := by decide +kernel
theorem dX2_copyFrom_8 : decode cX2_copyFrom 8 = .ok (.aload_n 0, 1) := by decide +kernel
theorem dX2_copyFrom_9 : decode cX2_copyFrom 9 = .ok (.aload_n 1, 1) := by decide +kernel
theorem dX2_copyFrom_10 : decode cX2_copyFrom 10 = .ok (.getfield 49, 3) := by decide +kernel
theorem dX2_copyFrom_13 : decode cX2_copyFrom 13 = .ok (.putfield 49, 3) := by decide +kernel
theorem dX2_copyFrom_16 : decode cX2_copyFrom 16 = .ok (.aload_n 0, 1) := by decide +kernel
theorem dX2_copyFrom_17 : decode cX2_copyFrom 17 = .ok (.aload_n 1, 1) := by decide +kernel
theorem dX2_copyFrom_18 : decode cX2_copyFrom 18 = .ok (.getfield 52, 3) := by decide +kernel
theorem dX2_copyFrom_21 : decode cX2_copyFrom 21 = .ok (.putfield 52, 3) := by decide +kernel
theorem dX2_copyFrom_24 : decode cX2_copyFrom 24 = .ok (.aload_n 0, 1) := by decide +kernel
theorem dX2_copyFrom_25 : decode cX2_copyFrom 25 = .ok (.aload_n 1, 1) := by decide +kernel
theorem dX2_copyFrom_26 : decode cX2_copyFrom 26 = .ok (.getfield 55, 3) := by decide +kernel
theorem dX2_copyFrom_29 : decode cX2_copyFrom 29 = .ok (.putfield 55, 3) := by decide +kernel
theorem dX2_copyFrom_32 : decode cX2_copyFrom 32 = .ok (.aload_n 0, 1) := by decide +kernel
theorem dX2_copyFrom_33 : decode cX2_copyFrom 33 = .ok (.aload_n 1, 1) := by decide +kernel
theorem dX2_copyFrom_34 : decode cX2_copyFrom 34 = .ok (.getfield 36, 3) := by decide +kernel
theorem dX2_copyFrom_37 : decode cX2_copyFrom 37 = .ok (.putfield 36, 3) := by decide +kernel
theorem dX2_copyFrom_40 : decode cX2_copyFrom 40 = .ok (.aload_n 0, 1) := by decide +kernel
theorem dX2_copyFrom_41 : decode cX2_copyFrom 41 = .ok (.aload_n 1, 1) := by decide +kernel
theorem dX2_copyFrom_42 : decode cX2_copyFrom 42 = .ok (.getfield 40, 3) := by decide +kernel
theorem dX2_copyFrom_45 : decode cX2_copyFrom 45 = .ok (.putfield 40, 3) := by decide +kernel
theorem dX2_copyFrom_48 : decode cX2_copyFrom 48 = .ok (.aload_n 0, 1) := by decide +kernel
theorem dX2_copyFrom_49 : decode cX2_copyFrom 49 = .ok (.aload_n 1, 1) := by decide +kernel
theorem dX2_copyFrom_50 : decode cX2_copyFrom 50 = .ok (.getfield 58, 3) := by decide +kernel
theorem dX2_copyFrom_53 : decode cX2_copyFrom 53 = .ok (.putfield 58, 3) := by decide +kernel
theorem dX2_copyFrom_56 : decode cX2_copyFrom 56 = .ok (.iconst 0, 1) := by decide +kernel
theorem dX2_copyFrom_57 : decode cX2_copyFrom 57 = .ok (.istore_n 2, 1) := by decide +kernel
theorem dX2_copyFrom_58 : decode cX2_copyFrom 58 = .ok (.iload_n 2, 1) := by decide +kernel
theorem dX2_copyFrom_59 : decode cX2_copyFrom 59 = .ok (.aload_n 0, 1) := by decide +kernel
theorem dX2_copyFrom_60 : decode cX2_copyFrom 60 = .ok (.getfield 46, 3) := by decide +kernel
theorem dX2_copyFrom_63 : decode cX2_copyFrom 63 = .ok (.if_icmp .ge 24, 3) := by decide +kernel
theorem dX2_copyFrom_66 : decode cX2_copyFrom 66 = .ok (.aload_n 0, 1) := by decide +kernel
theorem dX2_copyFrom_67 : decode cX2_copyFrom 67 = .ok (.getfield 11, 3) := by decide +kernel
theorem dX2_copyFrom_70 : decode cX2_copyFrom 70 = .ok (.iload_n 2, 1) := by decide +kernel
theorem dX2_copyFrom_71 : decode cX2_copyFrom 71 = .ok (.aaload, 1) := by decide +kernel
theorem dX2_copyFrom_72 : decode cX2_copyFrom 72 = .ok (.aload_n 1, 1) := by decide +kernel
theorem dX2_copyFrom_73 : decode cX2_copyFrom 73 = .ok (.getfield 11, 3) := by decide +kernel
theorem dX2_copyFrom_76 : decode cX2_copyFrom 76 = .ok (.iload_n 2, 1) := by decide +kernel
theorem dX2_copyFrom_77 : decode cX2_copyFrom 77 = .ok (.aaload, 1) := by decide +kernel
theorem dX2_copyFrom_78 : decode cX2_copyFrom 78 = .ok (.invokevirtual 61, 3) := by decide +kernel
theorem dX2_copyFrom_81 : decode cX2_copyFrom 81 = .ok (.iinc 2 1, 3) := by decide +kernel
theorem dX2_copyFrom_84 : decode cX2_copyFrom 84 = .ok (.goto (-26), 3) := by decide +kernel
theorem dX2_copyFrom_87 : decode cX2_copyFrom 87 = .ok (.iconst 0, 1) := by decide +kernel
theorem dX2_copyFrom_88 : decode cX2_copyFrom 88 = .ok (.istore_n 2, 1) := by decide +kernel
theorem dX2_copyFrom_89 : decode cX2_copyFrom 89 = .ok (.iload_n 2, 1) := by decide +kernel
theorem dX2_copyFrom_90 : decode cX2_copyFrom 90 = .ok (.aload_n 0, 1) := by decide +kernel
theorem dX2_copyFrom_91 : decode cX2_copyFrom 91 = .ok (.getfield 49, 3) := by decide +kernel
theorem dX2_copyFrom_94 : decode cX2_copyFrom 94 = .ok (.if_icmp .ge 24, 3) := by decide +kernel
theorem dX2_copyFrom_97 : decode cX2_copyFrom 97 = .ok (.aload_n 0, 1) := by decide +kernel
theorem dX2_copyFrom_98 : decode cX2_copyFrom 98 = .ok (.getfield 19, 3) := by decide +kernel
theorem dX2_copyFrom_101 : decode cX2_copyFrom 101 = .ok (.iload_n 2, 1) := by decide +kernel
theorem dX2_copyFrom_102 : decode cX2_copyFrom 102 = .ok (.aaload, 1) := by decide +kernel
theorem dX2_copyFrom_103 : decode cX2_copyFrom 103 = .ok (.aload_n 1, 1) := by decide +kernel
theorem dX2_copyFrom_104 : decode cX2_copyFrom 104 = .ok (.getfield 19, 3) := by decide +kernel
theorem dX2_copyFrom_107 : decode cX2_copyFrom 107 = .ok (.iload_n 2, 1) := by decide +kernel
theorem dX2_copyFrom_108 : decode cX2_copyFrom 108 = .ok (.aaload, 1) := by decide +kernel
theorem dX2_copyFrom_109 : decode cX2_copyFrom 109 = .ok (.invokevirtual 65, 3) := by decide +kernel
theorem dX2_copyFrom_112 : decode cX2_copyFrom 112 = .ok (.iinc 2 1, 3) := by decide +kernel
theorem dX2_copyFrom_115 : decode cX2_copyFrom 115 = .ok (.goto (-26), 3) := by decide +kernel
theorem dX2_copyFrom_118 : decode cX2_copyFrom 118 = .ok (.iconst 0, 1) := by decide +kernel
theorem dX2_copyFrom_119 : decode cX2_copyFrom 119 = .ok (.istore_n 2, 1) := by decide +kernel
theorem dX2_copyFrom_120 : decode cX2_copyFrom 120 = .ok (.iload_n 2, 1) := by decide +kernel
theorem dX2_copyFrom_121 : decode cX2_copyFrom 121 = .ok (.aload_n 0, 1) := by decide +kernel
theorem dX2_copyFrom_122 : decode cX2_copyFrom 122 = .ok (.getfield 52, 3) := by decide +kernel
theorem dX2_copyFrom_125 : decode cX2_copyFrom 125 = .ok (.if_icmp .ge 24, 3) := by decide +kernel
theorem dX2_copyFrom_128 : decode cX2_copyFrom 128 = .ok (.aload_n 0, 1) := by decide +kernel
theorem dX2_copyFrom_129 : decode cX2_copyFrom 129 = .ok (.getfield 25, 3) := by decide +kernel
theorem dX2_copyFrom_132 : decode cX2_copyFrom 132 = .ok (.iload_n 2, 1) := by decide +kernel
theorem dX2_copyFrom_133 : decode cX2_copyFrom 133 = .ok (.aaload, 1) := by decide +kernel
theorem dX2_copyFrom_134 : decode cX2_copyFrom 134 = .ok (.aload_n 1, 1) := by decide +kernel
theorem dX2_copyFrom_135 : decode cX2_copyFrom 135 = .ok (.getfield 25, 3) := by decide +kernel
theorem dX2_copyFrom_138 : decode cX2_copyFrom 138 = .ok (.iload_n 2, 1) := by decide +kernel
theorem dX2_copyFrom_139 : decode cX2_copyFrom 139 = .ok (.aaload, 1) := by decide +kernel
theorem dX2_copyFrom_140 : decode cX2_copyFrom 140 = .ok (.invokevirtual 68, 3) := by decide +kernel
theorem dX2_copyFrom_143 : decode cX2_copyFrom 143 = .ok (.iinc 2 1, 3) := by decide +kernel
theorem dX2_copyFrom_146 : decode cX2_copyFrom 146 = .ok (.goto (-26), 3) := by decide +kernel
theorem dX2_copyFrom_149 : decode cX2_copyFrom 149 = .ok (.aload_n 0, 1) := by decide +kernel
theorem dX2_copyFrom_150 : decode cX2_copyFrom 150 = .ok (.getfield 32, 3) := by decide +kernel
theorem dX2_copyFrom_153 : decode cX2_copyFrom 153 = .ok (.aload_n 1, 1) := by decide +kernel
theorem dX2_copyFrom_154 : decode cX2_copyFrom 154 = .ok (.getfield 32, 3) := by decide +kernel
theorem dX2_copyFrom_157 : decode cX2_copyFrom 157 = .ok (.invokevirtual 71, 3) := by decide +kernel
theorem dX2_copyFrom_160 : decode cX2_copyFrom 160 = .ok (.return_, 1) := by decide +kernel
theorem dX2_isBooth_0 : decode cX2_isBooth 0 = .ok (.iload_n 1, 1) := by decide +kernel
theorem dX2_isBooth_1 : decode cX2_isBooth 1 = .ok (.ifCond .lt 15, 3) := by decide +kernel
theorem dX2_isBooth_4 : decode cX2_isBooth 4 = .ok (.iload_n 1, 1) := by decide +kernel
theorem dX2_isBooth_5 : decode cX2_isBooth 5 = .ok (.aload_n 0, 1) := by decide +kernel
theorem dX2_isBooth_6 : decode cX2_isBooth 6 = .ok (.getfield 46, 3) := by decide +kernel
theorem dX2_isBooth_9 : decode cX2_isBooth 9 = .ok (.if_icmp .ge 7, 3) := by decide +kernel
theorem dX2_isBooth_12 : decode cX2_isBooth 12 = .ok (.iconst 1, 1) := by decide +kernel
theorem dX2_isBooth_13 : decode cX2_isBooth 13 = .ok (.goto 4, 3) := by decide +kernel
theorem dX2_isBooth_16 : decode cX2_isBooth 16 = .ok (.iconst 0, 1) := by decide +kernel
theorem dX2_isBooth_17 : decode cX2_isBooth 17 = .ok (.ireturn, 1) := by decide +kernel
theorem dX2_isHelper_0 : decode cX2_isHelper 0 = .ok (.iload_n 1, 1) := by decide +kernel
theorem dX2_isHelper_1 : decode cX2_isHelper 1 = .ok (.ifCond .lt 15, 3) := by decide +kernel
theorem dX2_isHelper_4 : decode cX2_isHelper 4 = .ok (.iload_n 1, 1) := by decide +kernel
theorem dX2_isHelper_5 : decode cX2_isHelper 5 = .ok (.aload_n 0, 1) := by decide +kernel
theorem dX2_isHelper_6 : decode cX2_isHelper 6 = .ok (.getfield 49, 3) := by decide +kernel
theorem dX2_isHelper_9 : decode cX2_isHelper 9 = .ok (.if_icmp .ge 7, 3) := by decide +kernel
theorem dX2_isHelper_12 : decode cX2_isHelper 12 = .ok (.iconst 1, 1) := by decide +kernel
theorem dX2_isHelper_13 : decode cX2_isHelper 13 = .ok (.goto 4, 3) := by decide +kernel
theorem dX2_isHelper_16 : decode cX2_isHelper 16 = .ok (.iconst 0, 1) := by decide +kernel
theorem dX2_isHelper_17 : decode cX2_isHelper 17 = .ok (.ireturn, 1) := by decide +kernel
theorem dX2_isVisitor_0 : decode cX2_isVisitor 0 = .ok (.iload_n 1, 1) := by decide +kernel
theorem dX2_isVisitor_1 : decode cX2_isVisitor 1 = .ok (.ifCond .lt 15, 3) := by decide +kernel
theorem dX2_isVisitor_4 : decode cX2_isVisitor 4 = .ok (.iload_n 1, 1) := by decide +kernel
theorem dX2_isVisitor_5 : decode cX2_isVisitor 5 = .ok (.aload_n 0, 1) := by decide +kernel
theorem dX2_isVisitor_6 : decode cX2_isVisitor 6 = .ok (.getfield 52, 3) := by decide +kernel
theorem dX2_isVisitor_9 : decode cX2_isVisitor 9 = .ok (.if_icmp .ge 7, 3) := by decide +kernel
theorem dX2_isVisitor_12 : decode cX2_isVisitor 12 = .ok (.iconst 1, 1) := by decide +kernel
theorem dX2_isVisitor_13 : decode cX2_isVisitor 13 = .ok (.goto 4, 3) := by decide +kernel
theorem dX2_isVisitor_16 : decode cX2_isVisitor 16 = .ok (.iconst 0, 1) := by decide +kernel
theorem dX2_isVisitor_17 : decode cX2_isVisitor 17 = .ok (.ireturn, 1) := by decide +kernel
theorem dX2_setUpBooth_0 : decode cX2_setUpBooth 0 = .ok (.aload_n 0, 1) := by decide +kernel
theorem dX2_setUpBooth_1 : decode cX2_setUpBooth 1 = .ok (.getfield 46, 3) := by decide +kernel
theorem dX2_setUpBooth_4 : decode cX2_setUpBooth 4 = .ok (.bipush 8, 2) := by decide +kernel
theorem dX2_setUpBooth_6 : decode cX2_setUpBooth 6 = .ok (.if_icmp .lt 5, 3) := by decide +kernel
theorem dX2_setUpBooth_9 : decode cX2_setUpBooth 9 = .ok (.iconst (-1), 1) := by decide +kernel
theorem dX2_setUpBooth_10 : decode cX2_setUpBooth 10 = .ok (.ireturn, 1) := by decide +kernel
theorem dX2_setUpBooth_11 : decode cX2_setUpBooth 11 = .ok (.aload_n 0, 1) := by decide +kernel
theorem dX2_setUpBooth_12 : decode cX2_setUpBooth 12 = .ok (.getfield 11, 3) := by decide +kernel
theorem dX2_setUpBooth_15 : decode cX2_setUpBooth 15 = .ok (.aload_n 0, 1) := by decide +kernel
theorem dX2_setUpBooth_16 : decode cX2_setUpBooth 16 = .ok (.getfield 46, 3) := by decide +kernel
theorem dX2_setUpBooth_19 : decode cX2_setUpBooth 19 = .ok (.aaload, 1) := by decide +kernel
theorem dX2_setUpBooth_20 : decode cX2_setUpBooth 20 = .ok (.iload_n 1, 1) := by decide +kernel
theorem dX2_setUpBooth_21 : decode cX2_setUpBooth 21 = .ok (.iload_n 2, 1) := by decide +kernel
theorem dX2_setUpBooth_22 : decode cX2_setUpBooth 22 = .ok (.iload_n 3, 1) := by decide +kernel
theorem dX2_setUpBooth_23 : decode cX2_setUpBooth 23 = .ok (.iload 4, 2) := by decide +kernel
theorem dX2_setUpBooth_25 : decode cX2_setUpBooth 25 = .ok (.invokevirtual 74, 3) := by decide +kernel
theorem dX2_setUpBooth_28 : decode cX2_setUpBooth 28 = .ok (.aload_n 0, 1) := by decide +kernel
theorem dX2_setUpBooth_29 : decode cX2_setUpBooth 29 = .ok (.dup, 1) := by decide +kernel
theorem dX2_setUpBooth_30 : decode cX2_setUpBooth 30 = .ok (.getfield 46, 3) := by decide +kernel
theorem dX2_setUpBooth_33 : decode cX2_setUpBooth 33 = .ok (.iconst 1, 1) := by decide +kernel
theorem dX2_setUpBooth_34 : decode cX2_setUpBooth 34 = .ok (.iadd, 1) := by decide +kernel
theorem dX2_setUpBooth_35 : decode cX2_setUpBooth 35 = .ok (.putfield 46, 3) := by decide +kernel
theorem dX2_setUpBooth_38 : decode cX2_setUpBooth 38 = .ok (.aload_n 0, 1) := by decide +kernel
theorem dX2_setUpBooth_39 : decode cX2_setUpBooth 39 = .ok (.getfield 46, 3) := by decide +kernel
theorem dX2_setUpBooth_42 : decode cX2_setUpBooth 42 = .ok (.iconst 1, 1) := by decide +kernel
theorem dX2_setUpBooth_43 : decode cX2_setUpBooth 43 = .ok (.isub, 1) := by decide +kernel
theorem dX2_setUpBooth_44 : decode cX2_setUpBooth 44 = .ok (.ireturn, 1) := by decide +kernel
theorem dX2_takeOnHelper_0 : decode cX2_takeOnHelper 0 = .ok (.aload_n 0, 1) := by decide +kernel
theorem dX2_takeOnHelper_1 : decode cX2_takeOnHelper 1 = .ok (.getfield 49, 3) := by decide +kernel
theorem dX2_takeOnHelper_4 : decode cX2_takeOnHelper 4 = .ok (.bipush 12, 2) := by decide +kernel
theorem dX2_takeOnHelper_6 : decode cX2_takeOnHelper 6 = .ok (.if_icmp .lt 5, 3) := by decide +kernel
theorem dX2_takeOnHelper_9 : decode cX2_takeOnHelper 9 = .ok (.iconst (-1), 1) := by decide +kernel
theorem dX2_takeOnHelper_10 : decode cX2_takeOnHelper 10 = .ok (.ireturn, 1) := by decide +kernel
theorem dX2_takeOnHelper_11 : decode cX2_takeOnHelper 11 = .ok (.aload_n 0, 1) := by decide +kernel
theorem dX2_takeOnHelper_12 : decode cX2_takeOnHelper 12 = .ok (.getfield 19, 3) := by decide +kernel
theorem dX2_takeOnHelper_15 : decode cX2_takeOnHelper 15 = .ok (.aload_n 0, 1) := by decide +kernel
theorem dX2_takeOnHelper_16 : decode cX2_takeOnHelper 16 = .ok (.getfield 49, 3) := by decide +kernel
theorem dX2_takeOnHelper_19 : decode cX2_takeOnHelper 19 = .ok (.aaload, 1) := by decide +kernel
theorem dX2_takeOnHelper_20 : decode cX2_takeOnHelper 20 = .ok (.invokevirtual 78, 3) := by decide +kernel
theorem dX2_takeOnHelper_23 : decode cX2_takeOnHelper 23 = .ok (.aload_n 0, 1) := by decide +kernel
theorem dX2_takeOnHelper_24 : decode cX2_takeOnHelper 24 = .ok (.dup, 1) := by decide +kernel
theorem dX2_takeOnHelper_25 : decode cX2_takeOnHelper 25 = .ok (.getfield 49, 3) := by decide +kernel
theorem dX2_takeOnHelper_28 : decode cX2_takeOnHelper 28 = .ok (.iconst 1, 1) := by decide +kernel
theorem dX2_takeOnHelper_29 : decode cX2_takeOnHelper 29 = .ok (.iadd, 1) := by decide +kernel
theorem dX2_takeOnHelper_30 : decode cX2_takeOnHelper 30 = .ok (.putfield 49, 3) := by decide +kernel
theorem dX2_takeOnHelper_33 : decode cX2_takeOnHelper 33 = .ok (.aload_n 0, 1) := by decide +kernel
theorem dX2_takeOnHelper_34 : decode cX2_takeOnHelper 34 = .ok (.getfield 49, 3) := by decide +kernel
theorem dX2_takeOnHelper_37 : decode cX2_takeOnHelper 37 = .ok (.iconst 1, 1) := by decide +kernel
theorem dX2_takeOnHelper_38 : decode cX2_takeOnHelper 38 = .ok (.isub, 1) := by decide +kernel
theorem dX2_takeOnHelper_39 : decode cX2_takeOnHelper 39 = .ok (.ireturn, 1) := by decide +kernel
theorem dX2_letIn_0 : decode cX2_letIn 0 = .ok (.aload_n 0, 1) := by decide +kernel
theorem dX2_letIn_1 : decode cX2_letIn 1 = .ok (.getfield 52, 3) := by decide +kernel
theorem dX2_letIn_4 : decode cX2_letIn 4 = .ok (.bipush 16, 2) := by decide +kernel
theorem dX2_letIn_6 : decode cX2_letIn 6 = .ok (.if_icmp .lt 5, 3) := by decide +kernel
theorem dX2_letIn_9 : decode cX2_letIn 9 = .ok (.iconst (-1), 1) := by decide +kernel
theorem dX2_letIn_10 : decode cX2_letIn 10 = .ok (.ireturn, 1) := by decide +kernel
theorem dX2_letIn_11 : decode cX2_letIn 11 = .ok (.aload_n 0, 1) := by decide +kernel
theorem dX2_letIn_12 : decode cX2_letIn 12 = .ok (.getfield 25, 3) := by decide +kernel
theorem dX2_letIn_15 : decode cX2_letIn 15 = .ok (.aload_n 0, 1) := by decide +kernel
theorem dX2_letIn_16 : decode cX2_letIn 16 = .ok (.getfield 52, 3) := by decide +kernel
theorem dX2_letIn_19 : decode cX2_letIn 19 = .ok (.aaload, 1) := by decide +kernel
theorem dX2_letIn_20 : decode cX2_letIn 20 = .ok (.iload_n 1, 1) := by decide +kernel
theorem dX2_letIn_21 : decode cX2_letIn 21 = .ok (.iload_n 2, 1) := by decide +kernel
theorem dX2_letIn_22 : decode cX2_letIn 22 = .ok (.invokevirtual 80, 3) := by decide +kernel
theorem dX2_letIn_25 : decode cX2_letIn 25 = .ok (.aload_n 0, 1) := by decide +kernel
theorem dX2_letIn_26 : decode cX2_letIn 26 = .ok (.dup, 1) := by decide +kernel
theorem dX2_letIn_27 : decode cX2_letIn 27 = .ok (.getfield 52, 3) := by decide +kernel
theorem dX2_letIn_30 : decode cX2_letIn 30 = .ok (.iconst 1, 1) := by decide +kernel
theorem dX2_letIn_31 : decode cX2_letIn 31 = .ok (.iadd, 1) := by decide +kernel
theorem dX2_letIn_32 : decode cX2_letIn 32 = .ok (.putfield 52, 3) := by decide +kernel
theorem dX2_letIn_35 : decode cX2_letIn 35 = .ok (.aload_n 0, 1) := by decide +kernel
theorem dX2_letIn_36 : decode cX2_letIn 36 = .ok (.getfield 52, 3) := by decide +kernel
theorem dX2_letIn_39 : decode cX2_letIn 39 = .ok (.iconst 1, 1) := by decide +kernel
theorem dX2_letIn_40 : decode cX2_letIn 40 = .ok (.isub, 1) := by decide +kernel
theorem dX2_letIn_41 : decode cX2_letIn 41 = .ok (.ireturn, 1) := by decide +kernel
theorem dX2_send_0 : decode cX2_send 0 = .ok (.aload_n 0, 1) := by decide +kernel
theorem dX2_send_1 : decode cX2_send 1 = .ok (.iload_n 1, 1) := by decide +kernel
theorem dX2_send_2 : decode cX2_send 2 = .ok (.invokevirtual 83, 3) := by decide +kernel
theorem dX2_send_5 : decode cX2_send 5 = .ok (.ifCond .ne 4, 3) := by decide +kernel
theorem dX2_send_8 : decode cX2_send 8 = .ok (.return_, 1) := by decide +kernel
theorem dX2_send_9 : decode cX2_send 9 = .ok (.aload_n 0, 1) := by decide +kernel
theorem dX2_send_10 : decode cX2_send 10 = .ok (.getfield 19, 3) := by decide +kernel
theorem dX2_send_13 : decode cX2_send 13 = .ok (.iload_n 1, 1) := by decide +kernel
theorem dX2_send_14 : decode cX2_send 14 = .ok (.aaload, 1) := by decide +kernel
theorem dX2_send_15 : decode cX2_send 15 = .ok (.astore_n 3, 1) := by decide +kernel
theorem dX2_send_16 : decode cX2_send 16 = .ok (.aload_n 0, 1) := by decide +kernel
theorem dX2_send_17 : decode cX2_send 17 = .ok (.aload_n 3, 1) := by decide +kernel
theorem dX2_send_18 : decode cX2_send 18 = .ok (.getfield 87, 3) := by decide +kernel
theorem dX2_send_21 : decode cX2_send 21 = .ok (.invokevirtual 90, 3) := by decide +kernel
theorem dX2_send_24 : decode cX2_send 24 = .ok (.ifCond .eq 21, 3) := by decide +kernel
theorem dX2_send_27 : decode cX2_send 27 = .ok (.aload_n 0, 1) := by decide +kernel
theorem dX2_send_28 : decode cX2_send 28 = .ok (.getfield 11, 3) := by decide +kernel
theorem dX2_send_31 : decode cX2_send 31 = .ok (.aload_n 3, 1) := by decide +kernel
theorem dX2_send_32 : decode cX2_send 32 = .ok (.getfield 87, 3) := by decide +kernel
theorem dX2_send_35 : decode cX2_send 35 = .ok (.aaload, 1) := by decide +kernel
theorem dX2_send_36 : decode cX2_send 36 = .ok (.dup, 1) := by decide +kernel
theorem dX2_send_37 : decode cX2_send 37 = .ok (.getfield 93, 3) := by decide +kernel
theorem dX2_send_40 : decode cX2_send 40 = .ok (.iconst 1, 1) := by decide +kernel
theorem dX2_send_41 : decode cX2_send 41 = .ok (.isub, 1) := by decide +kernel
theorem dX2_send_42 : decode cX2_send 42 = .ok (.putfield 93, 3) := by decide +kernel
theorem dX2_send_45 : decode cX2_send 45 = .ok (.aload_n 3, 1) := by decide +kernel
theorem dX2_send_46 : decode cX2_send 46 = .ok (.aload_n 0, 1) := by decide +kernel
theorem dX2_send_47 : decode cX2_send 47 = .ok (.iload_n 2, 1) := by decide +kernel
theorem dX2_send_48 : decode cX2_send 48 = .ok (.invokevirtual 90, 3) := by decide +kernel
theorem dX2_send_51 : decode cX2_send 51 = .ok (.ifCond .eq 7, 3) := by decide +kernel
theorem dX2_send_54 : decode cX2_send 54 = .ok (.iload_n 2, 1) := by decide +kernel
theorem dX2_send_55 : decode cX2_send 55 = .ok (.goto 4, 3) := by decide +kernel
theorem dX2_send_58 : decode cX2_send 58 = .ok (.iconst (-1), 1) := by decide +kernel
theorem dX2_send_59 : decode cX2_send 59 = .ok (.putfield 87, 3) := by decide +kernel
theorem dX2_send_62 : decode cX2_send 62 = .ok (.aload_n 0, 1) := by decide +kernel
theorem dX2_send_63 : decode cX2_send 63 = .ok (.aload_n 3, 1) := by decide +kernel
theorem dX2_send_64 : decode cX2_send 64 = .ok (.getfield 87, 3) := by decide +kernel
theorem dX2_send_67 : decode cX2_send 67 = .ok (.invokevirtual 90, 3) := by decide +kernel
theorem dX2_send_70 : decode cX2_send 70 = .ok (.ifCond .eq 21, 3) := by decide +kernel
theorem dX2_send_73 : decode cX2_send 73 = .ok (.aload_n 0, 1) := by decide +kernel
theorem dX2_send_74 : decode cX2_send 74 = .ok (.getfield 11, 3) := by decide +kernel
theorem dX2_send_77 : decode cX2_send 77 = .ok (.aload_n 3, 1) := by decide +kernel
theorem dX2_send_78 : decode cX2_send 78 = .ok (.getfield 87, 3) := by decide +kernel
theorem dX2_send_81 : decode cX2_send 81 = .ok (.aaload, 1) := by decide +kernel
theorem dX2_send_82 : decode cX2_send 82 = .ok (.dup, 1) := by decide +kernel
theorem dX2_send_83 : decode cX2_send 83 = .ok (.getfield 93, 3) := by decide +kernel
theorem dX2_send_86 : decode cX2_send 86 = .ok (.iconst 1, 1) := by decide +kernel
theorem dX2_send_87 : decode cX2_send 87 = .ok (.iadd, 1) := by decide +kernel
theorem dX2_send_88 : decode cX2_send 88 = .ok (.putfield 93, 3) := by decide +kernel
theorem dX2_send_91 : decode cX2_send 91 = .ok (.return_, 1) := by decide +kernel
theorem dX2_takeFromQueue_0 : decode cX2_takeFromQueue 0 = .ok (.aload_n 0, 1) := by decide +kernel
theorem dX2_takeFromQueue_1 : decode cX2_takeFromQueue 1 = .ok (.iload_n 1, 1) := by decide +kernel
theorem dX2_takeFromQueue_2 : decode cX2_takeFromQueue 2 = .ok (.invokevirtual 96, 3) := by decide +kernel
theorem dX2_takeFromQueue_5 : decode cX2_takeFromQueue 5 = .ok (.ifCond .ne 5, 3) := by decide +kernel
theorem dX2_takeFromQueue_8 : decode cX2_takeFromQueue 8 = .ok (.iconst (-1), 1) := by decide +kernel
theorem dX2_takeFromQueue_9 : decode cX2_takeFromQueue 9 = .ok (.ireturn, 1) := by decide +kernel
theorem dX2_takeFromQueue_10 : decode cX2_takeFromQueue 10 = .ok (.aload_n 0, 1) := by decide +kernel
theorem dX2_takeFromQueue_11 : decode cX2_takeFromQueue 11 = .ok (.getfield 25, 3) := by decide +kernel
theorem dX2_takeFromQueue_14 : decode cX2_takeFromQueue 14 = .ok (.iload_n 1, 1) := by decide +kernel
theorem dX2_takeFromQueue_15 : decode cX2_takeFromQueue 15 = .ok (.aaload, 1) := by decide +kernel
theorem dX2_takeFromQueue_16 : decode cX2_takeFromQueue 16 = .ok (.astore_n 2, 1) := by decide +kernel
theorem dX2_takeFromQueue_17 : decode cX2_takeFromQueue 17 = .ok (.aload_n 2, 1) := by decide +kernel
theorem dX2_takeFromQueue_18 : decode cX2_takeFromQueue 18 = .ok (.getfield 99, 3) := by decide +kernel
theorem dX2_takeFromQueue_21 : decode cX2_takeFromQueue 21 = .ok (.istore_n 3, 1) := by decide +kernel
theorem dX2_takeFromQueue_22 : decode cX2_takeFromQueue 22 = .ok (.aload_n 0, 1) := by decide +kernel
theorem dX2_takeFromQueue_23 : decode cX2_takeFromQueue 23 = .ok (.iload_n 3, 1) := by decide +kernel
theorem dX2_takeFromQueue_24 : decode cX2_takeFromQueue 24 = .ok (.invokevirtual 90, 3) := by decide +kernel
theorem dX2_takeFromQueue_27 : decode cX2_takeFromQueue 27 = .ok (.ifCond .eq 13, 3) := by decide +kernel
theorem dX2_takeFromQueue_30 : decode cX2_takeFromQueue 30 = .ok (.aload_n 0, 1) := by decide +kernel
theorem dX2_takeFromQueue_31 : decode cX2_takeFromQueue 31 = .ok (.getfield 11, 3) := by decide +kernel
theorem dX2_takeFromQueue_34 : decode cX2_takeFromQueue 34 = .ok (.iload_n 3, 1) := by decide +kernel
theorem dX2_takeFromQueue_35 : decode cX2_takeFromQueue 35 = .ok (.aaload, 1) := by decide +kernel
theorem dX2_takeFromQueue_36 : decode cX2_takeFromQueue 36 = .ok (.iload_n 1, 1) := by decide +kernel
theorem dX2_takeFromQueue_37 : decode cX2_takeFromQueue 37 = .ok (.invokevirtual 100, 3) := by decide +kernel
theorem dX2_takeFromQueue_40 : decode cX2_takeFromQueue 40 = .ok (.aload_n 2, 1) := by decide +kernel
theorem dX2_takeFromQueue_41 : decode cX2_takeFromQueue 41 = .ok (.iconst (-1), 1) := by decide +kernel
theorem dX2_takeFromQueue_42 : decode cX2_takeFromQueue 42 = .ok (.putfield 99, 3) := by decide +kernel
theorem dX2_takeFromQueue_45 : decode cX2_takeFromQueue 45 = .ok (.iload_n 3, 1) := by decide +kernel
theorem dX2_takeFromQueue_46 : decode cX2_takeFromQueue 46 = .ok (.ireturn, 1) := by decide +kernel
theorem dX2_costNow_0 : decode cX2_costNow 0 = .ok (.iload_n 1, 1) := by decide +kernel
theorem dX2_costNow_1 : decode cX2_costNow 1 = .ok (.aload_n 0, 1) := by decide +kernel
theorem dX2_costNow_2 : decode cX2_costNow 2 = .ok (.getfield 40, 3) := by decide +kernel
theorem dX2_costNow_5 : decode cX2_costNow 5 = .ok (.if_icmp .ne 17, 3) := by decide +kernel
theorem dX2_costNow_8 : decode cX2_costNow 8 = .ok (.aload_n 0, 1) := by decide +kernel
theorem dX2_costNow_9 : decode cX2_costNow 9 = .ok (.getfield 11, 3) := by decide +kernel
theorem dX2_costNow_12 : decode cX2_costNow 12 = .ok (.iload_n 1, 1) := by decide +kernel
theorem dX2_costNow_13 : decode cX2_costNow 13 = .ok (.aaload, 1) := by decide +kernel
theorem dX2_costNow_14 : decode cX2_costNow 14 = .ok (.getfield 104, 3) := by decide +kernel
theorem dX2_costNow_17 : decode cX2_costNow 17 = .ok (.iconst 1, 1) := by decide +kernel
theorem dX2_costNow_18 : decode cX2_costNow 18 = .ok (.isub, 1) := by decide +kernel
theorem dX2_costNow_19 : decode cX2_costNow 19 = .ok (.goto 12, 3) := by decide +kernel
theorem dX2_costNow_22 : decode cX2_costNow 22 = .ok (.aload_n 0, 1) := by decide +kernel
theorem dX2_costNow_23 : decode cX2_costNow 23 = .ok (.getfield 11, 3) := by decide +kernel
theorem dX2_costNow_26 : decode cX2_costNow 26 = .ok (.iload_n 1, 1) := by decide +kernel
theorem dX2_costNow_27 : decode cX2_costNow 27 = .ok (.aaload, 1) := by decide +kernel
theorem dX2_costNow_28 : decode cX2_costNow 28 = .ok (.getfield 104, 3) := by decide +kernel
theorem dX2_costNow_31 : decode cX2_costNow 31 = .ok (.ireturn, 1) := by decide +kernel
theorem dX2_goOn_0 : decode cX2_goOn 0 = .ok (.aload_n 0, 1) := by decide +kernel
theorem dX2_goOn_1 : decode cX2_goOn 1 = .ok (.getfield 58, 3) := by decide +kernel
theorem dX2_goOn_4 : decode cX2_goOn 4 = .ok (.istore_n 2, 1) := by decide +kernel
theorem dX2_goOn_5 : decode cX2_goOn 5 = .ok (.iconst 0, 1) := by decide +kernel
theorem dX2_goOn_6 : decode cX2_goOn 6 = .ok (.istore_n 3, 1) := by decide +kernel
theorem dX2_goOn_7 : decode cX2_goOn 7 = .ok (.iload_n 3, 1) := by decide +kernel
theorem dX2_goOn_8 : decode cX2_goOn 8 = .ok (.iload_n 1, 1) := by decide +kernel
theorem dX2_goOn_9 : decode cX2_goOn 9 = .ok (.if_icmp .ge 13, 3) := by decide +kernel
theorem dX2_goOn_12 : decode cX2_goOn 12 = .ok (.aload_n 0, 1) := by decide +kernel
theorem dX2_goOn_13 : decode cX2_goOn 13 = .ok (.invokevirtual 107, 3) := by decide +kernel
theorem dX2_goOn_16 : decode cX2_goOn 16 = .ok (.iinc 3 1, 3) := by decide +kernel
theorem dX2_goOn_19 : decode cX2_goOn 19 = .ok (.goto (-12), 3) := by decide +kernel
theorem dX2_goOn_22 : decode cX2_goOn 22 = .ok (.aload_n 0, 1) := by decide +kernel
theorem dX2_goOn_23 : decode cX2_goOn 23 = .ok (.getfield 58, 3) := by decide +kernel
theorem dX2_goOn_26 : decode cX2_goOn 26 = .ok (.iload_n 2, 1) := by decide +kernel
theorem dX2_goOn_27 : decode cX2_goOn 27 = .ok (.isub, 1) := by decide +kernel
theorem dX2_goOn_28 : decode cX2_goOn 28 = .ok (.ireturn, 1) := by decide +kernel
theorem dX2_playRound_0 : decode cX2_playRound 0 = .ok (.aload_n 0, 1) := by decide +kernel
theorem dX2_playRound_1 : decode cX2_playRound 1 = .ok (.getfield 55, 3) := by decide +kernel
theorem dX2_playRound_4 : decode cX2_playRound 4 = .ok (.bipush 12, 2) := by decide +kernel
theorem dX2_playRound_6 : decode cX2_playRound 6 = .ok (.irem, 1) := by decide +kernel
theorem dX2_playRound_7 : decode cX2_playRound 7 = .ok (.ifCond .ne 7, 3) := by decide +kernel
theorem dX2_playRound_10 : decode cX2_playRound 10 = .ok (.aload_n 0, 1) := by decide +kernel
theorem dX2_playRound_11 : decode cX2_playRound 11 = .ok (.invokevirtual 110, 3) := by decide +kernel
theorem dX2_playRound_14 : decode cX2_playRound 14 = .ok (.iconst 0, 1) := by decide +kernel
theorem dX2_playRound_15 : decode cX2_playRound 15 = .ok (.istore_n 1, 1) := by decide +kernel
theorem dX2_playRound_16 : decode cX2_playRound 16 = .ok (.iload_n 1, 1) := by decide +kernel
theorem dX2_playRound_17 : decode cX2_playRound 17 = .ok (.aload_n 0, 1) := by decide +kernel
theorem dX2_playRound_18 : decode cX2_playRound 18 = .ok (.getfield 52, 3) := by decide +kernel
theorem dX2_playRound_21 : decode cX2_playRound 21 = .ok (.if_icmp .ge 26, 3) := by decide +kernel
theorem dX2_playRound_24 : decode cX2_playRound 24 = .ok (.aload_n 0, 1) := by decide +kernel
theorem dX2_playRound_25 : decode cX2_playRound 25 = .ok (.getfield 25, 3) := by decide +kernel
theorem dX2_playRound_28 : decode cX2_playRound 28 = .ok (.iload_n 1, 1) := by decide +kernel
theorem dX2_playRound_29 : decode cX2_playRound 29 = .ok (.aaload, 1) := by decide +kernel
theorem dX2_playRound_30 : decode cX2_playRound 30 = .ok (.invokevirtual 113, 3) := by decide +kernel
theorem dX2_playRound_33 : decode cX2_playRound 33 = .ok (.ifCond .eq 8, 3) := by decide +kernel
theorem dX2_playRound_36 : decode cX2_playRound 36 = .ok (.aload_n 0, 1) := by decide +kernel
theorem dX2_playRound_37 : decode cX2_playRound 37 = .ok (.iload_n 1, 1) := by decide +kernel
theorem dX2_playRound_38 : decode cX2_playRound 38 = .ok (.invokevirtual 117, 3) := by decide +kernel
theorem dX2_playRound_41 : decode cX2_playRound 41 = .ok (.iinc 1 1, 3) := by decide +kernel
theorem dX2_playRound_44 : decode cX2_playRound 44 = .ok (.goto (-28), 3) := by decide +kernel
theorem dX2_playRound_47 : decode cX2_playRound 47 = .ok (.iconst 0, 1) := by decide +kernel
theorem dX2_playRound_48 : decode cX2_playRound 48 = .ok (.istore_n 1, 1) := by decide +kernel
theorem dX2_playRound_49 : decode cX2_playRound 49 = .ok (.iload_n 1, 1) := by decide +kernel
theorem dX2_playRound_50 : decode cX2_playRound 50 = .ok (.aload_n 0, 1) := by decide +kernel
theorem dX2_playRound_51 : decode cX2_playRound 51 = .ok (.getfield 46, 3) := by decide +kernel
theorem dX2_playRound_54 : decode cX2_playRound 54 = .ok (.if_icmp .ge 26, 3) := by decide +kernel
theorem dX2_playRound_57 : decode cX2_playRound 57 = .ok (.aload_n 0, 1) := by decide +kernel
theorem dX2_playRound_58 : decode cX2_playRound 58 = .ok (.getfield 11, 3) := by decide +kernel
theorem dX2_playRound_61 : decode cX2_playRound 61 = .ok (.iload_n 1, 1) := by decide +kernel
theorem dX2_playRound_62 : decode cX2_playRound 62 = .ok (.aaload, 1) := by decide +kernel
theorem dX2_playRound_63 : decode cX2_playRound 63 = .ok (.invokevirtual 120, 3) := by decide +kernel
theorem dX2_playRound_66 : decode cX2_playRound 66 = .ok (.ifCond .eq 8, 3) := by decide +kernel
theorem dX2_playRound_69 : decode cX2_playRound 69 = .ok (.aload_n 0, 1) := by decide +kernel
theorem dX2_playRound_70 : decode cX2_playRound 70 = .ok (.iload_n 1, 1) := by decide +kernel
theorem dX2_playRound_71 : decode cX2_playRound 71 = .ok (.invokevirtual 123, 3) := by decide +kernel
theorem dX2_playRound_74 : decode cX2_playRound 74 = .ok (.iinc 1 1, 3) := by decide +kernel
theorem dX2_playRound_77 : decode cX2_playRound 77 = .ok (.goto (-28), 3) := by decide +kernel
theorem dX2_playRound_80 : decode cX2_playRound 80 = .ok (.iconst 0, 1) := by decide +kernel
theorem dX2_playRound_81 : decode cX2_playRound 81 = .ok (.istore_n 1, 1) := by decide +kernel
theorem dX2_playRound_82 : decode cX2_playRound 82 = .ok (.iload_n 1, 1) := by decide +kernel
theorem dX2_playRound_83 : decode cX2_playRound 83 = .ok (.aload_n 0, 1) := by decide +kernel
theorem dX2_playRound_84 : decode cX2_playRound 84 = .ok (.getfield 49, 3) := by decide +kernel
theorem dX2_playRound_87 : decode cX2_playRound 87 = .ok (.if_icmp .ge 14, 3) := by decide +kernel
theorem dX2_playRound_90 : decode cX2_playRound 90 = .ok (.aload_n 0, 1) := by decide +kernel
theorem dX2_playRound_91 : decode cX2_playRound 91 = .ok (.iload_n 1, 1) := by decide +kernel
theorem dX2_playRound_92 : decode cX2_playRound 92 = .ok (.invokevirtual 126, 3) := by decide +kernel
theorem dX2_playRound_95 : decode cX2_playRound 95 = .ok (.iinc 1 1, 3) := by decide +kernel
theorem dX2_playRound_98 : decode cX2_playRound 98 = .ok (.goto (-16), 3) := by decide +kernel
theorem dX2_playRound_101 : decode cX2_playRound 101 = .ok (.aload_n 0, 1) := by decide +kernel
theorem dX2_playRound_102 : decode cX2_playRound 102 = .ok (.getfield 55, 3) := by decide +kernel
theorem dX2_playRound_105 : decode cX2_playRound 105 = .ok (.bipush 12, 2) := by decide +kernel
theorem dX2_playRound_107 : decode cX2_playRound 107 = .ok (.irem, 1) := by decide +kernel
theorem dX2_playRound_108 : decode cX2_playRound 108 = .ok (.bipush 11, 2) := by decide +kernel
theorem dX2_playRound_110 : decode cX2_playRound 110 = .ok (.if_icmp .ne 7, 3) := by decide +kernel
theorem dX2_playRound_113 : decode cX2_playRound 113 = .ok (.aload_n 0, 1) := by decide +kernel
theorem dX2_playRound_114 : decode cX2_playRound 114 = .ok (.invokevirtual 129, 3) := by decide +kernel
theorem dX2_playRound_117 : decode cX2_playRound 117 = .ok (.aload_n 0, 1) := by decide +kernel
theorem dX2_playRound_118 : decode cX2_playRound 118 = .ok (.dup, 1) := by decide +kernel
theorem dX2_playRound_119 : decode cX2_playRound 119 = .ok (.getfield 55, 3) := by decide +kernel
theorem dX2_playRound_122 : decode cX2_playRound 122 = .ok (.iconst 1, 1) := by decide +kernel
theorem dX2_playRound_123 : decode cX2_playRound 123 = .ok (.iadd, 1) := by decide +kernel
theorem dX2_playRound_124 : decode cX2_playRound 124 = .ok (.putfield 55, 3) := by decide +kernel
theorem dX2_playRound_127 : decode cX2_playRound 127 = .ok (.return_, 1) := by decide +kernel
theorem dX2_throwDart_0 : decode cX2_throwDart 0 = .ok (.aload_n 0, 1) := by decide +kernel
theorem dX2_throwDart_1 : decode cX2_throwDart 1 = .ok (.aload_n 0, 1) := by decide +kernel
theorem dX2_throwDart_2 : decode cX2_throwDart 2 = .ok (.getfield 36, 3) := by decide +kernel
theorem dX2_throwDart_5 : decode cX2_throwDart 5 = .ok (.bipush 75, 2) := by decide +kernel
theorem dX2_throwDart_7 : decode cX2_throwDart 7 = .ok (.imul, 1) := by decide +kernel
theorem dX2_throwDart_8 : decode cX2_throwDart 8 = .ok (.bipush 74, 2) := by decide +kernel
theorem dX2_throwDart_10 : decode cX2_throwDart 10 = .ok (.iadd, 1) := by decide +kernel
theorem dX2_throwDart_11 : decode cX2_throwDart 11 = .ok (.ldc 132, 2) := by decide +kernel
theorem dX2_throwDart_13 : decode cX2_throwDart 13 = .ok (.irem, 1) := by decide +kernel
theorem dX2_throwDart_14 : decode cX2_throwDart 14 = .ok (.putfield 36, 3) := by decide +kernel
theorem dX2_throwDart_17 : decode cX2_throwDart 17 = .ok (.aload_n 0, 1) := by decide +kernel
theorem dX2_throwDart_18 : decode cX2_throwDart 18 = .ok (.aload_n 0, 1) := by decide +kernel
theorem dX2_throwDart_19 : decode cX2_throwDart 19 = .ok (.getfield 46, 3) := by decide +kernel
theorem dX2_throwDart_22 : decode cX2_throwDart 22 = .ok (.ifCond .le 15, 3) := by decide +kernel
theorem dX2_throwDart_25 : decode cX2_throwDart 25 = .ok (.aload_n 0, 1) := by decide +kernel
theorem dX2_throwDart_26 : decode cX2_throwDart 26 = .ok (.getfield 36, 3) := by decide +kernel
theorem dX2_throwDart_29 : decode cX2_throwDart 29 = .ok (.aload_n 0, 1) := by decide +kernel
theorem dX2_throwDart_30 : decode cX2_throwDart 30 = .ok (.getfield 46, 3) := by decide +kernel
theorem dX2_throwDart_33 : decode cX2_throwDart 33 = .ok (.irem, 1) := by decide +kernel
theorem dX2_throwDart_34 : decode cX2_throwDart 34 = .ok (.goto 4, 3) := by decide +kernel
theorem dX2_throwDart_37 : decode cX2_throwDart 37 = .ok (.iconst (-1), 1) := by decide +kernel
theorem dX2_throwDart_38 : decode cX2_throwDart 38 = .ok (.putfield 40, 3) := by decide +kernel
theorem dX2_throwDart_41 : decode cX2_throwDart 41 = .ok (.return_, 1) := by decide +kernel
theorem dX2_choose_0 : decode cX2_choose 0 = .ok (.aload_n 0, 1) := by decide +kernel
theorem dX2_choose_1 : decode cX2_choose 1 = .ok (.getfield 25, 3) := by decide +kernel
theorem dX2_choose_4 : decode cX2_choose 4 = .ok (.iload_n 1, 1) := by decide +kernel
theorem dX2_choose_5 : decode cX2_choose 5 = .ok (.aaload, 1) := by decide +kernel
theorem dX2_choose_6 : decode cX2_choose 6 = .ok (.astore_n 2, 1) := by decide +kernel
theorem dX2_choose_7 : decode cX2_choose 7 = .ok (.iconst (-1), 1) := by decide +kernel
theorem dX2_choose_8 : decode cX2_choose 8 = .ok (.istore_n 3, 1) := by decide +kernel
theorem dX2_choose_9 : decode cX2_choose 9 = .ok (.iconst 0, 1) := by decide +kernel
theorem dX2_choose_10 : decode cX2_choose 10 = .ok (.istore 4, 2) := by decide +kernel
theorem dX2_choose_12 : decode cX2_choose 12 = .ok (.iload 4, 2) := by decide +kernel
theorem dX2_choose_14 : decode cX2_choose 14 = .ok (.aload_n 0, 1) := by decide +kernel
theorem dX2_choose_15 : decode cX2_choose 15 = .ok (.getfield 46, 3) := by decide +kernel
theorem dX2_choose_18 : decode cX2_choose 18 = .ok (.if_icmp .ge 38, 3) := by decide +kernel
theorem dX2_choose_21 : decode cX2_choose 21 = .ok (.aload_n 0, 1) := by decide +kernel
theorem dX2_choose_22 : decode cX2_choose 22 = .ok (.iload 4, 2) := by decide +kernel
theorem dX2_choose_24 : decode cX2_choose 24 = .ok (.aload_n 2, 1) := by decide +kernel
theorem dX2_choose_25 : decode cX2_choose 25 = .ok (.invokevirtual 133, 3) := by decide +kernel
theorem dX2_choose_28 : decode cX2_choose 28 = .ok (.ifCond .eq 22, 3) := by decide +kernel
theorem dX2_choose_31 : decode cX2_choose 31 = .ok (.iload_n 3, 1) := by decide +kernel
theorem dX2_choose_32 : decode cX2_choose 32 = .ok (.iconst (-1), 1) := by decide +kernel
theorem dX2_choose_33 : decode cX2_choose 33 = .ok (.if_icmp .eq 14, 3) := by decide +kernel
theorem dX2_choose_36 : decode cX2_choose 36 = .ok (.aload_n 0, 1) := by decide +kernel
theorem dX2_choose_37 : decode cX2_choose 37 = .ok (.iload 4, 2) := by decide +kernel
theorem dX2_choose_39 : decode cX2_choose 39 = .ok (.iload_n 3, 1) := by decide +kernel
theorem dX2_choose_40 : decode cX2_choose 40 = .ok (.aload_n 2, 1) := by decide +kernel
theorem dX2_choose_41 : decode cX2_choose 41 = .ok (.invokevirtual 137, 3) := by decide +kernel
theorem dX2_choose_44 : decode cX2_choose 44 = .ok (.ifCond .eq 6, 3) := by decide +kernel
theorem dX2_choose_47 : decode cX2_choose 47 = .ok (.iload 4, 2) := by decide +kernel
theorem dX2_choose_49 : decode cX2_choose 49 = .ok (.istore_n 3, 1) := by decide +kernel
theorem dX2_choose_50 : decode cX2_choose 50 = .ok (.iinc 4 1, 3) := by decide +kernel
theorem dX2_choose_53 : decode cX2_choose 53 = .ok (.goto (-41), 3) := by decide +kernel
theorem dX2_choose_56 : decode cX2_choose 56 = .ok (.aload_n 0, 1) := by decide +kernel
theorem dX2_choose_57 : decode cX2_choose 57 = .ok (.iload_n 3, 1) := by decide +kernel
theorem dX2_choose_58 : decode cX2_choose 58 = .ok (.invokevirtual 90, 3) := by decide +kernel
theorem dX2_choose_61 : decode cX2_choose 61 = .ok (.ifCond .eq 24, 3) := by decide +kernel
theorem dX2_choose_64 : decode cX2_choose 64 = .ok (.aload_n 0, 1) := by decide +kernel
theorem dX2_choose_65 : decode cX2_choose 65 = .ok (.getfield 11, 3) := by decide +kernel
theorem dX2_choose_68 : decode cX2_choose 68 = .ok (.iload_n 3, 1) := by decide +kernel
theorem dX2_choose_69 : decode cX2_choose 69 = .ok (.aaload, 1) := by decide +kernel
theorem dX2_choose_70 : decode cX2_choose 70 = .ok (.iload_n 1, 1) := by decide +kernel
theorem dX2_choose_71 : decode cX2_choose 71 = .ok (.invokevirtual 141, 3) := by decide +kernel
theorem dX2_choose_74 : decode cX2_choose 74 = .ok (.ifCond .eq 23, 3) := by decide +kernel
theorem dX2_choose_77 : decode cX2_choose 77 = .ok (.aload_n 2, 1) := by decide +kernel
theorem dX2_choose_78 : decode cX2_choose 78 = .ok (.iload_n 3, 1) := by decide +kernel
theorem dX2_choose_79 : decode cX2_choose 79 = .ok (.putfield 99, 3) := by decide +kernel
theorem dX2_choose_82 : decode cX2_choose 82 = .ok (.goto 15, 3) := by decide +kernel
theorem dX2_choose_85 : decode cX2_choose 85 = .ok (.aload_n 2, 1) := by decide +kernel
theorem dX2_choose_86 : decode cX2_choose 86 = .ok (.getfield 144, 3) := by decide +kernel
theorem dX2_choose_89 : decode cX2_choose 89 = .ok (.ifCond .ne 8, 3) := by decide +kernel
theorem dX2_choose_92 : decode cX2_choose 92 = .ok (.aload_n 2, 1) := by decide +kernel
theorem dX2_choose_93 : decode cX2_choose 93 = .ok (.iconst 1, 1) := by decide +kernel
theorem dX2_choose_94 : decode cX2_choose 94 = .ok (.putfield 147, 3) := by decide +kernel
theorem dX2_choose_97 : decode cX2_choose 97 = .ok (.return_, 1) := by decide +kernel
theorem dX2_invites_0 : decode cX2_invites 0 = .ok (.aload_n 0, 1) := by decide +kernel
theorem dX2_invites_1 : decode cX2_invites 1 = .ok (.getfield 11, 3) := by decide +kernel
theorem dX2_invites_4 : decode cX2_invites 4 = .ok (.iload_n 1, 1) := by decide +kernel
theorem dX2_invites_5 : decode cX2_invites 5 = .ok (.aaload, 1) := by decide +kernel
theorem dX2_invites_6 : decode cX2_invites 6 = .ok (.astore_n 3, 1) := by decide +kernel
theorem dX2_invites_7 : decode cX2_invites 7 = .ok (.aload_n 3, 1) := by decide +kernel
theorem dX2_invites_8 : decode cX2_invites 8 = .ok (.invokevirtual 120, 3) := by decide +kernel
theorem dX2_invites_11 : decode cX2_invites 11 = .ok (.ifCond .eq 26, 3) := by decide +kernel
theorem dX2_invites_14 : decode cX2_invites 14 = .ok (.aload_n 3, 1) := by decide +kernel
theorem dX2_invites_15 : decode cX2_invites 15 = .ok (.getfield 151, 3) := by decide +kernel
theorem dX2_invites_18 : decode cX2_invites 18 = .ok (.ifCond .le 19, 3) := by decide +kernel
theorem dX2_invites_21 : decode cX2_invites 21 = .ok (.aload_n 0, 1) := by decide +kernel
theorem dX2_invites_22 : decode cX2_invites 22 = .ok (.iload_n 1, 1) := by decide +kernel
theorem dX2_invites_23 : decode cX2_invites 23 = .ok (.invokevirtual 154, 3) := by decide +kernel
theorem dX2_invites_26 : decode cX2_invites 26 = .ok (.aload_n 2, 1) := by decide +kernel
theorem dX2_invites_27 : decode cX2_invites 27 = .ok (.getfield 144, 3) := by decide +kernel
theorem dX2_invites_30 : decode cX2_invites 30 = .ok (.if_icmp .gt 7, 3) := by decide +kernel
theorem dX2_invites_33 : decode cX2_invites 33 = .ok (.iconst 1, 1) := by decide +kernel
theorem dX2_invites_34 : decode cX2_invites 34 = .ok (.goto 4, 3) := by decide +kernel
theorem dX2_invites_37 : decode cX2_invites 37 = .ok (.iconst 0, 1) := by decide +kernel
theorem dX2_invites_38 : decode cX2_invites 38 = .ok (.ireturn, 1) := by decide +kernel
theorem dX2_isBetter_0 : decode cX2_isBetter 0 = .ok (.aload_n 0, 1) := by decide +kernel
theorem dX2_isBetter_1 : decode cX2_isBetter 1 = .ok (.getfield 11, 3) := by decide +kernel
theorem dX2_isBetter_4 : decode cX2_isBetter 4 = .ok (.iload_n 2, 1) := by decide +kernel
theorem dX2_isBetter_5 : decode cX2_isBetter 5 = .ok (.aaload, 1) := by decide +kernel
theorem dX2_isBetter_6 : decode cX2_isBetter 6 = .ok (.getfield 158, 3) := by decide +kernel
theorem dX2_isBetter_9 : decode cX2_isBetter 9 = .ok (.aload_n 0, 1) := by decide +kernel
theorem dX2_isBetter_10 : decode cX2_isBetter 10 = .ok (.getfield 11, 3) := by decide +kernel
theorem dX2_isBetter_13 : decode cX2_isBetter 13 = .ok (.iload_n 1, 1) := by decide +kernel
theorem dX2_isBetter_14 : decode cX2_isBetter 14 = .ok (.aaload, 1) := by decide +kernel
theorem dX2_isBetter_15 : decode cX2_isBetter 15 = .ok (.getfield 158, 3) := by decide +kernel
theorem dX2_isBetter_18 : decode cX2_isBetter 18 = .ok (.isub, 1) := by decide +kernel
theorem dX2_isBetter_19 : decode cX2_isBetter 19 = .ok (.istore 4, 2) := by decide +kernel
theorem dX2_isBetter_21 : decode cX2_isBetter 21 = .ok (.iload 4, 2) := by decide +kernel
theorem dX2_isBetter_23 : decode cX2_isBetter 23 = .ok (.ifCond .eq 14, 3) := by decide +kernel
theorem dX2_isBetter_26 : decode cX2_isBetter 26 = .ok (.iload 4, 2) := by decide +kernel
theorem dX2_isBetter_28 : decode cX2_isBetter 28 = .ok (.ifCond .le 7, 3) := by decide +kernel
theorem dX2_isBetter_31 : decode cX2_isBetter 31 = .ok (.iconst 1, 1) := by decide +kernel
theorem dX2_isBetter_32 : decode cX2_isBetter 32 = .ok (.goto 4, 3) := by decide +kernel
theorem dX2_isBetter_35 : decode cX2_isBetter 35 = .ok (.iconst 0, 1) := by decide +kernel
theorem dX2_isBetter_36 : decode cX2_isBetter 36 = .ok (.ireturn, 1) := by decide +kernel
theorem dX2_isBetter_37 : decode cX2_isBetter 37 = .ok (.aload_n 3, 1) := by decide +kernel
theorem dX2_isBetter_38 : decode cX2_isBetter 38 = .ok (.getfield 161, 3) := by decide +kernel
theorem dX2_isBetter_41 : decode cX2_isBetter 41 = .ok (.iload_n 1, 1) := by decide +kernel
theorem dX2_isBetter_42 : decode cX2_isBetter 42 = .ok (.iaload, 1) := by decide +kernel
theorem dX2_isBetter_43 : decode cX2_isBetter 43 = .ok (.aload_n 3, 1) := by decide +kernel
theorem dX2_isBetter_44 : decode cX2_isBetter 44 = .ok (.getfield 161, 3) := by decide +kernel
theorem dX2_isBetter_47 : decode cX2_isBetter 47 = .ok (.iload_n 2, 1) := by decide +kernel
theorem dX2_isBetter_48 : decode cX2_isBetter 48 = .ok (.iaload, 1) := by decide +kernel
theorem dX2_isBetter_49 : decode cX2_isBetter 49 = .ok (.if_icmp .le 7, 3) := by decide +kernel
theorem dX2_isBetter_52 : decode cX2_isBetter 52 = .ok (.iconst 1, 1) := by decide +kernel
theorem dX2_isBetter_53 : decode cX2_isBetter 53 = .ok (.goto 4, 3) := by decide +kernel
theorem dX2_isBetter_56 : decode cX2_isBetter 56 = .ok (.iconst 0, 1) := by decide +kernel
theorem dX2_isBetter_57 : decode cX2_isBetter 57 = .ok (.ireturn, 1) := by decide +kernel
theorem dX2_serve_0 : decode cX2_serve 0 = .ok (.aload_n 0, 1) := by decide +kernel
theorem dX2_serve_1 : decode cX2_serve 1 = .ok (.getfield 11, 3) := by decide +kernel
theorem dX2_serve_4 : decode cX2_serve 4 = .ok (.iload_n 1, 1) := by decide +kernel
theorem dX2_serve_5 : decode cX2_serve 5 = .ok (.aaload, 1) := by decide +kernel
theorem dX2_serve_6 : decode cX2_serve 6 = .ok (.astore_n 2, 1) := by decide +kernel
theorem dX2_serve_7 : decode cX2_serve 7 = .ok (.aload_n 2, 1) := by decide +kernel
theorem dX2_serve_8 : decode cX2_serve 8 = .ok (.getfield 93, 3) := by decide +kernel
theorem dX2_serve_11 : decode cX2_serve 11 = .ok (.aload_n 2, 1) := by decide +kernel
theorem dX2_serve_12 : decode cX2_serve 12 = .ok (.getfield 158, 3) := by decide +kernel
theorem dX2_serve_15 : decode cX2_serve 15 = .ok (.invokestatic 165, 3) := by decide +kernel
theorem dX2_serve_18 : decode cX2_serve 18 = .ok (.istore_n 3, 1) := by decide +kernel
theorem dX2_serve_19 : decode cX2_serve 19 = .ok (.iconst 0, 1) := by decide +kernel
theorem dX2_serve_20 : decode cX2_serve 20 = .ok (.istore 4, 2) := by decide +kernel
theorem dX2_serve_22 : decode cX2_serve 22 = .ok (.iload 4, 2) := by decide +kernel
theorem dX2_serve_24 : decode cX2_serve 24 = .ok (.iload_n 3, 1) := by decide +kernel
theorem dX2_serve_25 : decode cX2_serve 25 = .ok (.if_icmp .ge 58, 3) := by decide +kernel
theorem dX2_serve_28 : decode cX2_serve 28 = .ok (.aload_n 2, 1) := by decide +kernel
theorem dX2_serve_29 : decode cX2_serve 29 = .ok (.getfield 171, 3) := by decide +kernel
theorem dX2_serve_32 : decode cX2_serve 32 = .ok (.iconst 0, 1) := by decide +kernel
theorem dX2_serve_33 : decode cX2_serve 33 = .ok (.iaload, 1) := by decide +kernel
theorem dX2_serve_34 : decode cX2_serve 34 = .ok (.istore 5, 2) := by decide +kernel
theorem dX2_serve_36 : decode cX2_serve 36 = .ok (.aload_n 0, 1) := by decide +kernel
theorem dX2_serve_37 : decode cX2_serve 37 = .ok (.iload 5, 2) := by decide +kernel
theorem dX2_serve_39 : decode cX2_serve 39 = .ok (.invokevirtual 174, 3) := by decide +kernel
theorem dX2_serve_42 : decode cX2_serve 42 = .ok (.pop, 1) := by decide +kernel
theorem dX2_serve_43 : decode cX2_serve 43 = .ok (.aload_n 0, 1) := by decide +kernel
theorem dX2_serve_44 : decode cX2_serve 44 = .ok (.iload 5, 2) := by decide +kernel
theorem dX2_serve_46 : decode cX2_serve 46 = .ok (.invokevirtual 96, 3) := by decide +kernel
theorem dX2_serve_49 : decode cX2_serve 49 = .ok (.ifCond .eq 28, 3) := by decide +kernel
theorem dX2_serve_52 : decode cX2_serve 52 = .ok (.aload_n 0, 1) := by decide +kernel
theorem dX2_serve_53 : decode cX2_serve 53 = .ok (.getfield 25, 3) := by decide +kernel
theorem dX2_serve_56 : decode cX2_serve 56 = .ok (.iload 5, 2) := by decide +kernel
theorem dX2_serve_58 : decode cX2_serve 58 = .ok (.aaload, 1) := by decide +kernel
theorem dX2_serve_59 : decode cX2_serve 59 = .ok (.getfield 144, 3) := by decide +kernel
theorem dX2_serve_62 : decode cX2_serve 62 = .ok (.aload_n 0, 1) := by decide +kernel
theorem dX2_serve_63 : decode cX2_serve 63 = .ok (.iload_n 1, 1) := by decide +kernel
theorem dX2_serve_64 : decode cX2_serve 64 = .ok (.invokevirtual 154, 3) := by decide +kernel
theorem dX2_serve_67 : decode cX2_serve 67 = .ok (.if_icmp .lt 10, 3) := by decide +kernel
theorem dX2_serve_70 : decode cX2_serve 70 = .ok (.aload_n 0, 1) := by decide +kernel
theorem dX2_serve_71 : decode cX2_serve 71 = .ok (.iload 5, 2) := by decide +kernel
theorem dX2_serve_73 : decode cX2_serve 73 = .ok (.iload_n 1, 1) := by decide +kernel
theorem dX2_serve_74 : decode cX2_serve 74 = .ok (.invokevirtual 177, 3) := by decide +kernel
theorem dX2_serve_77 : decode cX2_serve 77 = .ok (.iinc 4 1, 3) := by decide +kernel
theorem dX2_serve_80 : decode cX2_serve 80 = .ok (.goto (-58), 3) := by decide +kernel
theorem dX2_serve_83 : decode cX2_serve 83 = .ok (.return_, 1) := by decide +kernel
theorem dX2_play_0 : decode cX2_play 0 = .ok (.aload_n 0, 1) := by decide +kernel
theorem dX2_play_1 : decode cX2_play 1 = .ok (.getfield 25, 3) := by decide +kernel
theorem dX2_play_4 : decode cX2_play 4 = .ok (.iload_n 1, 1) := by decide +kernel
theorem dX2_play_5 : decode cX2_play 5 = .ok (.aaload, 1) := by decide +kernel
theorem dX2_play_6 : decode cX2_play 6 = .ok (.astore_n 3, 1) := by decide +kernel
theorem dX2_play_7 : decode cX2_play 7 = .ok (.aload_n 0, 1) := by decide +kernel
theorem dX2_play_8 : decode cX2_play 8 = .ok (.getfield 11, 3) := by decide +kernel
theorem dX2_play_11 : decode cX2_play 11 = .ok (.iload_n 2, 1) := by decide +kernel
theorem dX2_play_12 : decode cX2_play 12 = .ok (.aaload, 1) := by decide +kernel
theorem dX2_play_13 : decode cX2_play 13 = .ok (.astore 4, 2) := by decide +kernel
theorem dX2_play_15 : decode cX2_play 15 = .ok (.aload_n 0, 1) := by decide +kernel
theorem dX2_play_16 : decode cX2_play 16 = .ok (.iload_n 2, 1) := by decide +kernel
theorem dX2_play_17 : decode cX2_play 17 = .ok (.invokevirtual 154, 3) := by decide +kernel
theorem dX2_play_20 : decode cX2_play 20 = .ok (.istore 5, 2) := by decide +kernel
theorem dX2_play_22 : decode cX2_play 22 = .ok (.aload_n 3, 1) := by decide +kernel
theorem dX2_play_23 : decode cX2_play 23 = .ok (.dup, 1) := by decide +kernel
theorem dX2_play_24 : decode cX2_play 24 = .ok (.getfield 144, 3) := by decide +kernel
theorem dX2_play_27 : decode cX2_play 27 = .ok (.iload 5, 2) := by decide +kernel
theorem dX2_play_29 : decode cX2_play 29 = .ok (.isub, 1) := by decide +kernel
theorem dX2_play_30 : decode cX2_play 30 = .ok (.putfield 144, 3) := by decide +kernel
theorem dX2_play_33 : decode cX2_play 33 = .ok (.aload 4, 2) := by decide +kernel
theorem dX2_play_35 : decode cX2_play 35 = .ok (.dup, 1) := by decide +kernel
theorem dX2_play_36 : decode cX2_play 36 = .ok (.getfield 180, 3) := by decide +kernel
theorem dX2_play_39 : decode cX2_play 39 = .ok (.iload 5, 2) := by decide +kernel
theorem dX2_play_41 : decode cX2_play 41 = .ok (.iadd, 1) := by decide +kernel
theorem dX2_play_42 : decode cX2_play 42 = .ok (.putfield 180, 3) := by decide +kernel
theorem dX2_play_45 : decode cX2_play 45 = .ok (.aload_n 0, 1) := by decide +kernel
theorem dX2_play_46 : decode cX2_play 46 = .ok (.aload_n 3, 1) := by decide +kernel
theorem dX2_play_47 : decode cX2_play 47 = .ok (.iload_n 2, 1) := by decide +kernel
theorem dX2_play_48 : decode cX2_play 48 = .ok (.invokevirtual 183, 3) := by decide +kernel
theorem dX2_play_51 : decode cX2_play 51 = .ok (.istore 6, 2) := by decide +kernel
theorem dX2_play_53 : decode cX2_play 53 = .ok (.aload_n 0, 1) := by decide +kernel
theorem dX2_play_54 : decode cX2_play 54 = .ok (.getfield 32, 3) := by decide +kernel
theorem dX2_play_57 : decode cX2_play 57 = .ok (.iload_n 1, 1) := by decide +kernel
theorem dX2_play_58 : decode cX2_play 58 = .ok (.iload_n 2, 1) := by decide +kernel
theorem dX2_play_59 : decode cX2_play 59 = .ok (.iload 6, 2) := by decide +kernel
theorem dX2_play_61 : decode cX2_play 61 = .ok (.invokevirtual 187, 3) := by decide +kernel
theorem dX2_play_64 : decode cX2_play 64 = .ok (.aload_n 3, 1) := by decide +kernel
theorem dX2_play_65 : decode cX2_play 65 = .ok (.getfield 161, 3) := by decide +kernel
theorem dX2_play_68 : decode cX2_play 68 = .ok (.iload_n 2, 1) := by decide +kernel
theorem dX2_play_69 : decode cX2_play 69 = .ok (.aload_n 3, 1) := by decide +kernel
theorem dX2_play_70 : decode cX2_play 70 = .ok (.getfield 161, 3) := by decide +kernel
theorem dX2_play_73 : decode cX2_play 73 = .ok (.iload_n 2, 1) := by decide +kernel
theorem dX2_play_74 : decode cX2_play 74 = .ok (.iaload, 1) := by decide +kernel
theorem dX2_play_75 : decode cX2_play 75 = .ok (.iconst 1, 1) := by decide +kernel
theorem dX2_play_76 : decode cX2_play 76 = .ok (.iadd, 1) := by decide +kernel
theorem dX2_play_77 : decode cX2_play 77 = .ok (.bipush 9, 2) := by decide +kernel
theorem dX2_play_79 : decode cX2_play 79 = .ok (.invokestatic 165, 3) := by decide +kernel
theorem dX2_play_82 : decode cX2_play 82 = .ok (.iastore, 1) := by decide +kernel
theorem dX2_play_83 : decode cX2_play 83 = .ok (.aload_n 3, 1) := by decide +kernel
theorem dX2_play_84 : decode cX2_play 84 = .ok (.dup, 1) := by decide +kernel
theorem dX2_play_85 : decode cX2_play 85 = .ok (.getfield 191, 3) := by decide +kernel
theorem dX2_play_88 : decode cX2_play 88 = .ok (.iconst 1, 1) := by decide +kernel
theorem dX2_play_89 : decode cX2_play 89 = .ok (.iadd, 1) := by decide +kernel
theorem dX2_play_90 : decode cX2_play 90 = .ok (.putfield 191, 3) := by decide +kernel
theorem dX2_play_93 : decode cX2_play 93 = .ok (.aload 4, 2) := by decide +kernel
theorem dX2_play_95 : decode cX2_play 95 = .ok (.dup, 1) := by decide +kernel
theorem dX2_play_96 : decode cX2_play 96 = .ok (.getfield 194, 3) := by decide +kernel
theorem dX2_play_99 : decode cX2_play 99 = .ok (.iconst 1, 1) := by decide +kernel
theorem dX2_play_100 : decode cX2_play 100 = .ok (.iadd, 1) := by decide +kernel
theorem dX2_play_101 : decode cX2_play 101 = .ok (.putfield 194, 3) := by decide +kernel
theorem dX2_play_104 : decode cX2_play 104 = .ok (.aload_n 3, 1) := by decide +kernel
theorem dX2_play_105 : decode cX2_play 105 = .ok (.aload_n 3, 1) := by decide +kernel
theorem dX2_play_106 : decode cX2_play 106 = .ok (.getfield 195, 3) := by decide +kernel
theorem dX2_play_109 : decode cX2_play 109 = .ok (.iload 6, 2) := by decide +kernel
theorem dX2_play_111 : decode cX2_play 111 = .ok (.invokestatic 198, 3) := by decide +kernel
theorem dX2_play_114 : decode cX2_play 114 = .ok (.putfield 195, 3) := by decide +kernel
theorem dX2_play_117 : decode cX2_play 117 = .ok (.iload 6, 2) := by decide +kernel
theorem dX2_play_119 : decode cX2_play 119 = .ok (.aload 4, 2) := by decide +kernel
theorem dX2_play_121 : decode cX2_play 121 = .ok (.getfield 201, 3) := by decide +kernel
theorem dX2_play_124 : decode cX2_play 124 = .ok (.if_icmp .lt 42, 3) := by decide +kernel
theorem dX2_play_127 : decode cX2_play 127 = .ok (.aload 4, 2) := by decide +kernel
theorem dX2_play_129 : decode cX2_play 129 = .ok (.getfield 151, 3) := by decide +kernel
theorem dX2_play_132 : decode cX2_play 132 = .ok (.ifCond .le 34, 3) := by decide +kernel
theorem dX2_play_135 : decode cX2_play 135 = .ok (.aload 4, 2) := by decide +kernel
theorem dX2_play_137 : decode cX2_play 137 = .ok (.dup, 1) := by decide +kernel
theorem dX2_play_138 : decode cX2_play 138 = .ok (.getfield 151, 3) := by decide +kernel
theorem dX2_play_141 : decode cX2_play 141 = .ok (.iconst 1, 1) := by decide +kernel
theorem dX2_play_142 : decode cX2_play 142 = .ok (.isub, 1) := by decide +kernel
theorem dX2_play_143 : decode cX2_play 143 = .ok (.putfield 151, 3) := by decide +kernel
theorem dX2_play_146 : decode cX2_play 146 = .ok (.aload_n 3, 1) := by decide +kernel
theorem dX2_play_147 : decode cX2_play 147 = .ok (.dup, 1) := by decide +kernel
theorem dX2_play_148 : decode cX2_play 148 = .ok (.getfield 204, 3) := by decide +kernel
theorem dX2_play_151 : decode cX2_play 151 = .ok (.iconst 1, 1) := by decide +kernel
theorem dX2_play_152 : decode cX2_play 152 = .ok (.iadd, 1) := by decide +kernel
theorem dX2_play_153 : decode cX2_play 153 = .ok (.putfield 204, 3) := by decide +kernel
theorem dX2_play_156 : decode cX2_play 156 = .ok (.aload_n 0, 1) := by decide +kernel
theorem dX2_play_157 : decode cX2_play 157 = .ok (.dup, 1) := by decide +kernel
theorem dX2_play_158 : decode cX2_play 158 = .ok (.getfield 58, 3) := by decide +kernel
theorem dX2_play_161 : decode cX2_play 161 = .ok (.iconst 1, 1) := by decide +kernel
theorem dX2_play_162 : decode cX2_play 162 = .ok (.iadd, 1) := by decide +kernel
theorem dX2_play_163 : decode cX2_play 163 = .ok (.putfield 58, 3) := by decide +kernel
theorem dX2_play_166 : decode cX2_play 166 = .ok (.return_, 1) := by decide +kernel
theorem dX2_pointsOf_0 : decode cX2_pointsOf 0 = .ok (.aload_n 0, 1) := by decide +kernel
theorem dX2_pointsOf_1 : decode cX2_pointsOf 1 = .ok (.getfield 11, 3) := by decide +kernel
theorem dX2_pointsOf_4 : decode cX2_pointsOf 4 = .ok (.iload_n 2, 1) := by decide +kernel
theorem dX2_pointsOf_5 : decode cX2_pointsOf 5 = .ok (.aaload, 1) := by decide +kernel
theorem dX2_pointsOf_6 : decode cX2_pointsOf 6 = .ok (.astore_n 3, 1) := by decide +kernel
theorem dX2_pointsOf_7 : decode cX2_pointsOf 7 = .ok (.aload_n 1, 1) := by decide +kernel
theorem dX2_pointsOf_8 : decode cX2_pointsOf 8 = .ok (.getfield 205, 3) := by decide +kernel
theorem dX2_pointsOf_11 : decode cX2_pointsOf 11 = .ok (.iconst 3, 1) := by decide +kernel
theorem dX2_pointsOf_12 : decode cX2_pointsOf 12 = .ok (.aload_n 1, 1) := by decide +kernel
theorem dX2_pointsOf_13 : decode cX2_pointsOf 13 = .ok (.getfield 161, 3) := by decide +kernel
theorem dX2_pointsOf_16 : decode cX2_pointsOf 16 = .ok (.iload_n 2, 1) := by decide +kernel
theorem dX2_pointsOf_17 : decode cX2_pointsOf 17 = .ok (.iaload, 1) := by decide +kernel
theorem dX2_pointsOf_18 : decode cX2_pointsOf 18 = .ok (.imul, 1) := by decide +kernel
theorem dX2_pointsOf_19 : decode cX2_pointsOf 19 = .ok (.iadd, 1) := by decide +kernel
theorem dX2_pointsOf_20 : decode cX2_pointsOf 20 = .ok (.iconst 5, 1) := by decide +kernel
theorem dX2_pointsOf_21 : decode cX2_pointsOf 21 = .ok (.aload_n 3, 1) := by decide +kernel
theorem dX2_pointsOf_22 : decode cX2_pointsOf 22 = .ok (.getfield 93, 3) := by decide +kernel
theorem dX2_pointsOf_25 : decode cX2_pointsOf 25 = .ok (.aload_n 3, 1) := by decide +kernel
theorem dX2_pointsOf_26 : decode cX2_pointsOf 26 = .ok (.getfield 208, 3) := by decide +kernel
theorem dX2_pointsOf_29 : decode cX2_pointsOf 29 = .ok (.isub, 1) := by decide +kernel
theorem dX2_pointsOf_30 : decode cX2_pointsOf 30 = .ok (.imul, 1) := by decide +kernel
theorem dX2_pointsOf_31 : decode cX2_pointsOf 31 = .ok (.iadd, 1) := by decide +kernel
theorem dX2_pointsOf_32 : decode cX2_pointsOf 32 = .ok (.istore 4, 2) := by decide +kernel
theorem dX2_pointsOf_34 : decode cX2_pointsOf 34 = .ok (.iload_n 2, 1) := by decide +kernel
theorem dX2_pointsOf_35 : decode cX2_pointsOf 35 = .ok (.aload_n 0, 1) := by decide +kernel
theorem dX2_pointsOf_36 : decode cX2_pointsOf 36 = .ok (.getfield 40, 3) := by decide +kernel
theorem dX2_pointsOf_39 : decode cX2_pointsOf 39 = .ok (.if_icmp .ne 10, 3) := by decide +kernel
theorem dX2_pointsOf_42 : decode cX2_pointsOf 42 = .ok (.iconst 2, 1) := by decide +kernel
theorem dX2_pointsOf_43 : decode cX2_pointsOf 43 = .ok (.iload 4, 2) := by decide +kernel
theorem dX2_pointsOf_45 : decode cX2_pointsOf 45 = .ok (.imul, 1) := by decide +kernel
theorem dX2_pointsOf_46 : decode cX2_pointsOf 46 = .ok (.goto 5, 3) := by decide +kernel
theorem dX2_pointsOf_49 : decode cX2_pointsOf 49 = .ok (.iload 4, 2) := by decide +kernel
theorem dX2_pointsOf_51 : decode cX2_pointsOf 51 = .ok (.ireturn, 1) := by decide +kernel
theorem dX2_tireOrRest_0 : decode cX2_tireOrRest 0 = .ok (.aload_n 0, 1) := by decide +kernel
theorem dX2_tireOrRest_1 : decode cX2_tireOrRest 1 = .ok (.getfield 19, 3) := by decide +kernel
theorem dX2_tireOrRest_4 : decode cX2_tireOrRest 4 = .ok (.iload_n 1, 1) := by decide +kernel
theorem dX2_tireOrRest_5 : decode cX2_tireOrRest 5 = .ok (.aaload, 1) := by decide +kernel
theorem dX2_tireOrRest_6 : decode cX2_tireOrRest 6 = .ok (.astore_n 2, 1) := by decide +kernel
theorem dX2_tireOrRest_7 : decode cX2_tireOrRest 7 = .ok (.aload_n 2, 1) := by decide +kernel
theorem dX2_tireOrRest_8 : decode cX2_tireOrRest 8 = .ok (.getfield 87, 3) := by decide +kernel
theorem dX2_tireOrRest_11 : decode cX2_tireOrRest 11 = .ok (.iconst (-1), 1) := by decide +kernel
theorem dX2_tireOrRest_12 : decode cX2_tireOrRest 12 = .ok (.if_icmp .eq 37, 3) := by decide +kernel
theorem dX2_tireOrRest_15 : decode cX2_tireOrRest 15 = .ok (.aload_n 2, 1) := by decide +kernel
theorem dX2_tireOrRest_16 : decode cX2_tireOrRest 16 = .ok (.dup, 1) := by decide +kernel
theorem dX2_tireOrRest_17 : decode cX2_tireOrRest 17 = .ok (.getfield 211, 3) := by decide +kernel
theorem dX2_tireOrRest_20 : decode cX2_tireOrRest 20 = .ok (.iconst 1, 1) := by decide +kernel
theorem dX2_tireOrRest_21 : decode cX2_tireOrRest 21 = .ok (.iadd, 1) := by decide +kernel
theorem dX2_tireOrRest_22 : decode cX2_tireOrRest 22 = .ok (.putfield 211, 3) := by decide +kernel
theorem dX2_tireOrRest_25 : decode cX2_tireOrRest 25 = .ok (.aload_n 2, 1) := by decide +kernel
theorem dX2_tireOrRest_26 : decode cX2_tireOrRest 26 = .ok (.dup, 1) := by decide +kernel
theorem dX2_tireOrRest_27 : decode cX2_tireOrRest 27 = .ok (.getfield 214, 3) := by decide +kernel
theorem dX2_tireOrRest_30 : decode cX2_tireOrRest 30 = .ok (.iconst 1, 1) := by decide +kernel
theorem dX2_tireOrRest_31 : decode cX2_tireOrRest 31 = .ok (.isub, 1) := by decide +kernel
theorem dX2_tireOrRest_32 : decode cX2_tireOrRest 32 = .ok (.putfield 214, 3) := by decide +kernel
theorem dX2_tireOrRest_35 : decode cX2_tireOrRest 35 = .ok (.aload_n 2, 1) := by decide +kernel
theorem dX2_tireOrRest_36 : decode cX2_tireOrRest 36 = .ok (.getfield 214, 3) := by decide +kernel
theorem dX2_tireOrRest_39 : decode cX2_tireOrRest 39 = .ok (.ifCond .le 4, 3) := by decide +kernel
theorem dX2_tireOrRest_42 : decode cX2_tireOrRest 42 = .ok (.return_, 1) := by decide +kernel
theorem dX2_tireOrRest_43 : decode cX2_tireOrRest 43 = .ok (.aload_n 0, 1) := by decide +kernel
theorem dX2_tireOrRest_44 : decode cX2_tireOrRest 44 = .ok (.iload_n 1, 1) := by decide +kernel
theorem dX2_tireOrRest_45 : decode cX2_tireOrRest 45 = .ok (.iconst (-1), 1) := by decide +kernel
theorem dX2_tireOrRest_46 : decode cX2_tireOrRest 46 = .ok (.invokevirtual 217, 3) := by decide +kernel
theorem dX2_tireOrRest_49 : decode cX2_tireOrRest 49 = .ok (.aload_n 2, 1) := by decide +kernel
theorem dX2_tireOrRest_50 : decode cX2_tireOrRest 50 = .ok (.invokevirtual 220, 3) := by decide +kernel
theorem dX2_tireOrRest_53 : decode cX2_tireOrRest 53 = .ok (.return_, 1) := by decide +kernel
theorem dX2_endHour_0 : decode cX2_endHour 0 = .ok (.iconst 0, 1) := by decide +kernel
theorem dX2_endHour_1 : decode cX2_endHour 1 = .ok (.istore_n 1, 1) := by decide +kernel
theorem dX2_endHour_2 : decode cX2_endHour 2 = .ok (.iload_n 1, 1) := by decide +kernel
theorem dX2_endHour_3 : decode cX2_endHour 3 = .ok (.aload_n 0, 1) := by decide +kernel
theorem dX2_endHour_4 : decode cX2_endHour 4 = .ok (.getfield 32, 3) := by decide +kernel
theorem dX2_endHour_7 : decode cX2_endHour 7 = .ok (.getfield 223, 3) := by decide +kernel
theorem dX2_endHour_10 : decode cX2_endHour 10 = .ok (.if_icmp .ge 19, 3) := by decide +kernel
theorem dX2_endHour_13 : decode cX2_endHour 13 = .ok (.iload_n 1, 1) := by decide +kernel
theorem dX2_endHour_14 : decode cX2_endHour 14 = .ok (.iconst 3, 1) := by decide +kernel
theorem dX2_endHour_15 : decode cX2_endHour 15 = .ok (.if_icmp .ge 14, 3) := by decide +kernel
theorem dX2_endHour_18 : decode cX2_endHour 18 = .ok (.aload_n 0, 1) := by decide +kernel
theorem dX2_endHour_19 : decode cX2_endHour 19 = .ok (.iload_n 1, 1) := by decide +kernel
theorem dX2_endHour_20 : decode cX2_endHour 20 = .ok (.invokevirtual 226, 3) := by decide +kernel
theorem dX2_endHour_23 : decode cX2_endHour 23 = .ok (.iinc 1 1, 3) := by decide +kernel
theorem dX2_endHour_26 : decode cX2_endHour 26 = .ok (.goto (-24), 3) := by decide +kernel
theorem dX2_endHour_29 : decode cX2_endHour 29 = .ok (.aload_n 0, 1) := by decide +kernel
theorem dX2_endHour_30 : decode cX2_endHour 30 = .ok (.getfield 32, 3) := by decide +kernel
theorem dX2_endHour_33 : decode cX2_endHour 33 = .ok (.iconst 0, 1) := by decide +kernel
theorem dX2_endHour_34 : decode cX2_endHour 34 = .ok (.putfield 223, 3) := by decide +kernel
theorem dX2_endHour_37 : decode cX2_endHour 37 = .ok (.iconst 0, 1) := by decide +kernel
theorem dX2_endHour_38 : decode cX2_endHour 38 = .ok (.istore_n 1, 1) := by decide +kernel
theorem dX2_endHour_39 : decode cX2_endHour 39 = .ok (.iload_n 1, 1) := by decide +kernel
theorem dX2_endHour_40 : decode cX2_endHour 40 = .ok (.aload_n 0, 1) := by decide +kernel
theorem dX2_endHour_41 : decode cX2_endHour 41 = .ok (.getfield 52, 3) := by decide +kernel
theorem dX2_endHour_44 : decode cX2_endHour 44 = .ok (.if_icmp .ge 45, 3) := by decide +kernel
theorem dX2_endHour_47 : decode cX2_endHour 47 = .ok (.aload_n 0, 1) := by decide +kernel
theorem dX2_endHour_48 : decode cX2_endHour 48 = .ok (.getfield 25, 3) := by decide +kernel
theorem dX2_endHour_51 : decode cX2_endHour 51 = .ok (.iload_n 1, 1) := by decide +kernel
theorem dX2_endHour_52 : decode cX2_endHour 52 = .ok (.aaload, 1) := by decide +kernel
theorem dX2_endHour_53 : decode cX2_endHour 53 = .ok (.getfield 99, 3) := by decide +kernel
theorem dX2_endHour_56 : decode cX2_endHour 56 = .ok (.istore_n 2, 1) := by decide +kernel
theorem dX2_endHour_57 : decode cX2_endHour 57 = .ok (.aload_n 0, 1) := by decide +kernel
theorem dX2_endHour_58 : decode cX2_endHour 58 = .ok (.iload_n 2, 1) := by decide +kernel
theorem dX2_endHour_59 : decode cX2_endHour 59 = .ok (.invokevirtual 90, 3) := by decide +kernel
theorem dX2_endHour_62 : decode cX2_endHour 62 = .ok (.ifCond .eq 21, 3) := by decide +kernel
theorem dX2_endHour_65 : decode cX2_endHour 65 = .ok (.aload_n 0, 1) := by decide +kernel
theorem dX2_endHour_66 : decode cX2_endHour 66 = .ok (.getfield 11, 3) := by decide +kernel
theorem dX2_endHour_69 : decode cX2_endHour 69 = .ok (.iload_n 2, 1) := by decide +kernel
theorem dX2_endHour_70 : decode cX2_endHour 70 = .ok (.aaload, 1) := by decide +kernel
theorem dX2_endHour_71 : decode cX2_endHour 71 = .ok (.invokevirtual 120, 3) := by decide +kernel
theorem dX2_endHour_74 : decode cX2_endHour 74 = .ok (.ifCond .ne 9, 3) := by decide +kernel
theorem dX2_endHour_77 : decode cX2_endHour 77 = .ok (.aload_n 0, 1) := by decide +kernel
theorem dX2_endHour_78 : decode cX2_endHour 78 = .ok (.iload_n 1, 1) := by decide +kernel
theorem dX2_endHour_79 : decode cX2_endHour 79 = .ok (.invokevirtual 174, 3) := by decide +kernel
theorem dX2_endHour_82 : decode cX2_endHour 82 = .ok (.pop, 1) := by decide +kernel
theorem dX2_endHour_83 : decode cX2_endHour 83 = .ok (.iinc 1 1, 3) := by decide +kernel
theorem dX2_endHour_86 : decode cX2_endHour 86 = .ok (.goto (-47), 3) := by decide +kernel
theorem dX2_endHour_89 : decode cX2_endHour 89 = .ok (.return_, 1) := by decide +kernel
theorem dX2_rewardLine_0 : decode cX2_rewardLine 0 = .ok (.aload_n 0, 1) := by decide +kernel
theorem dX2_rewardLine_1 : decode cX2_rewardLine 1 = .ok (.getfield 32, 3) := by decide +kernel
theorem dX2_rewardLine_4 : decode cX2_rewardLine 4 = .ok (.getfield 229, 3) := by decide +kernel
theorem dX2_rewardLine_7 : decode cX2_rewardLine 7 = .ok (.iload_n 1, 1) := by decide +kernel
theorem dX2_rewardLine_8 : decode cX2_rewardLine 8 = .ok (.iaload, 1) := by decide +kernel
theorem dX2_rewardLine_9 : decode cX2_rewardLine 9 = .ok (.istore_n 2, 1) := by decide +kernel
theorem dX2_rewardLine_10 : decode cX2_rewardLine 10 = .ok (.aload_n 0, 1) := by decide +kernel
theorem dX2_rewardLine_11 : decode cX2_rewardLine 11 = .ok (.iload_n 2, 1) := by decide +kernel
theorem dX2_rewardLine_12 : decode cX2_rewardLine 12 = .ok (.invokevirtual 96, 3) := by decide +kernel
theorem dX2_rewardLine_15 : decode cX2_rewardLine 15 = .ok (.ifCond .ne 4, 3) := by decide +kernel
theorem dX2_rewardLine_18 : decode cX2_rewardLine 18 = .ok (.return_, 1) := by decide +kernel
theorem dX2_rewardLine_19 : decode cX2_rewardLine 19 = .ok (.aload_n 0, 1) := by decide +kernel
theorem dX2_rewardLine_20 : decode cX2_rewardLine 20 = .ok (.getfield 25, 3) := by decide +kernel
theorem dX2_rewardLine_23 : decode cX2_rewardLine 23 = .ok (.iload_n 2, 1) := by decide +kernel
theorem dX2_rewardLine_24 : decode cX2_rewardLine 24 = .ok (.aaload, 1) := by decide +kernel
theorem dX2_rewardLine_25 : decode cX2_rewardLine 25 = .ok (.dup, 1) := by decide +kernel
theorem dX2_rewardLine_26 : decode cX2_rewardLine 26 = .ok (.getfield 231, 3) := by decide +kernel
theorem dX2_rewardLine_29 : decode cX2_rewardLine 29 = .ok (.iconst 3, 1) := by decide +kernel
theorem dX2_rewardLine_30 : decode cX2_rewardLine 30 = .ok (.iload_n 1, 1) := by decide +kernel
theorem dX2_rewardLine_31 : decode cX2_rewardLine 31 = .ok (.isub, 1) := by decide +kernel
theorem dX2_rewardLine_32 : decode cX2_rewardLine 32 = .ok (.iadd, 1) := by decide +kernel
theorem dX2_rewardLine_33 : decode cX2_rewardLine 33 = .ok (.putfield 231, 3) := by decide +kernel
theorem dX2_rewardLine_36 : decode cX2_rewardLine 36 = .ok (.iload_n 1, 1) := by decide +kernel
theorem dX2_rewardLine_37 : decode cX2_rewardLine 37 = .ok (.ifCond .ne 18, 3) := by decide +kernel
theorem dX2_rewardLine_40 : decode cX2_rewardLine 40 = .ok (.aload_n 0, 1) := by decide +kernel
theorem dX2_rewardLine_41 : decode cX2_rewardLine 41 = .ok (.getfield 25, 3) := by decide +kernel
theorem dX2_rewardLine_44 : decode cX2_rewardLine 44 = .ok (.iload_n 2, 1) := by decide +kernel
theorem dX2_rewardLine_45 : decode cX2_rewardLine 45 = .ok (.aaload, 1) := by decide +kernel
theorem dX2_rewardLine_46 : decode cX2_rewardLine 46 = .ok (.dup, 1) := by decide +kernel
theorem dX2_rewardLine_47 : decode cX2_rewardLine 47 = .ok (.getfield 144, 3) := by decide +kernel
theorem dX2_rewardLine_50 : decode cX2_rewardLine 50 = .ok (.iconst 5, 1) := by decide +kernel
theorem dX2_rewardLine_51 : decode cX2_rewardLine 51 = .ok (.iadd, 1) := by decide +kernel
theorem dX2_rewardLine_52 : decode cX2_rewardLine 52 = .ok (.putfield 144, 3) := by decide +kernel
theorem dX2_rewardLine_55 : decode cX2_rewardLine 55 = .ok (.return_, 1) := by decide +kernel
theorem dX2_allPlays_0 : decode cX2_allPlays 0 = .ok (.iconst 0, 1) := by decide +kernel
theorem dX2_allPlays_1 : decode cX2_allPlays 1 = .ok (.istore_n 1, 1) := by decide +kernel
theorem dX2_allPlays_2 : decode cX2_allPlays 2 = .ok (.iconst 0, 1) := by decide +kernel
theorem dX2_allPlays_3 : decode cX2_allPlays 3 = .ok (.istore_n 2, 1) := by decide +kernel
theorem dX2_allPlays_4 : decode cX2_allPlays 4 = .ok (.iload_n 2, 1) := by decide +kernel
theorem dX2_allPlays_5 : decode cX2_allPlays 5 = .ok (.aload_n 0, 1) := by decide +kernel
theorem dX2_allPlays_6 : decode cX2_allPlays 6 = .ok (.getfield 46, 3) := by decide +kernel
theorem dX2_allPlays_9 : decode cX2_allPlays 9 = .ok (.if_icmp .ge 21, 3) := by decide +kernel
theorem dX2_allPlays_12 : decode cX2_allPlays 12 = .ok (.iload_n 1, 1) := by decide +kernel
theorem dX2_allPlays_13 : decode cX2_allPlays 13 = .ok (.aload_n 0, 1) := by decide +kernel
theorem dX2_allPlays_14 : decode cX2_allPlays 14 = .ok (.getfield 11, 3) := by decide +kernel
theorem dX2_allPlays_17 : decode cX2_allPlays 17 = .ok (.iload_n 2, 1) := by decide +kernel
theorem dX2_allPlays_18 : decode cX2_allPlays 18 = .ok (.aaload, 1) := by decide +kernel
theorem dX2_allPlays_19 : decode cX2_allPlays 19 = .ok (.getfield 194, 3) := by decide +kernel
theorem dX2_allPlays_22 : decode cX2_allPlays 22 = .ok (.iadd, 1) := by decide +kernel
theorem dX2_allPlays_23 : decode cX2_allPlays 23 = .ok (.istore_n 1, 1) := by decide +kernel
theorem dX2_allPlays_24 : decode cX2_allPlays 24 = .ok (.iinc 2 1, 3) := by decide +kernel
theorem dX2_allPlays_27 : decode cX2_allPlays 27 = .ok (.goto (-23), 3) := by decide +kernel
theorem dX2_allPlays_30 : decode cX2_allPlays 30 = .ok (.iload_n 1, 1) := by decide +kernel
theorem dX2_allPlays_31 : decode cX2_allPlays 31 = .ok (.ireturn, 1) := by decide +kernel
theorem dX2_boothFact_0 : decode cX2_boothFact 0 = .ok (.aload_n 0, 1) := by decide +kernel
theorem dX2_boothFact_1 : decode cX2_boothFact 1 = .ok (.getfield 11, 3) := by decide +kernel
theorem dX2_boothFact_4 : decode cX2_boothFact 4 = .ok (.iload_n 1, 1) := by decide +kernel
theorem dX2_boothFact_5 : decode cX2_boothFact 5 = .ok (.aaload, 1) := by decide +kernel
theorem dX2_boothFact_6 : decode cX2_boothFact 6 = .ok (.astore_n 3, 1) := by decide +kernel
theorem dX2_boothFact_7 : decode cX2_boothFact 7 = .ok (.iload_n 2, 1) := by decide +kernel
theorem dX2_boothFact_8 : decode cX2_boothFact 8 = .ok (.tableswitch 115 0 8 #[52, 58, 63, 68, 73, 78, 91, 105, 110], 52) := by decide +kernel
theorem dX2_boothFact_60 : decode cX2_boothFact 60 = .ok (.aload_n 0, 1) := by decide +kernel
theorem dX2_boothFact_61 : decode cX2_boothFact 61 = .ok (.iload_n 1, 1) := by decide +kernel
theorem dX2_boothFact_62 : decode cX2_boothFact 62 = .ok (.invokevirtual 154, 3) := by decide +kernel
theorem dX2_boothFact_65 : decode cX2_boothFact 65 = .ok (.ireturn, 1) := by decide +kernel
theorem dX2_boothFact_66 : decode cX2_boothFact 66 = .ok (.aload_n 3, 1) := by decide +kernel
theorem dX2_boothFact_67 : decode cX2_boothFact 67 = .ok (.getfield 201, 3) := by decide +kernel
theorem dX2_boothFact_70 : decode cX2_boothFact 70 = .ok (.ireturn, 1) := by decide +kernel
theorem dX2_boothFact_71 : decode cX2_boothFact 71 = .ok (.aload_n 3, 1) := by decide +kernel
theorem dX2_boothFact_72 : decode cX2_boothFact 72 = .ok (.getfield 151, 3) := by decide +kernel
theorem dX2_boothFact_75 : decode cX2_boothFact 75 = .ok (.ireturn, 1) := by decide +kernel
theorem dX2_boothFact_76 : decode cX2_boothFact 76 = .ok (.aload_n 3, 1) := by decide +kernel
theorem dX2_boothFact_77 : decode cX2_boothFact 77 = .ok (.getfield 208, 3) := by decide +kernel
theorem dX2_boothFact_80 : decode cX2_boothFact 80 = .ok (.ireturn, 1) := by decide +kernel
theorem dX2_boothFact_81 : decode cX2_boothFact 81 = .ok (.aload_n 3, 1) := by decide +kernel
theorem dX2_boothFact_82 : decode cX2_boothFact 82 = .ok (.getfield 93, 3) := by decide +kernel
theorem dX2_boothFact_85 : decode cX2_boothFact 85 = .ok (.ireturn, 1) := by decide +kernel
theorem dX2_boothFact_86 : decode cX2_boothFact 86 = .ok (.aload_n 3, 1) := by decide +kernel
theorem dX2_boothFact_87 : decode cX2_boothFact 87 = .ok (.invokevirtual 120, 3) := by decide +kernel
theorem dX2_boothFact_90 : decode cX2_boothFact 90 = .ok (.ifCond .eq 7, 3) := by decide +kernel
theorem dX2_boothFact_93 : decode cX2_boothFact 93 = .ok (.iconst 1, 1) := by decide +kernel
theorem dX2_boothFact_94 : decode cX2_boothFact 94 = .ok (.goto 4, 3) := by decide +kernel
theorem dX2_boothFact_97 : decode cX2_boothFact 97 = .ok (.iconst 0, 1) := by decide +kernel
theorem dX2_boothFact_98 : decode cX2_boothFact 98 = .ok (.ireturn, 1) := by decide +kernel
theorem dX2_boothFact_99 : decode cX2_boothFact 99 = .ok (.iload_n 1, 1) := by decide +kernel
theorem dX2_boothFact_100 : decode cX2_boothFact 100 = .ok (.aload_n 0, 1) := by decide +kernel
theorem dX2_boothFact_101 : decode cX2_boothFact 101 = .ok (.getfield 40, 3) := by decide +kernel
theorem dX2_boothFact_104 : decode cX2_boothFact 104 = .ok (.if_icmp .ne 7, 3) := by decide +kernel
theorem dX2_boothFact_107 : decode cX2_boothFact 107 = .ok (.iconst 1, 1) := by decide +kernel
theorem dX2_boothFact_108 : decode cX2_boothFact 108 = .ok (.goto 4, 3) := by decide +kernel
theorem dX2_boothFact_111 : decode cX2_boothFact 111 = .ok (.iconst 0, 1) := by decide +kernel
theorem dX2_boothFact_112 : decode cX2_boothFact 112 = .ok (.ireturn, 1) := by decide +kernel
theorem dX2_boothFact_113 : decode cX2_boothFact 113 = .ok (.aload_n 3, 1) := by decide +kernel
theorem dX2_boothFact_114 : decode cX2_boothFact 114 = .ok (.getfield 158, 3) := by decide +kernel
theorem dX2_boothFact_117 : decode cX2_boothFact 117 = .ok (.ireturn, 1) := by decide +kernel
theorem dX2_boothFact_118 : decode cX2_boothFact 118 = .ok (.aload_n 3, 1) := by decide +kernel
theorem dX2_boothFact_119 : decode cX2_boothFact 119 = .ok (.getfield 194, 3) := by decide +kernel
theorem dX2_boothFact_122 : decode cX2_boothFact 122 = .ok (.ireturn, 1) := by decide +kernel
theorem dX2_boothFact_123 : decode cX2_boothFact 123 = .ok (.aload_n 3, 1) := by decide +kernel
theorem dX2_boothFact_124 : decode cX2_boothFact 124 = .ok (.getfield 180, 3) := by decide +kernel
theorem dX2_boothFact_127 : decode cX2_boothFact 127 = .ok (.ireturn, 1) := by decide +kernel
theorem dX2_total_0 : decode cX2_total 0 = .ok (.iload_n 1, 1) := by decide +kernel
theorem dX2_total_1 : decode cX2_total 1 = .ok (.tableswitch 110 0 9 #[55, 60, 65, 70, 75, 80, 86, 92, 97, 102], 55) := by decide +kernel
theorem dX2_total_56 : decode cX2_total 56 = .ok (.aload_n 0, 1) := by decide +kernel
theorem dX2_total_57 : decode cX2_total 57 = .ok (.getfield 55, 3) := by decide +kernel
theorem dX2_total_60 : decode cX2_total 60 = .ok (.ireturn, 1) := by decide +kernel
theorem dX2_total_61 : decode cX2_total 61 = .ok (.aload_n 0, 1) := by decide +kernel
theorem dX2_total_62 : decode cX2_total 62 = .ok (.getfield 46, 3) := by decide +kernel
theorem dX2_total_65 : decode cX2_total 65 = .ok (.ireturn, 1) := by decide +kernel
theorem dX2_total_66 : decode cX2_total 66 = .ok (.aload_n 0, 1) := by decide +kernel
theorem dX2_total_67 : decode cX2_total 67 = .ok (.getfield 49, 3) := by decide +kernel
theorem dX2_total_70 : decode cX2_total 70 = .ok (.ireturn, 1) := by decide +kernel
theorem dX2_total_71 : decode cX2_total 71 = .ok (.aload_n 0, 1) := by decide +kernel
theorem dX2_total_72 : decode cX2_total 72 = .ok (.getfield 52, 3) := by decide +kernel
theorem dX2_total_75 : decode cX2_total 75 = .ok (.ireturn, 1) := by decide +kernel
theorem dX2_total_76 : decode cX2_total 76 = .ok (.aload_n 0, 1) := by decide +kernel
theorem dX2_total_77 : decode cX2_total 77 = .ok (.invokevirtual 234, 3) := by decide +kernel
theorem dX2_total_80 : decode cX2_total 80 = .ok (.ireturn, 1) := by decide +kernel
theorem dX2_total_81 : decode cX2_total 81 = .ok (.aload_n 0, 1) := by decide +kernel
theorem dX2_total_82 : decode cX2_total 82 = .ok (.iconst 1, 1) := by decide +kernel
theorem dX2_total_83 : decode cX2_total 83 = .ok (.invokevirtual 238, 3) := by decide +kernel
theorem dX2_total_86 : decode cX2_total 86 = .ok (.ireturn, 1) := by decide +kernel
theorem dX2_total_87 : decode cX2_total 87 = .ok (.aload_n 0, 1) := by decide +kernel
theorem dX2_total_88 : decode cX2_total 88 = .ok (.iconst 2, 1) := by decide +kernel
theorem dX2_total_89 : decode cX2_total 89 = .ok (.invokevirtual 238, 3) := by decide +kernel
theorem dX2_total_92 : decode cX2_total 92 = .ok (.ireturn, 1) := by decide +kernel
theorem dX2_total_93 : decode cX2_total 93 = .ok (.aload_n 0, 1) := by decide +kernel
theorem dX2_total_94 : decode cX2_total 94 = .ok (.invokevirtual 241, 3) := by decide +kernel
theorem dX2_total_97 : decode cX2_total 97 = .ok (.ireturn, 1) := by decide +kernel
theorem dX2_total_98 : decode cX2_total 98 = .ok (.aload_n 0, 1) := by decide +kernel
theorem dX2_total_99 : decode cX2_total 99 = .ok (.getfield 58, 3) := by decide +kernel
theorem dX2_total_102 : decode cX2_total 102 = .ok (.ireturn, 1) := by decide +kernel
theorem dX2_total_103 : decode cX2_total 103 = .ok (.aload_n 0, 1) := by decide +kernel
theorem dX2_total_104 : decode cX2_total 104 = .ok (.getfield 32, 3) := by decide +kernel
theorem dX2_total_107 : decode cX2_total 107 = .ok (.getfield 223, 3) := by decide +kernel
theorem dX2_total_110 : decode cX2_total 110 = .ok (.ireturn, 1) := by decide +kernel
theorem dX2_total_111 : decode cX2_total 111 = .ok (.aload_n 0, 1) := by decide +kernel
theorem dX2_total_112 : decode cX2_total 112 = .ok (.getfield 36, 3) := by decide +kernel
theorem dX2_total_115 : decode cX2_total 115 = .ok (.ireturn, 1) := by decide +kernel
theorem dX2_openBooths_0 : decode cX2_openBooths 0 = .ok (.iconst 0, 1) := by decide +kernel
theorem dX2_openBooths_1 : decode cX2_openBooths 1 = .ok (.istore_n 1, 1) := by decide +kernel
theorem dX2_openBooths_2 : decode cX2_openBooths 2 = .ok (.iconst 0, 1) := by decide +kernel
theorem dX2_openBooths_3 : decode cX2_openBooths 3 = .ok (.istore_n 2, 1) := by decide +kernel
theorem dX2_openBooths_4 : decode cX2_openBooths 4 = .ok (.iload_n 2, 1) := by decide +kernel
theorem dX2_openBooths_5 : decode cX2_openBooths 5 = .ok (.aload_n 0, 1) := by decide +kernel
theorem dX2_openBooths_6 : decode cX2_openBooths 6 = .ok (.getfield 46, 3) := by decide +kernel
theorem dX2_openBooths_9 : decode cX2_openBooths 9 = .ok (.if_icmp .ge 29, 3) := by decide +kernel
theorem dX2_openBooths_12 : decode cX2_openBooths 12 = .ok (.iload_n 1, 1) := by decide +kernel
theorem dX2_openBooths_13 : decode cX2_openBooths 13 = .ok (.aload_n 0, 1) := by decide +kernel
theorem dX2_openBooths_14 : decode cX2_openBooths 14 = .ok (.getfield 11, 3) := by decide +kernel
theorem dX2_openBooths_17 : decode cX2_openBooths 17 = .ok (.iload_n 2, 1) := by decide +kernel
theorem dX2_openBooths_18 : decode cX2_openBooths 18 = .ok (.aaload, 1) := by decide +kernel
theorem dX2_openBooths_19 : decode cX2_openBooths 19 = .ok (.invokevirtual 120, 3) := by decide +kernel
theorem dX2_openBooths_22 : decode cX2_openBooths 22 = .ok (.ifCond .eq 7, 3) := by decide +kernel
theorem dX2_openBooths_25 : decode cX2_openBooths 25 = .ok (.iconst 1, 1) := by decide +kernel
theorem dX2_openBooths_26 : decode cX2_openBooths 26 = .ok (.goto 4, 3) := by decide +kernel
theorem dX2_openBooths_29 : decode cX2_openBooths 29 = .ok (.iconst 0, 1) := by decide +kernel
theorem dX2_openBooths_30 : decode cX2_openBooths 30 = .ok (.iadd, 1) := by decide +kernel
theorem dX2_openBooths_31 : decode cX2_openBooths 31 = .ok (.istore_n 1, 1) := by decide +kernel
theorem dX2_openBooths_32 : decode cX2_openBooths 32 = .ok (.iinc 2 1, 3) := by decide +kernel
theorem dX2_openBooths_35 : decode cX2_openBooths 35 = .ok (.goto (-31), 3) := by decide +kernel
theorem dX2_openBooths_38 : decode cX2_openBooths 38 = .ok (.iload_n 1, 1) := by decide +kernel
theorem dX2_openBooths_39 : decode cX2_openBooths 39 = .ok (.ireturn, 1) := by decide +kernel
theorem dX2_visitorsIn_0 : decode cX2_visitorsIn 0 = .ok (.iconst 0, 1) := by decide +kernel
theorem dX2_visitorsIn_1 : decode cX2_visitorsIn 1 = .ok (.istore_n 2, 1) := by decide +kernel
theorem dX2_visitorsIn_2 : decode cX2_visitorsIn 2 = .ok (.iconst 0, 1) := by decide +kernel
theorem dX2_visitorsIn_3 : decode cX2_visitorsIn 3 = .ok (.istore_n 3, 1) := by decide +kernel
theorem dX2_visitorsIn_4 : decode cX2_visitorsIn 4 = .ok (.iload_n 3, 1) := by decide +kernel
theorem dX2_visitorsIn_5 : decode cX2_visitorsIn 5 = .ok (.aload_n 0, 1) := by decide +kernel
theorem dX2_visitorsIn_6 : decode cX2_visitorsIn 6 = .ok (.getfield 52, 3) := by decide +kernel
theorem dX2_visitorsIn_9 : decode cX2_visitorsIn 9 = .ok (.if_icmp .ge 30, 3) := by decide +kernel
theorem dX2_visitorsIn_12 : decode cX2_visitorsIn 12 = .ok (.iload_n 2, 1) := by decide +kernel
theorem dX2_visitorsIn_13 : decode cX2_visitorsIn 13 = .ok (.aload_n 0, 1) := by decide +kernel
theorem dX2_visitorsIn_14 : decode cX2_visitorsIn 14 = .ok (.getfield 25, 3) := by decide +kernel
theorem dX2_visitorsIn_17 : decode cX2_visitorsIn 17 = .ok (.iload_n 3, 1) := by decide +kernel
theorem dX2_visitorsIn_18 : decode cX2_visitorsIn 18 = .ok (.aaload, 1) := by decide +kernel
theorem dX2_visitorsIn_19 : decode cX2_visitorsIn 19 = .ok (.invokevirtual 244, 3) := by decide +kernel
theorem dX2_visitorsIn_22 : decode cX2_visitorsIn 22 = .ok (.iload_n 1, 1) := by decide +kernel
theorem dX2_visitorsIn_23 : decode cX2_visitorsIn 23 = .ok (.if_icmp .ne 7, 3) := by decide +kernel
theorem dX2_visitorsIn_26 : decode cX2_visitorsIn 26 = .ok (.iconst 1, 1) := by decide +kernel
theorem dX2_visitorsIn_27 : decode cX2_visitorsIn 27 = .ok (.goto 4, 3) := by decide +kernel
theorem dX2_visitorsIn_30 : decode cX2_visitorsIn 30 = .ok (.iconst 0, 1) := by decide +kernel
theorem dX2_visitorsIn_31 : decode cX2_visitorsIn 31 = .ok (.iadd, 1) := by decide +kernel
theorem dX2_visitorsIn_32 : decode cX2_visitorsIn 32 = .ok (.istore_n 2, 1) := by decide +kernel
theorem dX2_visitorsIn_33 : decode cX2_visitorsIn 33 = .ok (.iinc 3 1, 3) := by decide +kernel
theorem dX2_visitorsIn_36 : decode cX2_visitorsIn 36 = .ok (.goto (-32), 3) := by decide +kernel
theorem dX2_visitorsIn_39 : decode cX2_visitorsIn 39 = .ok (.iload_n 2, 1) := by decide +kernel
theorem dX2_visitorsIn_40 : decode cX2_visitorsIn 40 = .ok (.ireturn, 1) := by decide +kernel
theorem dX2_prizesLeft_0 : decode cX2_prizesLeft 0 = .ok (.iconst 0, 1) := by decide +kernel
theorem dX2_prizesLeft_1 : decode cX2_prizesLeft 1 = .ok (.istore_n 1, 1) := by decide +kernel
theorem dX2_prizesLeft_2 : decode cX2_prizesLeft 2 = .ok (.iconst 0, 1) := by decide +kernel
theorem dX2_prizesLeft_3 : decode cX2_prizesLeft 3 = .ok (.istore_n 2, 1) := by decide +kernel
theorem dX2_prizesLeft_4 : decode cX2_prizesLeft 4 = .ok (.iload_n 2, 1) := by decide +kernel
theorem dX2_prizesLeft_5 : decode cX2_prizesLeft 5 = .ok (.aload_n 0, 1) := by decide +kernel
theorem dX2_prizesLeft_6 : decode cX2_prizesLeft 6 = .ok (.getfield 46, 3) := by decide +kernel
theorem dX2_prizesLeft_9 : decode cX2_prizesLeft 9 = .ok (.if_icmp .ge 21, 3) := by decide +kernel
theorem dX2_prizesLeft_12 : decode cX2_prizesLeft 12 = .ok (.iload_n 1, 1) := by decide +kernel
theorem dX2_prizesLeft_13 : decode cX2_prizesLeft 13 = .ok (.aload_n 0, 1) := by decide +kernel
theorem dX2_prizesLeft_14 : decode cX2_prizesLeft 14 = .ok (.getfield 11, 3) := by decide +kernel
theorem dX2_prizesLeft_17 : decode cX2_prizesLeft 17 = .ok (.iload_n 2, 1) := by decide +kernel
theorem dX2_prizesLeft_18 : decode cX2_prizesLeft 18 = .ok (.aaload, 1) := by decide +kernel
theorem dX2_prizesLeft_19 : decode cX2_prizesLeft 19 = .ok (.getfield 151, 3) := by decide +kernel
theorem dX2_prizesLeft_22 : decode cX2_prizesLeft 22 = .ok (.iadd, 1) := by decide +kernel
theorem dX2_prizesLeft_23 : decode cX2_prizesLeft 23 = .ok (.istore_n 1, 1) := by decide +kernel
theorem dX2_prizesLeft_24 : decode cX2_prizesLeft 24 = .ok (.iinc 2 1, 3) := by decide +kernel
theorem dX2_prizesLeft_27 : decode cX2_prizesLeft 27 = .ok (.goto (-23), 3) := by decide +kernel
theorem dX2_prizesLeft_30 : decode cX2_prizesLeft 30 = .ok (.iload_n 1, 1) := by decide +kernel
theorem dX2_prizesLeft_31 : decode cX2_prizesLeft 31 = .ok (.ireturn, 1) := by decide +kernel
theorem dX3_init_0 : decode cX3_init 0 = .ok (.aload_n 0, 1) := by decide +kernel
theorem dX3_init_1 : decode cX3_init 1 = .ok (.invokespecial 3, 3) := by decide +kernel
theorem dX3_init_4 : decode cX3_init 4 = .ok (.return_, 1) := by decide +kernel
theorem dX3_begin_0 : decode cX3_begin 0 = .ok (.aload_n 0, 1) := by decide +kernel
theorem dX3_begin_1 : decode cX3_begin 1 = .ok (.bipush 24, 2) := by decide +kernel
theorem dX3_begin_3 : decode cX3_begin 3 = .ok (.putfield 9, 3) := by decide +kernel
theorem dX3_begin_6 : decode cX3_begin 6 = .ok (.aload_n 0, 1) := by decide +kernel
theorem dX3_begin_7 : decode cX3_begin 7 = .ok (.iconst (-1), 1) := by decide +kernel
theorem dX3_begin_8 : decode cX3_begin 8 = .ok (.putfield 15, 3) := by decide +kernel
theorem dX3_begin_11 : decode cX3_begin 11 = .ok (.return_, 1) := by decide +kernel
theorem dX3_copyFrom_0 : decode cX3_copyFrom 0 = .ok (.aload_n 0, 1) := by decide +kernel
theorem dX3_copyFrom_1 : decode cX3_copyFrom 1 = .ok (.aload_n 1, 1) := by decide +kernel
theorem dX3_copyFrom_2 : decode cX3_copyFrom 2 = .ok (.getfield 9, 3) := by decide +kernel
theorem dX3_copyFrom_5 : decode cX3_copyFrom 5 = .ok (.putfield 9, 3) := by decide +kernel
theorem dX3_copyFrom_8 : decode cX3_copyFrom 8 = .ok (.aload_n 0, 1) := by decide +kernel
theorem dX3_copyFrom_9 : decode cX3_copyFrom 9 = .ok (.aload_n 1, 1) := by decide +kernel
theorem dX3_copyFrom_10 : decode cX3_copyFrom 10 = .ok (.getfield 15, 3) := by decide +kernel
theorem dX3_copyFrom_13 : decode cX3_copyFrom 13 = .ok (.putfield 15, 3) := by decide +kernel
theorem dX3_copyFrom_16 : decode cX3_copyFrom 16 = .ok (.aload_n 0, 1) := by decide +kernel
theorem dX3_copyFrom_17 : decode cX3_copyFrom 17 = .ok (.aload_n 1, 1) := by decide +kernel
theorem dX3_copyFrom_18 : decode cX3_copyFrom 18 = .ok (.getfield 18, 3) := by decide +kernel
theorem dX3_copyFrom_21 : decode cX3_copyFrom 21 = .ok (.putfield 18, 3) := by decide +kernel
theorem dX3_copyFrom_24 : decode cX3_copyFrom 24 = .ok (.return_, 1) := by decide +kernel
theorem dX3_rest_0 : decode cX3_rest 0 = .ok (.aload_n 0, 1) := by decide +kernel
theorem dX3_rest_1 : decode cX3_rest 1 = .ok (.aload_n 0, 1) := by decide +kernel
theorem dX3_rest_2 : decode cX3_rest 2 = .ok (.getfield 9, 3) := by decide +kernel
theorem dX3_rest_5 : decode cX3_rest 5 = .ok (.iconst 2, 1) := by decide +kernel
theorem dX3_rest_6 : decode cX3_rest 6 = .ok (.iadd, 1) := by decide +kernel
theorem dX3_rest_7 : decode cX3_rest 7 = .ok (.bipush 24, 2) := by decide +kernel
theorem dX3_rest_9 : decode cX3_rest 9 = .ok (.invokestatic 21, 3) := by decide +kernel
theorem dX3_rest_12 : decode cX3_rest 12 = .ok (.putfield 9, 3) := by decide +kernel
theorem dX3_rest_15 : decode cX3_rest 15 = .ok (.return_, 1) := by decide +kernel
theorem dX3_fact_0 : decode cX3_fact 0 = .ok (.iload_n 1, 1) := by decide +kernel
theorem dX3_fact_1 : decode cX3_fact 1 = .ok (.lookupswitch 37 #[(0, 27), (1, 32)], 27) := by decide +kernel
theorem dX3_fact_28 : decode cX3_fact 28 = .ok (.aload_n 0, 1) := by decide +kernel
theorem dX3_fact_29 : decode cX3_fact 29 = .ok (.getfield 9, 3) := by decide +kernel
theorem dX3_fact_32 : decode cX3_fact 32 = .ok (.ireturn, 1) := by decide +kernel
theorem dX3_fact_33 : decode cX3_fact 33 = .ok (.aload_n 0, 1) := by decide +kernel
theorem dX3_fact_34 : decode cX3_fact 34 = .ok (.getfield 15, 3) := by decide +kernel
theorem dX3_fact_37 : decode cX3_fact 37 = .ok (.ireturn, 1) := by decide +kernel
theorem dX3_fact_38 : decode cX3_fact 38 = .ok (.aload_n 0, 1) := by decide +kernel
theorem dX3_fact_39 : decode cX3_fact 39 = .ok (.getfield 18, 3) := by decide +kernel
theorem dX3_fact_42 : decode cX3_fact 42 = .ok (.ireturn, 1) := by decide +kernel
theorem dX4_init_0 : decode cX4_init 0 = .ok (.aload_n 0, 1) := by decide +kernel
theorem dX4_init_1 : decode cX4_init 1 = .ok (.invokespecial 3, 3) := by decide +kernel
theorem dX4_init_4 : decode cX4_init 4 = .ok (.aload_n 0, 1) := by decide +kernel
theorem dX4_init_5 : decode cX4_init 5 = .ok (.bipush 8, 2) := by decide +kernel
theorem dX4_init_7 : decode cX4_init 7 = .ok (.newarray .int, 2) := by decide +kernel
theorem dX4_init_9 : decode cX4_init 9 = .ok (.putfield 9, 3) := by decide +kernel
theorem dX4_init_12 : decode cX4_init 12 = .ok (.return_, 1) := by decide +kernel
theorem dX4_begin_0 : decode cX4_begin 0 = .ok (.aload_n 0, 1) := by decide +kernel
theorem dX4_begin_1 : decode cX4_begin 1 = .ok (.iload_n 1, 1) := by decide +kernel
theorem dX4_begin_2 : decode cX4_begin 2 = .ok (.putfield 15, 3) := by decide +kernel
theorem dX4_begin_5 : decode cX4_begin 5 = .ok (.aload_n 0, 1) := by decide +kernel
theorem dX4_begin_6 : decode cX4_begin 6 = .ok (.iload_n 2, 1) := by decide +kernel
theorem dX4_begin_7 : decode cX4_begin 7 = .ok (.putfield 19, 3) := by decide +kernel
theorem dX4_begin_10 : decode cX4_begin 10 = .ok (.aload_n 0, 1) := by decide +kernel
theorem dX4_begin_11 : decode cX4_begin 11 = .ok (.iconst (-1), 1) := by decide +kernel
theorem dX4_begin_12 : decode cX4_begin 12 = .ok (.putfield 22, 3) := by decide +kernel
theorem dX4_begin_15 : decode cX4_begin 15 = .ok (.return_, 1) := by decide +kernel
theorem dX4_copyFrom_0 : decode cX4_copyFrom 0 = .ok (.aload_n 0, 1) := by decide +kernel
theorem dX4_copyFrom_1 : decode cX4_copyFrom 1 = .ok (.aload_n 1, 1) := by decide +kernel
theorem dX4_copyFrom_2 : decode cX4_copyFrom 2 = .ok (.getfield 15, 3) := by decide +kernel
theorem dX4_copyFrom_5 : decode cX4_copyFrom 5 = .ok (.putfield 15, 3) := by decide +kernel
theorem dX4_copyFrom_8 : decode cX4_copyFrom 8 = .ok (.aload_n 0, 1) := by decide +kernel
theorem dX4_copyFrom_9 : decode cX4_copyFrom 9 = .ok (.aload_n 1, 1) := by decide +kernel
theorem dX4_copyFrom_10 : decode cX4_copyFrom 10 = .ok (.getfield 19, 3) := by decide +kernel
theorem dX4_copyFrom_13 : decode cX4_copyFrom 13 = .ok (.putfield 19, 3) := by decide +kernel
theorem dX4_copyFrom_16 : decode cX4_copyFrom 16 = .ok (.aload_n 0, 1) := by decide +kernel
theorem dX4_copyFrom_17 : decode cX4_copyFrom 17 = .ok (.aload_n 1, 1) := by decide +kernel
theorem dX4_copyFrom_18 : decode cX4_copyFrom 18 = .ok (.getfield 25, 3) := by decide +kernel
theorem dX4_copyFrom_21 : decode cX4_copyFrom 21 = .ok (.putfield 25, 3) := by decide +kernel
theorem dX4_copyFrom_24 : decode cX4_copyFrom 24 = .ok (.aload_n 0, 1) := by decide +kernel
theorem dX4_copyFrom_25 : decode cX4_copyFrom 25 = .ok (.aload_n 1, 1) := by decide +kernel
theorem dX4_copyFrom_26 : decode cX4_copyFrom 26 = .ok (.getfield 22, 3) := by decide +kernel
theorem dX4_copyFrom_29 : decode cX4_copyFrom 29 = .ok (.putfield 22, 3) := by decide +kernel
theorem dX4_copyFrom_32 : decode cX4_copyFrom 32 = .ok (.aload_n 0, 1) := by decide +kernel
theorem dX4_copyFrom_33 : decode cX4_copyFrom 33 = .ok (.aload_n 1, 1) := by decide +kernel
theorem dX4_copyFrom_34 : decode cX4_copyFrom 34 = .ok (.getfield 29, 3) := by decide +kernel
theorem dX4_copyFrom_37 : decode cX4_copyFrom 37 = .ok (.putfield 29, 3) := by decide +kernel
theorem dX4_copyFrom_40 : decode cX4_copyFrom 40 = .ok (.aload_n 0, 1) := by decide +kernel
theorem dX4_copyFrom_41 : decode cX4_copyFrom 41 = .ok (.aload_n 1, 1) := by decide +kernel
theorem dX4_copyFrom_42 : decode cX4_copyFrom 42 = .ok (.getfield 32, 3) := by decide +kernel
theorem dX4_copyFrom_45 : decode cX4_copyFrom 45 = .ok (.putfield 32, 3) := by decide +kernel
theorem dX4_copyFrom_48 : decode cX4_copyFrom 48 = .ok (.aload_n 0, 1) := by decide +kernel
theorem dX4_copyFrom_49 : decode cX4_copyFrom 49 = .ok (.aload_n 1, 1) := by decide +kernel
theorem dX4_copyFrom_50 : decode cX4_copyFrom 50 = .ok (.getfield 35, 3) := by decide +kernel
theorem dX4_copyFrom_53 : decode cX4_copyFrom 53 = .ok (.putfield 35, 3) := by decide +kernel
theorem dX4_copyFrom_56 : decode cX4_copyFrom 56 = .ok (.aload_n 0, 1) := by decide +kernel
theorem dX4_copyFrom_57 : decode cX4_copyFrom 57 = .ok (.aload_n 1, 1) := by decide +kernel
theorem dX4_copyFrom_58 : decode cX4_copyFrom 58 = .ok (.getfield 38, 3) := by decide +kernel
theorem dX4_copyFrom_61 : decode cX4_copyFrom 61 = .ok (.putfield 38, 3) := by decide +kernel
theorem dX4_copyFrom_64 : decode cX4_copyFrom 64 = .ok (.iconst 0, 1) := by decide +kernel
theorem dX4_copyFrom_65 : decode cX4_copyFrom 65 = .ok (.istore_n 2, 1) := by decide +kernel
theorem dX4_copyFrom_66 : decode cX4_copyFrom 66 = .ok (.iload_n 2, 1) := by decide +kernel
theorem dX4_copyFrom_67 : decode cX4_copyFrom 67 = .ok (.bipush 8, 2) := by decide +kernel
theorem dX4_copyFrom_69 : decode cX4_copyFrom 69 = .ok (.if_icmp .ge 21, 3) := by decide +kernel
theorem dX4_copyFrom_72 : decode cX4_copyFrom 72 = .ok (.aload_n 0, 1) := by decide +kernel
theorem dX4_copyFrom_73 : decode cX4_copyFrom 73 = .ok (.getfield 9, 3) := by decide +kernel
theorem dX4_copyFrom_76 : decode cX4_copyFrom 76 = .ok (.iload_n 2, 1) := by decide +kernel
theorem dX4_copyFrom_77 : decode cX4_copyFrom 77 = .ok (.aload_n 1, 1) := by decide +kernel
theorem dX4_copyFrom_78 : decode cX4_copyFrom 78 = .ok (.getfield 9, 3) := by decide +kernel
theorem dX4_copyFrom_81 : decode cX4_copyFrom 81 = .ok (.iload_n 2, 1) := by decide +kernel
theorem dX4_copyFrom_82 : decode cX4_copyFrom 82 = .ok (.iaload, 1) := by decide +kernel
theorem dX4_copyFrom_83 : decode cX4_copyFrom 83 = .ok (.iastore, 1) := by decide +kernel
theorem dX4_copyFrom_84 : decode cX4_copyFrom 84 = .ok (.iinc 2 1, 3) := by decide +kernel
theorem dX4_copyFrom_87 : decode cX4_copyFrom 87 = .ok (.goto (-21), 3) := by decide +kernel
theorem dX4_copyFrom_90 : decode cX4_copyFrom 90 = .ok (.return_, 1) := by decide +kernel
theorem dX4_strolls_0 : decode cX4_strolls 0 = .ok (.aload_n 0, 1) := by decide +kernel
theorem dX4_strolls_1 : decode cX4_strolls 1 = .ok (.getfield 25, 3) := by decide +kernel
theorem dX4_strolls_4 : decode cX4_strolls 4 = .ok (.ifCond .ne 15, 3) := by decide +kernel
theorem dX4_strolls_7 : decode cX4_strolls 7 = .ok (.aload_n 0, 1) := by decide +kernel
theorem dX4_strolls_8 : decode cX4_strolls 8 = .ok (.getfield 22, 3) := by decide +kernel
theorem dX4_strolls_11 : decode cX4_strolls 11 = .ok (.iconst (-1), 1) := by decide +kernel
theorem dX4_strolls_12 : decode cX4_strolls 12 = .ok (.if_icmp .ne 7, 3) := by decide +kernel
theorem dX4_strolls_15 : decode cX4_strolls 15 = .ok (.iconst 1, 1) := by decide +kernel
theorem dX4_strolls_16 : decode cX4_strolls 16 = .ok (.goto 4, 3) := by decide +kernel
theorem dX4_strolls_19 : decode cX4_strolls 19 = .ok (.iconst 0, 1) := by decide +kernel
theorem dX4_strolls_20 : decode cX4_strolls 20 = .ok (.ireturn, 1) := by decide +kernel
theorem dX4_state_0 : decode cX4_state 0 = .ok (.aload_n 0, 1) := by decide +kernel
theorem dX4_state_1 : decode cX4_state 1 = .ok (.getfield 25, 3) := by decide +kernel
theorem dX4_state_4 : decode cX4_state 4 = .ok (.ifCond .eq 5, 3) := by decide +kernel
theorem dX4_state_7 : decode cX4_state 7 = .ok (.iconst 2, 1) := by decide +kernel
theorem dX4_state_8 : decode cX4_state 8 = .ok (.ireturn, 1) := by decide +kernel
theorem dX4_state_9 : decode cX4_state 9 = .ok (.aload_n 0, 1) := by decide +kernel
theorem dX4_state_10 : decode cX4_state 10 = .ok (.getfield 22, 3) := by decide +kernel
theorem dX4_state_13 : decode cX4_state 13 = .ok (.iconst (-1), 1) := by decide +kernel
theorem dX4_state_14 : decode cX4_state 14 = .ok (.if_icmp .ne 7, 3) := by decide +kernel
theorem dX4_state_17 : decode cX4_state 17 = .ok (.iconst 0, 1) := by decide +kernel
theorem dX4_state_18 : decode cX4_state 18 = .ok (.goto 4, 3) := by decide +kernel
theorem dX4_state_21 : decode cX4_state 21 = .ok (.iconst 1, 1) := by decide +kernel
theorem dX4_state_22 : decode cX4_state 22 = .ok (.ireturn, 1) := by decide +kernel
theorem dX4_fact_0 : decode cX4_fact 0 = .ok (.iload_n 1, 1) := by decide +kernel
theorem dX4_fact_1 : decode cX4_fact 1 = .ok (.tableswitch 78 0 6 #[43, 48, 53, 58, 63, 68, 73], 43) := by decide +kernel
theorem dX4_fact_44 : decode cX4_fact 44 = .ok (.aload_n 0, 1) := by decide +kernel
theorem dX4_fact_45 : decode cX4_fact 45 = .ok (.getfield 15, 3) := by decide +kernel
theorem dX4_fact_48 : decode cX4_fact 48 = .ok (.ireturn, 1) := by decide +kernel
theorem dX4_fact_49 : decode cX4_fact 49 = .ok (.aload_n 0, 1) := by decide +kernel
theorem dX4_fact_50 : decode cX4_fact 50 = .ok (.getfield 19, 3) := by decide +kernel
theorem dX4_fact_53 : decode cX4_fact 53 = .ok (.ireturn, 1) := by decide +kernel
theorem dX4_fact_54 : decode cX4_fact 54 = .ok (.aload_n 0, 1) := by decide +kernel
theorem dX4_fact_55 : decode cX4_fact 55 = .ok (.invokevirtual 41, 3) := by decide +kernel
theorem dX4_fact_58 : decode cX4_fact 58 = .ok (.ireturn, 1) := by decide +kernel
theorem dX4_fact_59 : decode cX4_fact 59 = .ok (.aload_n 0, 1) := by decide +kernel
theorem dX4_fact_60 : decode cX4_fact 60 = .ok (.getfield 22, 3) := by decide +kernel
theorem dX4_fact_63 : decode cX4_fact 63 = .ok (.ireturn, 1) := by decide +kernel
theorem dX4_fact_64 : decode cX4_fact 64 = .ok (.aload_n 0, 1) := by decide +kernel
theorem dX4_fact_65 : decode cX4_fact 65 = .ok (.getfield 29, 3) := by decide +kernel
theorem dX4_fact_68 : decode cX4_fact 68 = .ok (.ireturn, 1) := by decide +kernel
theorem dX4_fact_69 : decode cX4_fact 69 = .ok (.aload_n 0, 1) := by decide +kernel
theorem dX4_fact_70 : decode cX4_fact 70 = .ok (.getfield 32, 3) := by decide +kernel
theorem dX4_fact_73 : decode cX4_fact 73 = .ok (.ireturn, 1) := by decide +kernel
theorem dX4_fact_74 : decode cX4_fact 74 = .ok (.aload_n 0, 1) := by decide +kernel
theorem dX4_fact_75 : decode cX4_fact 75 = .ok (.getfield 35, 3) := by decide +kernel
theorem dX4_fact_78 : decode cX4_fact 78 = .ok (.ireturn, 1) := by decide +kernel
theorem dX4_fact_79 : decode cX4_fact 79 = .ok (.aload_n 0, 1) := by decide +kernel
theorem dX4_fact_80 : decode cX4_fact 80 = .ok (.getfield 38, 3) := by decide +kernel
theorem dX4_fact_83 : decode cX4_fact 83 = .ok (.ireturn, 1) := by decide +kernel
theorem dX4_foreseenFact_0 : decode cX4_foreseenFact 0 = .ok (.iload_n 1, 1) := by decide +kernel
theorem dX4_foreseenFact_1 : decode cX4_foreseenFact 1 = .ok (.lookupswitch 37 #[(0, 27), (1, 32)], 27) := by decide +kernel
theorem dX4_foreseenFact_28 : decode cX4_foreseenFact 28 = .ok (.aload_n 0, 1) := by decide +kernel
theorem dX4_foreseenFact_29 : decode cX4_foreseenFact 29 = .ok (.getfield 29, 3) := by decide +kernel
theorem dX4_foreseenFact_32 : decode cX4_foreseenFact 32 = .ok (.ireturn, 1) := by decide +kernel
theorem dX4_foreseenFact_33 : decode cX4_foreseenFact 33 = .ok (.aload_n 0, 1) := by decide +kernel
theorem dX4_foreseenFact_34 : decode cX4_foreseenFact 34 = .ok (.getfield 15, 3) := by decide +kernel
theorem dX4_foreseenFact_37 : decode cX4_foreseenFact 37 = .ok (.ireturn, 1) := by decide +kernel
theorem dX4_foreseenFact_38 : decode cX4_foreseenFact 38 = .ok (.aload_n 0, 1) := by decide +kernel
theorem dX4_foreseenFact_39 : decode cX4_foreseenFact 39 = .ok (.getfield 32, 3) := by decide +kernel
theorem dX4_foreseenFact_42 : decode cX4_foreseenFact 42 = .ok (.ireturn, 1) := by decide +kernel
theorem dX5_init_0 : decode cX5_init 0 = .ok (.aload_n 0, 1) := by decide +kernel
theorem dX5_init_1 : decode cX5_init 1 = .ok (.invokespecial 1, 3) := by decide +kernel
theorem dX5_init_4 : decode cX5_init 4 = .ok (.aload_n 0, 1) := by decide +kernel
theorem dX5_init_5 : decode cX5_init 5 = .ok (.new 7, 3) := by decide +kernel
theorem dX5_init_8 : decode cX5_init 8 = .ok (.dup, 1) := by decide +kernel
theorem dX5_init_9 : decode cX5_init 9 = .ok (.invokespecial 9, 3) := by decide +kernel
theorem dX5_init_12 : decode cX5_init 12 = .ok (.putfield 10, 3) := by decide +kernel
theorem dX5_init_15 : decode cX5_init 15 = .ok (.aload_n 0, 1) := by decide +kernel
theorem dX5_init_16 : decode cX5_init 16 = .ok (.new 7, 3) := by decide +kernel
theorem dX5_init_19 : decode cX5_init 19 = .ok (.dup, 1) := by decide +kernel
theorem dX5_init_20 : decode cX5_init 20 = .ok (.invokespecial 9, 3) := by decide +kernel
theorem dX5_init_23 : decode cX5_init 23 = .ok (.putfield 16, 3) := by decide +kernel
theorem dX5_init_26 : decode cX5_init 26 = .ok (.return_, 1) := by decide +kernel
theorem dX5_addBooth_0 : decode cX5_addBooth 0 = .ok (.iload_n 1, 1) := by decide +kernel
theorem dX5_addBooth_1 : decode cX5_addBooth 1 = .ok (.iconst 1, 1) := by decide +kernel
theorem dX5_addBooth_2 : decode cX5_addBooth 2 = .ok (.bipush 9, 2) := by decide +kernel
theorem dX5_addBooth_4 : decode cX5_addBooth 4 = .ok (.invokestatic 19, 3) := by decide +kernel
theorem dX5_addBooth_7 : decode cX5_addBooth 7 = .ok (.iload_n 2, 1) := by decide +kernel
theorem dX5_addBooth_8 : decode cX5_addBooth 8 = .ok (.iconst 0, 1) := by decide +kernel
theorem dX5_addBooth_9 : decode cX5_addBooth 9 = .ok (.bipush 60, 2) := by decide +kernel
theorem dX5_addBooth_11 : decode cX5_addBooth 11 = .ok (.invokestatic 19, 3) := by decide +kernel
theorem dX5_addBooth_14 : decode cX5_addBooth 14 = .ok (.iload_n 3, 1) := by decide +kernel
theorem dX5_addBooth_15 : decode cX5_addBooth 15 = .ok (.iconst 0, 1) := by decide +kernel
theorem dX5_addBooth_16 : decode cX5_addBooth 16 = .ok (.bipush 99, 2) := by decide +kernel
theorem dX5_addBooth_18 : decode cX5_addBooth 18 = .ok (.invokestatic 19, 3) := by decide +kernel
theorem dX5_addBooth_21 : decode cX5_addBooth 21 = .ok (.iload 4, 2) := by decide +kernel
theorem dX5_addBooth_23 : decode cX5_addBooth 23 = .ok (.iconst 1, 1) := by decide +kernel
theorem dX5_addBooth_24 : decode cX5_addBooth 24 = .ok (.iconst 3, 1) := by decide +kernel
theorem dX5_addBooth_25 : decode cX5_addBooth 25 = .ok (.invokestatic 19, 3) := by decide +kernel
theorem dX5_addBooth_28 : decode cX5_addBooth 28 = .ok (.aload_n 0, 1) := by decide +kernel
theorem dX5_addBooth_29 : decode cX5_addBooth 29 = .ok (.getfield 10, 3) := by decide +kernel
theorem dX5_addBooth_32 : decode cX5_addBooth 32 = .ok (.iload_n 1, 1) := by decide +kernel
theorem dX5_addBooth_33 : decode cX5_addBooth 33 = .ok (.iload_n 2, 1) := by decide +kernel
theorem dX5_addBooth_34 : decode cX5_addBooth 34 = .ok (.iload_n 3, 1) := by decide +kernel
theorem dX5_addBooth_35 : decode cX5_addBooth 35 = .ok (.iload 4, 2) := by decide +kernel
theorem dX5_addBooth_37 : decode cX5_addBooth 37 = .ok (.invokevirtual 23, 3) := by decide +kernel
theorem dX5_addBooth_40 : decode cX5_addBooth 40 = .ok (.istore 5, 2) := by decide +kernel
theorem dX5_addBooth_42 : decode cX5_addBooth 42 = .ok (.iload 5, 2) := by decide +kernel
theorem dX5_addBooth_44 : decode cX5_addBooth 44 = .ok (.iconst (-1), 1) := by decide +kernel
theorem dX5_addBooth_45 : decode cX5_addBooth 45 = .ok (.if_icmp .ne 13, 3) := by decide +kernel
theorem dX5_addBooth_48 : decode cX5_addBooth 48 = .ok (.new 27, 3) := by decide +kernel
theorem dX5_addBooth_51 : decode cX5_addBooth 51 = .ok (.dup, 1) := by decide +kernel
theorem dX5_addBooth_52 : decode cX5_addBooth 52 = .ok (.ldc 29, 2) := by decide +kernel
theorem dX5_addBooth_54 : decode cX5_addBooth 54 = .ok (.invokespecial 31, 3) := by decide +kernel
theorem dX5_addBooth_57 : decode cX5_addBooth 57 = .ok (.athrow, 1) := by decide +kernel
theorem dX5_addBooth_58 : decode cX5_addBooth 58 = .ok (.iload 5, 2) := by decide +kernel
theorem dX5_addBooth_60 : decode cX5_addBooth 60 = .ok (.ireturn, 1) := by decide +kernel
theorem dX5_addHelper_0 : decode cX5_addHelper 0 = .ok (.aload_n 0, 1) := by decide +kernel
theorem dX5_addHelper_1 : decode cX5_addHelper 1 = .ok (.getfield 10, 3) := by decide +kernel
theorem dX5_addHelper_4 : decode cX5_addHelper 4 = .ok (.invokevirtual 34, 3) := by decide +kernel
theorem dX5_addHelper_7 : decode cX5_addHelper 7 = .ok (.istore_n 1, 1) := by decide +kernel
theorem dX5_addHelper_8 : decode cX5_addHelper 8 = .ok (.iload_n 1, 1) := by decide +kernel
theorem dX5_addHelper_9 : decode cX5_addHelper 9 = .ok (.iconst (-1), 1) := by decide +kernel
theorem dX5_addHelper_10 : decode cX5_addHelper 10 = .ok (.if_icmp .ne 13, 3) := by decide +kernel
theorem dX5_addHelper_13 : decode cX5_addHelper 13 = .ok (.new 27, 3) := by decide +kernel
theorem dX5_addHelper_16 : decode cX5_addHelper 16 = .ok (.dup, 1) := by decide +kernel
theorem dX5_addHelper_17 : decode cX5_addHelper 17 = .ok (.ldc 38, 2) := by decide +kernel
theorem dX5_addHelper_19 : decode cX5_addHelper 19 = .ok (.invokespecial 31, 3) := by decide +kernel
theorem dX5_addHelper_22 : decode cX5_addHelper 22 = .ok (.athrow, 1) := by decide +kernel
theorem dX5_addHelper_23 : decode cX5_addHelper 23 = .ok (.iload_n 1, 1) := by decide +kernel
theorem dX5_addHelper_24 : decode cX5_addHelper 24 = .ok (.ireturn, 1) := by decide +kernel
theorem dX5_come_0 : decode cX5_come 0 = .ok (.iload_n 1, 1) := by decide +kernel
theorem dX5_come_1 : decode cX5_come 1 = .ok (.iconst 0, 1) := by decide +kernel
theorem dX5_come_2 : decode cX5_come 2 = .ok (.sipush 200, 3) := by decide +kernel
theorem dX5_come_5 : decode cX5_come 5 = .ok (.invokestatic 19, 3) := by decide +kernel
theorem dX5_come_8 : decode cX5_come 8 = .ok (.iload_n 2, 1) := by decide +kernel
theorem dX5_come_9 : decode cX5_come 9 = .ok (.iconst 0, 1) := by decide +kernel
theorem dX5_come_10 : decode cX5_come 10 = .ok (.bipush 30, 2) := by decide +kernel
theorem dX5_come_12 : decode cX5_come 12 = .ok (.invokestatic 19, 3) := by decide +kernel
theorem dX5_come_15 : decode cX5_come 15 = .ok (.aload_n 0, 1) := by decide +kernel
theorem dX5_come_16 : decode cX5_come 16 = .ok (.getfield 10, 3) := by decide +kernel
theorem dX5_come_19 : decode cX5_come 19 = .ok (.iload_n 1, 1) := by decide +kernel
theorem dX5_come_20 : decode cX5_come 20 = .ok (.iload_n 2, 1) := by decide +kernel
theorem dX5_come_21 : decode cX5_come 21 = .ok (.invokevirtual 40, 3) := by decide +kernel
theorem dX5_come_24 : decode cX5_come 24 = .ok (.istore_n 3, 1) := by decide +kernel
theorem dX5_come_25 : decode cX5_come 25 = .ok (.iload_n 3, 1) := by decide +kernel
theorem dX5_come_26 : decode cX5_come 26 = .ok (.iconst (-1), 1) := by decide +kernel
theorem dX5_come_27 : decode cX5_come 27 = .ok (.if_icmp .ne 13, 3) := by decide +kernel
theorem dX5_come_30 : decode cX5_come 30 = .ok (.new 27, 3) := by decide +kernel
theorem dX5_come_33 : decode cX5_come 33 = .ok (.dup, 1) := by decide +kernel
theorem dX5_come_34 : decode cX5_come 34 = .ok (.ldc 44, 2) := by decide +kernel
theorem dX5_come_36 : decode cX5_come 36 = .ok (.invokespecial 31, 3) := by decide +kernel
theorem dX5_come_39 : decode cX5_come 39 = .ok (.athrow, 1) := by decide +kernel
theorem dX5_come_40 : decode cX5_come 40 = .ok (.iload_n 3, 1) := by decide +kernel
theorem dX5_come_41 : decode cX5_come 41 = .ok (.ireturn, 1) := by decide +kernel
theorem dX5_setDart_0 : decode cX5_setDart 0 = .ok (.iload_n 1, 1) := by decide +kernel
theorem dX5_setDart_1 : decode cX5_setDart 1 = .ok (.iconst 1, 1) := by decide +kernel
theorem dX5_setDart_2 : decode cX5_setDart 2 = .ok (.ldc 46, 2) := by decide +kernel
theorem dX5_setDart_4 : decode cX5_setDart 4 = .ok (.invokestatic 19, 3) := by decide +kernel
theorem dX5_setDart_7 : decode cX5_setDart 7 = .ok (.aload_n 0, 1) := by decide +kernel
theorem dX5_setDart_8 : decode cX5_setDart 8 = .ok (.getfield 10, 3) := by decide +kernel
theorem dX5_setDart_11 : decode cX5_setDart 11 = .ok (.getfield 47, 3) := by decide +kernel
theorem dX5_setDart_14 : decode cX5_setDart 14 = .ok (.istore_n 2, 1) := by decide +kernel
theorem dX5_setDart_15 : decode cX5_setDart 15 = .ok (.aload_n 0, 1) := by decide +kernel
theorem dX5_setDart_16 : decode cX5_setDart 16 = .ok (.getfield 10, 3) := by decide +kernel
theorem dX5_setDart_19 : decode cX5_setDart 19 = .ok (.iload_n 1, 1) := by decide +kernel
theorem dX5_setDart_20 : decode cX5_setDart 20 = .ok (.putfield 47, 3) := by decide +kernel
theorem dX5_setDart_23 : decode cX5_setDart 23 = .ok (.iload_n 2, 1) := by decide +kernel
theorem dX5_setDart_24 : decode cX5_setDart 24 = .ok (.ireturn, 1) := by decide +kernel
theorem dX5_work_0 : decode cX5_work 0 = .ok (.aload_n 0, 1) := by decide +kernel
theorem dX5_work_1 : decode cX5_work 1 = .ok (.iload_n 1, 1) := by decide +kernel
theorem dX5_work_2 : decode cX5_work 2 = .ok (.invokevirtual 51, 3) := by decide +kernel
theorem dX5_work_5 : decode cX5_work 5 = .ok (.iload_n 2, 1) := by decide +kernel
theorem dX5_work_6 : decode cX5_work 6 = .ok (.iconst (-1), 1) := by decide +kernel
theorem dX5_work_7 : decode cX5_work 7 = .ok (.if_icmp .eq 8, 3) := by decide +kernel
theorem dX5_work_10 : decode cX5_work 10 = .ok (.aload_n 0, 1) := by decide +kernel
theorem dX5_work_11 : decode cX5_work 11 = .ok (.iload_n 2, 1) := by decide +kernel
theorem dX5_work_12 : decode cX5_work 12 = .ok (.invokevirtual 55, 3) := by decide +kernel
theorem dX5_work_15 : decode cX5_work 15 = .ok (.aload_n 0, 1) := by decide +kernel
theorem dX5_work_16 : decode cX5_work 16 = .ok (.getfield 10, 3) := by decide +kernel
theorem dX5_work_19 : decode cX5_work 19 = .ok (.getfield 58, 3) := by decide +kernel
theorem dX5_work_22 : decode cX5_work 22 = .ok (.iload_n 1, 1) := by decide +kernel
theorem dX5_work_23 : decode cX5_work 23 = .ok (.aaload, 1) := by decide +kernel
theorem dX5_work_24 : decode cX5_work 24 = .ok (.getfield 62, 3) := by decide +kernel
theorem dX5_work_27 : decode cX5_work 27 = .ok (.istore_n 3, 1) := by decide +kernel
theorem dX5_work_28 : decode cX5_work 28 = .ok (.aload_n 0, 1) := by decide +kernel
theorem dX5_work_29 : decode cX5_work 29 = .ok (.getfield 10, 3) := by decide +kernel
theorem dX5_work_32 : decode cX5_work 32 = .ok (.iload_n 1, 1) := by decide +kernel
theorem dX5_work_33 : decode cX5_work 33 = .ok (.iload_n 2, 1) := by decide +kernel
theorem dX5_work_34 : decode cX5_work 34 = .ok (.invokevirtual 67, 3) := by decide +kernel
theorem dX5_work_37 : decode cX5_work 37 = .ok (.iload_n 3, 1) := by decide +kernel
theorem dX5_work_38 : decode cX5_work 38 = .ok (.ireturn, 1) := by decide +kernel
theorem dX5_bring_0 : decode cX5_bring 0 = .ok (.aload_n 0, 1) := by decide +kernel
theorem dX5_bring_1 : decode cX5_bring 1 = .ok (.iload_n 1, 1) := by decide +kernel
theorem dX5_bring_2 : decode cX5_bring 2 = .ok (.invokevirtual 55, 3) := by decide +kernel
theorem dX5_bring_5 : decode cX5_bring 5 = .ok (.iload_n 2, 1) := by decide +kernel
theorem dX5_bring_6 : decode cX5_bring 6 = .ok (.iconst 1, 1) := by decide +kernel
theorem dX5_bring_7 : decode cX5_bring 7 = .ok (.bipush 99, 2) := by decide +kernel
theorem dX5_bring_9 : decode cX5_bring 9 = .ok (.invokestatic 19, 3) := by decide +kernel
theorem dX5_bring_12 : decode cX5_bring 12 = .ok (.aload_n 0, 1) := by decide +kernel
theorem dX5_bring_13 : decode cX5_bring 13 = .ok (.getfield 10, 3) := by decide +kernel
theorem dX5_bring_16 : decode cX5_bring 16 = .ok (.getfield 71, 3) := by decide +kernel
theorem dX5_bring_19 : decode cX5_bring 19 = .ok (.iload_n 1, 1) := by decide +kernel
theorem dX5_bring_20 : decode cX5_bring 20 = .ok (.aaload, 1) := by decide +kernel
theorem dX5_bring_21 : decode cX5_bring 21 = .ok (.astore_n 3, 1) := by decide +kernel
theorem dX5_bring_22 : decode cX5_bring 22 = .ok (.aload_n 3, 1) := by decide +kernel
theorem dX5_bring_23 : decode cX5_bring 23 = .ok (.getfield 75, 3) := by decide +kernel
theorem dX5_bring_26 : decode cX5_bring 26 = .ok (.iload_n 2, 1) := by decide +kernel
theorem dX5_bring_27 : decode cX5_bring 27 = .ok (.iadd, 1) := by decide +kernel
theorem dX5_bring_28 : decode cX5_bring 28 = .ok (.bipush 99, 2) := by decide +kernel
theorem dX5_bring_30 : decode cX5_bring 30 = .ok (.if_icmp .le 13, 3) := by decide +kernel
theorem dX5_bring_33 : decode cX5_bring 33 = .ok (.new 27, 3) := by decide +kernel
theorem dX5_bring_36 : decode cX5_bring 36 = .ok (.dup, 1) := by decide +kernel
theorem dX5_bring_37 : decode cX5_bring 37 = .ok (.ldc 80, 2) := by decide +kernel
theorem dX5_bring_39 : decode cX5_bring 39 = .ok (.invokespecial 31, 3) := by decide +kernel
theorem dX5_bring_42 : decode cX5_bring 42 = .ok (.athrow, 1) := by decide +kernel
theorem dX5_bring_43 : decode cX5_bring 43 = .ok (.aload_n 3, 1) := by decide +kernel
theorem dX5_bring_44 : decode cX5_bring 44 = .ok (.dup, 1) := by decide +kernel
theorem dX5_bring_45 : decode cX5_bring 45 = .ok (.getfield 75, 3) := by decide +kernel
theorem dX5_bring_48 : decode cX5_bring 48 = .ok (.iload_n 2, 1) := by decide +kernel
theorem dX5_bring_49 : decode cX5_bring 49 = .ok (.iadd, 1) := by decide +kernel
theorem dX5_bring_50 : decode cX5_bring 50 = .ok (.putfield 75, 3) := by decide +kernel
theorem dX5_bring_53 : decode cX5_bring 53 = .ok (.aload_n 3, 1) := by decide +kernel
theorem dX5_bring_54 : decode cX5_bring 54 = .ok (.getfield 75, 3) := by decide +kernel
theorem dX5_bring_57 : decode cX5_bring 57 = .ok (.ireturn, 1) := by decide +kernel
theorem dX5_sell_0 : decode cX5_sell 0 = .ok (.aload_n 0, 1) := by decide +kernel
theorem dX5_sell_1 : decode cX5_sell 1 = .ok (.iload_n 1, 1) := by decide +kernel
theorem dX5_sell_2 : decode cX5_sell 2 = .ok (.invokevirtual 82, 3) := by decide +kernel
theorem dX5_sell_5 : decode cX5_sell 5 = .ok (.iload_n 2, 1) := by decide +kernel
theorem dX5_sell_6 : decode cX5_sell 6 = .ok (.iconst 1, 1) := by decide +kernel
theorem dX5_sell_7 : decode cX5_sell 7 = .ok (.sipush 200, 3) := by decide +kernel
theorem dX5_sell_10 : decode cX5_sell 10 = .ok (.invokestatic 19, 3) := by decide +kernel
theorem dX5_sell_13 : decode cX5_sell 13 = .ok (.aload_n 0, 1) := by decide +kernel
theorem dX5_sell_14 : decode cX5_sell 14 = .ok (.getfield 10, 3) := by decide +kernel
theorem dX5_sell_17 : decode cX5_sell 17 = .ok (.getfield 85, 3) := by decide +kernel
theorem dX5_sell_20 : decode cX5_sell 20 = .ok (.iload_n 1, 1) := by decide +kernel
theorem dX5_sell_21 : decode cX5_sell 21 = .ok (.aaload, 1) := by decide +kernel
theorem dX5_sell_22 : decode cX5_sell 22 = .ok (.astore_n 3, 1) := by decide +kernel
theorem dX5_sell_23 : decode cX5_sell 23 = .ok (.aload_n 3, 1) := by decide +kernel
theorem dX5_sell_24 : decode cX5_sell 24 = .ok (.dup, 1) := by decide +kernel
theorem dX5_sell_25 : decode cX5_sell 25 = .ok (.getfield 89, 3) := by decide +kernel
theorem dX5_sell_28 : decode cX5_sell 28 = .ok (.iload_n 2, 1) := by decide +kernel
theorem dX5_sell_29 : decode cX5_sell 29 = .ok (.iadd, 1) := by decide +kernel
theorem dX5_sell_30 : decode cX5_sell 30 = .ok (.putfield 89, 3) := by decide +kernel
theorem dX5_sell_33 : decode cX5_sell 33 = .ok (.aload_n 3, 1) := by decide +kernel
theorem dX5_sell_34 : decode cX5_sell 34 = .ok (.iconst 0, 1) := by decide +kernel
theorem dX5_sell_35 : decode cX5_sell 35 = .ok (.putfield 94, 3) := by decide +kernel
theorem dX5_sell_38 : decode cX5_sell 38 = .ok (.aload_n 3, 1) := by decide +kernel
theorem dX5_sell_39 : decode cX5_sell 39 = .ok (.getfield 89, 3) := by decide +kernel
theorem dX5_sell_42 : decode cX5_sell 42 = .ok (.ireturn, 1) := by decide +kernel
theorem dX5_leave_0 : decode cX5_leave 0 = .ok (.aload_n 0, 1) := by decide +kernel
theorem dX5_leave_1 : decode cX5_leave 1 = .ok (.iload_n 1, 1) := by decide +kernel
theorem dX5_leave_2 : decode cX5_leave 2 = .ok (.invokevirtual 82, 3) := by decide +kernel
theorem dX5_leave_5 : decode cX5_leave 5 = .ok (.aload_n 0, 1) := by decide +kernel
theorem dX5_leave_6 : decode cX5_leave 6 = .ok (.getfield 10, 3) := by decide +kernel
theorem dX5_leave_9 : decode cX5_leave 9 = .ok (.iload_n 1, 1) := by decide +kernel
theorem dX5_leave_10 : decode cX5_leave 10 = .ok (.invokevirtual 98, 3) := by decide +kernel
theorem dX5_leave_13 : decode cX5_leave 13 = .ok (.ireturn, 1) := by decide +kernel
theorem dX5_booth_0 : decode cX5_booth 0 = .ok (.aload_n 0, 1) := by decide +kernel
theorem dX5_booth_1 : decode cX5_booth 1 = .ok (.iload_n 1, 1) := by decide +kernel
theorem dX5_booth_2 : decode cX5_booth 2 = .ok (.invokevirtual 55, 3) := by decide +kernel
theorem dX5_booth_5 : decode cX5_booth 5 = .ok (.iload_n 2, 1) := by decide +kernel
theorem dX5_booth_6 : decode cX5_booth 6 = .ok (.bipush 10, 2) := by decide +kernel
theorem dX5_booth_8 : decode cX5_booth 8 = .ok (.invokestatic 102, 3) := by decide +kernel
theorem dX5_booth_11 : decode cX5_booth 11 = .ok (.aload_n 0, 1) := by decide +kernel
theorem dX5_booth_12 : decode cX5_booth 12 = .ok (.getfield 10, 3) := by decide +kernel
theorem dX5_booth_15 : decode cX5_booth 15 = .ok (.iload_n 1, 1) := by decide +kernel
theorem dX5_booth_16 : decode cX5_booth 16 = .ok (.iload_n 2, 1) := by decide +kernel
theorem dX5_booth_17 : decode cX5_booth 17 = .ok (.invokevirtual 105, 3) := by decide +kernel
theorem dX5_booth_20 : decode cX5_booth 20 = .ok (.ireturn, 1) := by decide +kernel
theorem dX5_queue_0 : decode cX5_queue 0 = .ok (.aload_n 0, 1) := by decide +kernel
theorem dX5_queue_1 : decode cX5_queue 1 = .ok (.iload_n 1, 1) := by decide +kernel
theorem dX5_queue_2 : decode cX5_queue 2 = .ok (.invokevirtual 55, 3) := by decide +kernel
theorem dX5_queue_5 : decode cX5_queue 5 = .ok (.aload_n 0, 1) := by decide +kernel
theorem dX5_queue_6 : decode cX5_queue 6 = .ok (.getfield 10, 3) := by decide +kernel
theorem dX5_queue_9 : decode cX5_queue 9 = .ok (.getfield 71, 3) := by decide +kernel
theorem dX5_queue_12 : decode cX5_queue 12 = .ok (.iload_n 1, 1) := by decide +kernel
theorem dX5_queue_13 : decode cX5_queue 13 = .ok (.aaload, 1) := by decide +kernel
theorem dX5_queue_14 : decode cX5_queue 14 = .ok (.astore_n 3, 1) := by decide +kernel
theorem dX5_queue_15 : decode cX5_queue 15 = .ok (.iload_n 2, 1) := by decide +kernel
theorem dX5_queue_16 : decode cX5_queue 16 = .ok (.ifCond .lt 11, 3) := by decide +kernel
theorem dX5_queue_19 : decode cX5_queue 19 = .ok (.iload_n 2, 1) := by decide +kernel
