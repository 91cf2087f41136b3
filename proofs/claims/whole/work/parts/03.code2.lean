theorem dX9_record_0 : decode cX9_record 0 = .ok (.aload_n 0, 1) ∧ 0 + 1 = 1 := ⟨by decide +kernel, rfl⟩
theorem dX9_record_1 : decode cX9_record 1 = .ok (.getfield 60, 3) ∧ 1 + 3 = 4 := ⟨by decide +kernel, rfl⟩
theorem dX9_record_4 : decode cX9_record 4 = .ok (.iconst 5, 1) ∧ 4 + 1 = 5 := ⟨by decide +kernel, rfl⟩
theorem dX9_record_5 : decode cX9_record 5 = .ok (.if_icmp .ne 44, 3) ∧ 5 + 3 = 8 ∧ ((5 : Nat) : Int) + (44) = ((49 : Nat) : Int) := ⟨by decide +kernel, rfl, rfl⟩
theorem dX9_record_8 : decode cX9_record 8 = .ok (.iconst 0, 1) ∧ 8 + 1 = 9 := ⟨by decide +kernel, rfl⟩
theorem dX9_record_9 : decode cX9_record 9 = .ok (.istore_n 1, 1) ∧ 9 + 1 = 10 := ⟨by decide +kernel, rfl⟩
theorem dX9_record_10 : decode cX9_record 10 = .ok (.iload_n 1, 1) ∧ 10 + 1 = 11 := ⟨by decide +kernel, rfl⟩
theorem dX9_record_11 : decode cX9_record 11 = .ok (.sipush 9976, 3) ∧ 11 + 3 = 14 := ⟨by decide +kernel, rfl⟩
theorem dX9_record_14 : decode cX9_record 14 = .ok (.if_icmp .ge 25, 3) ∧ 14 + 3 = 17 ∧ ((14 : Nat) : Int) + (25) = ((39 : Nat) : Int) := ⟨by decide +kernel, rfl, rfl⟩
theorem dX9_record_17 : decode cX9_record 17 = .ok (.aload_n 0, 1) ∧ 17 + 1 = 18 := ⟨by decide +kernel, rfl⟩
theorem dX9_record_18 : decode cX9_record 18 = .ok (.getfield 13, 3) ∧ 18 + 3 = 21 := ⟨by decide +kernel, rfl⟩
theorem dX9_record_21 : decode cX9_record 21 = .ok (.iload_n 1, 1) ∧ 21 + 1 = 22 := ⟨by decide +kernel, rfl⟩
theorem dX9_record_22 : decode cX9_record 22 = .ok (.aload_n 0, 1) ∧ 22 + 1 = 23 := ⟨by decide +kernel, rfl⟩
theorem dX9_record_23 : decode cX9_record 23 = .ok (.getfield 13, 3) ∧ 23 + 3 = 26 := ⟨by decide +kernel, rfl⟩
theorem dX9_record_26 : decode cX9_record 26 = .ok (.iload_n 1, 1) ∧ 26 + 1 = 27 := ⟨by decide +kernel, rfl⟩
theorem dX9_record_27 : decode cX9_record 27 = .ok (.sipush 2494, 3) ∧ 27 + 3 = 30 := ⟨by decide +kernel, rfl⟩
theorem dX9_record_30 : decode cX9_record 30 = .ok (.iadd, 1) ∧ 30 + 1 = 31 := ⟨by decide +kernel, rfl⟩
theorem dX9_record_31 : decode cX9_record 31 = .ok (.iaload, 1) ∧ 31 + 1 = 32 := ⟨by decide +kernel, rfl⟩
theorem dX9_record_32 : decode cX9_record 32 = .ok (.iastore, 1) ∧ 32 + 1 = 33 := ⟨by decide +kernel, rfl⟩
theorem dX9_record_33 : decode cX9_record 33 = .ok (.iinc 1 1, 3) ∧ 33 + 3 = 36 := ⟨by decide +kernel, rfl⟩
theorem dX9_record_36 : decode cX9_record 36 = .ok (.goto (-26), 3) ∧ 36 + 3 = 39 ∧ ((36 : Nat) : Int) + (-26) = ((10 : Nat) : Int) := ⟨by decide +kernel, rfl, rfl⟩
theorem dX9_record_39 : decode cX9_record 39 = .ok (.aload_n 0, 1) ∧ 39 + 1 = 40 := ⟨by decide +kernel, rfl⟩
theorem dX9_record_40 : decode cX9_record 40 = .ok (.dup, 1) ∧ 40 + 1 = 41 := ⟨by decide +kernel, rfl⟩
theorem dX9_record_41 : decode cX9_record 41 = .ok (.getfield 60, 3) ∧ 41 + 3 = 44 := ⟨by decide +kernel, rfl⟩
theorem dX9_record_44 : decode cX9_record 44 = .ok (.iconst 1, 1) ∧ 44 + 1 = 45 := ⟨by decide +kernel, rfl⟩
theorem dX9_record_45 : decode cX9_record 45 = .ok (.isub, 1) ∧ 45 + 1 = 46 := ⟨by decide +kernel, rfl⟩
theorem dX9_record_46 : decode cX9_record 46 = .ok (.putfield 60, 3) ∧ 46 + 3 = 49 := ⟨by decide +kernel, rfl⟩
theorem dX9_record_49 : decode cX9_record 49 = .ok (.iconst 0, 1) ∧ 49 + 1 = 50 := ⟨by decide +kernel, rfl⟩
theorem dX9_record_50 : decode cX9_record 50 = .ok (.istore_n 1, 1) ∧ 50 + 1 = 51 := ⟨by decide +kernel, rfl⟩
theorem dX9_record_51 : decode cX9_record 51 = .ok (.iload_n 1, 1) ∧ 51 + 1 = 52 := ⟨by decide +kernel, rfl⟩
theorem dX9_record_52 : decode cX9_record 52 = .ok (.sipush 2494, 3) ∧ 52 + 3 = 55 := ⟨by decide +kernel, rfl⟩
theorem dX9_record_55 : decode cX9_record 55 = .ok (.if_icmp .ge 30, 3) ∧ 55 + 3 = 58 ∧ ((55 : Nat) : Int) + (30) = ((85 : Nat) : Int) := ⟨by decide +kernel, rfl, rfl⟩
theorem dX9_record_58 : decode cX9_record 58 = .ok (.aload_n 0, 1) ∧ 58 + 1 = 59 := ⟨by decide +kernel, rfl⟩
theorem dX9_record_59 : decode cX9_record 59 = .ok (.getfield 13, 3) ∧ 59 + 3 = 62 := ⟨by decide +kernel, rfl⟩
theorem dX9_record_62 : decode cX9_record 62 = .ok (.sipush 2494, 3) ∧ 62 + 3 = 65 := ⟨by decide +kernel, rfl⟩
theorem dX9_record_65 : decode cX9_record 65 = .ok (.aload_n 0, 1) ∧ 65 + 1 = 66 := ⟨by decide +kernel, rfl⟩
theorem dX9_record_66 : decode cX9_record 66 = .ok (.getfield 60, 3) ∧ 66 + 3 = 69 := ⟨by decide +kernel, rfl⟩
theorem dX9_record_69 : decode cX9_record 69 = .ok (.imul, 1) ∧ 69 + 1 = 70 := ⟨by decide +kernel, rfl⟩
theorem dX9_record_70 : decode cX9_record 70 = .ok (.iload_n 1, 1) ∧ 70 + 1 = 71 := ⟨by decide +kernel, rfl⟩
theorem dX9_record_71 : decode cX9_record 71 = .ok (.iadd, 1) ∧ 71 + 1 = 72 := ⟨by decide +kernel, rfl⟩
theorem dX9_record_72 : decode cX9_record 72 = .ok (.aload_n 0, 1) ∧ 72 + 1 = 73 := ⟨by decide +kernel, rfl⟩
theorem dX9_record_73 : decode cX9_record 73 = .ok (.getfield 19, 3) ∧ 73 + 3 = 76 := ⟨by decide +kernel, rfl⟩
theorem dX9_record_76 : decode cX9_record 76 = .ok (.iload_n 1, 1) ∧ 76 + 1 = 77 := ⟨by decide +kernel, rfl⟩
theorem dX9_record_77 : decode cX9_record 77 = .ok (.iaload, 1) ∧ 77 + 1 = 78 := ⟨by decide +kernel, rfl⟩
theorem dX9_record_78 : decode cX9_record 78 = .ok (.iastore, 1) ∧ 78 + 1 = 79 := ⟨by decide +kernel, rfl⟩
theorem dX9_record_79 : decode cX9_record 79 = .ok (.iinc 1 1, 3) ∧ 79 + 3 = 82 := ⟨by decide +kernel, rfl⟩
theorem dX9_record_82 : decode cX9_record 82 = .ok (.goto (-31), 3) ∧ 82 + 3 = 85 ∧ ((82 : Nat) : Int) + (-31) = ((51 : Nat) : Int) := ⟨by decide +kernel, rfl, rfl⟩
theorem dX9_record_85 : decode cX9_record 85 = .ok (.aload_n 0, 1) ∧ 85 + 1 = 86 := ⟨by decide +kernel, rfl⟩
theorem dX9_record_86 : decode cX9_record 86 = .ok (.dup, 1) ∧ 86 + 1 = 87 := ⟨by decide +kernel, rfl⟩
theorem dX9_record_87 : decode cX9_record 87 = .ok (.getfield 60, 3) ∧ 87 + 3 = 90 := ⟨by decide +kernel, rfl⟩
theorem dX9_record_90 : decode cX9_record 90 = .ok (.iconst 1, 1) ∧ 90 + 1 = 91 := ⟨by decide +kernel, rfl⟩
theorem dX9_record_91 : decode cX9_record 91 = .ok (.iadd, 1) ∧ 91 + 1 = 92 := ⟨by decide +kernel, rfl⟩
theorem dX9_record_92 : decode cX9_record 92 = .ok (.putfield 60, 3) ∧ 92 + 3 = 95 := ⟨by decide +kernel, rfl⟩
theorem dX9_record_95 : decode cX9_record 95 = .ok (.return_, 1) ∧ 95 + 1 = 96 := ⟨by decide +kernel, rfl⟩
theorem dX9_of_0 : decode cX9_of 0 = .ok (.aload_n 0, 1) ∧ 0 + 1 = 1 := ⟨by decide +kernel, rfl⟩
theorem dX9_of_1 : decode cX9_of 1 = .ok (.getfield 7, 3) ∧ 1 + 3 = 4 := ⟨by decide +kernel, rfl⟩
theorem dX9_of_4 : decode cX9_of 4 = .ok (.iconst 2, 1) ∧ 4 + 1 = 5 := ⟨by decide +kernel, rfl⟩
theorem dX9_of_5 : decode cX9_of 5 = .ok (.bipush 52, 2) ∧ 5 + 2 = 7 := ⟨by decide +kernel, rfl⟩
theorem dX9_of_7 : decode cX9_of 7 = .ok (.iload_n 1, 1) ∧ 7 + 1 = 8 := ⟨by decide +kernel, rfl⟩
theorem dX9_of_8 : decode cX9_of 8 = .ok (.imul, 1) ∧ 8 + 1 = 9 := ⟨by decide +kernel, rfl⟩
theorem dX9_of_9 : decode cX9_of 9 = .ok (.iadd, 1) ∧ 9 + 1 = 10 := ⟨by decide +kernel, rfl⟩
theorem dX9_of_10 : decode cX9_of 10 = .ok (.iload_n 2, 1) ∧ 10 + 1 = 11 := ⟨by decide +kernel, rfl⟩
theorem dX9_of_11 : decode cX9_of 11 = .ok (.iadd, 1) ∧ 11 + 1 = 12 := ⟨by decide +kernel, rfl⟩
theorem dX9_of_12 : decode cX9_of 12 = .ok (.iaload, 1) ∧ 12 + 1 = 13 := ⟨by decide +kernel, rfl⟩
theorem dX9_of_13 : decode cX9_of 13 = .ok (.ireturn, 1) ∧ 13 + 1 = 14 := ⟨by decide +kernel, rfl⟩
theorem dX9_to_0 : decode cX9_to 0 = .ok (.aload_n 0, 1) ∧ 0 + 1 = 1 := ⟨by decide +kernel, rfl⟩
theorem dX9_to_1 : decode cX9_to 1 = .ok (.getfield 7, 3) ∧ 1 + 3 = 4 := ⟨by decide +kernel, rfl⟩
theorem dX9_to_4 : decode cX9_to 4 = .ok (.iconst 2, 1) ∧ 4 + 1 = 5 := ⟨by decide +kernel, rfl⟩
theorem dX9_to_5 : decode cX9_to 5 = .ok (.bipush 52, 2) ∧ 5 + 2 = 7 := ⟨by decide +kernel, rfl⟩
theorem dX9_to_7 : decode cX9_to 7 = .ok (.iload_n 1, 1) ∧ 7 + 1 = 8 := ⟨by decide +kernel, rfl⟩
theorem dX9_to_8 : decode cX9_to 8 = .ok (.imul, 1) ∧ 8 + 1 = 9 := ⟨by decide +kernel, rfl⟩
theorem dX9_to_9 : decode cX9_to 9 = .ok (.iadd, 1) ∧ 9 + 1 = 10 := ⟨by decide +kernel, rfl⟩
theorem dX9_to_10 : decode cX9_to 10 = .ok (.iload_n 2, 1) ∧ 10 + 1 = 11 := ⟨by decide +kernel, rfl⟩
theorem dX9_to_11 : decode cX9_to 11 = .ok (.iadd, 1) ∧ 11 + 1 = 12 := ⟨by decide +kernel, rfl⟩
theorem dX9_to_12 : decode cX9_to 12 = .ok (.iload_n 3, 1) ∧ 12 + 1 = 13 := ⟨by decide +kernel, rfl⟩
theorem dX9_to_13 : decode cX9_to 13 = .ok (.iastore, 1) ∧ 13 + 1 = 14 := ⟨by decide +kernel, rfl⟩
theorem dX9_to_14 : decode cX9_to 14 = .ok (.return_, 1) ∧ 14 + 1 = 15 := ⟨by decide +kernel, rfl⟩
theorem dX9_kid_0 : decode cX9_kid 0 = .ok (.aload_n 0, 1) ∧ 0 + 1 = 1 := ⟨by decide +kernel, rfl⟩
theorem dX9_kid_1 : decode cX9_kid 1 = .ok (.iload_n 1, 1) ∧ 1 + 1 = 2 := ⟨by decide +kernel, rfl⟩
theorem dX9_kid_2 : decode cX9_kid 2 = .ok (.bipush 12, 2) ∧ 2 + 2 = 4 := ⟨by decide +kernel, rfl⟩
theorem dX9_kid_4 : decode cX9_kid 4 = .ok (.iload_n 2, 1) ∧ 4 + 1 = 5 := ⟨by decide +kernel, rfl⟩
theorem dX9_kid_5 : decode cX9_kid 5 = .ok (.iadd, 1) ∧ 5 + 1 = 6 := ⟨by decide +kernel, rfl⟩
theorem dX9_kid_6 : decode cX9_kid 6 = .ok (.invokevirtual 64, 3) ∧ 6 + 3 = 9 := ⟨by decide +kernel, rfl⟩
theorem dX9_kid_9 : decode cX9_kid 9 = .ok (.ireturn, 1) ∧ 9 + 1 = 10 := ⟨by decide +kernel, rfl⟩
theorem dX9_at_0 : decode cX9_at 0 = .ok (.aload_n 0, 1) ∧ 0 + 1 = 1 := ⟨by decide +kernel, rfl⟩
theorem dX9_at_1 : decode cX9_at 1 = .ok (.getfield 7, 3) ∧ 1 + 3 = 4 := ⟨by decide +kernel, rfl⟩
theorem dX9_at_4 : decode cX9_at 4 = .ok (.sipush 2134, 3) ∧ 4 + 3 = 7 := ⟨by decide +kernel, rfl⟩
theorem dX9_at_7 : decode cX9_at 7 = .ok (.iconst 3, 1) ∧ 7 + 1 = 8 := ⟨by decide +kernel, rfl⟩
theorem dX9_at_8 : decode cX9_at 8 = .ok (.iload_n 1, 1) ∧ 8 + 1 = 9 := ⟨by decide +kernel, rfl⟩
theorem dX9_at_9 : decode cX9_at 9 = .ok (.imul, 1) ∧ 9 + 1 = 10 := ⟨by decide +kernel, rfl⟩
theorem dX9_at_10 : decode cX9_at 10 = .ok (.iadd, 1) ∧ 10 + 1 = 11 := ⟨by decide +kernel, rfl⟩
theorem dX9_at_11 : decode cX9_at 11 = .ok (.iload_n 2, 1) ∧ 11 + 1 = 12 := ⟨by decide +kernel, rfl⟩
theorem dX9_at_12 : decode cX9_at 12 = .ok (.iadd, 1) ∧ 12 + 1 = 13 := ⟨by decide +kernel, rfl⟩
theorem dX9_at_13 : decode cX9_at 13 = .ok (.iaload, 1) ∧ 13 + 1 = 14 := ⟨by decide +kernel, rfl⟩
theorem dX9_at_14 : decode cX9_at 14 = .ok (.ireturn, 1) ∧ 14 + 1 = 15 := ⟨by decide +kernel, rfl⟩
theorem dX9_spareAt_0 : decode cX9_spareAt 0 = .ok (.aload_n 0, 1) ∧ 0 + 1 = 1 := ⟨by decide +kernel, rfl⟩
theorem dX9_spareAt_1 : decode cX9_spareAt 1 = .ok (.getfield 19, 3) ∧ 1 + 3 = 4 := ⟨by decide +kernel, rfl⟩
theorem dX9_spareAt_4 : decode cX9_spareAt 4 = .ok (.sipush 2134, 3) ∧ 4 + 3 = 7 := ⟨by decide +kernel, rfl⟩
theorem dX9_spareAt_7 : decode cX9_spareAt 7 = .ok (.iconst 3, 1) ∧ 7 + 1 = 8 := ⟨by decide +kernel, rfl⟩
theorem dX9_spareAt_8 : decode cX9_spareAt 8 = .ok (.iload_n 1, 1) ∧ 8 + 1 = 9 := ⟨by decide +kernel, rfl⟩
theorem dX9_spareAt_9 : decode cX9_spareAt 9 = .ok (.imul, 1) ∧ 9 + 1 = 10 := ⟨by decide +kernel, rfl⟩
theorem dX9_spareAt_10 : decode cX9_spareAt 10 = .ok (.iadd, 1) ∧ 10 + 1 = 11 := ⟨by decide +kernel, rfl⟩
theorem dX9_spareAt_11 : decode cX9_spareAt 11 = .ok (.iload_n 2, 1) ∧ 11 + 1 = 12 := ⟨by decide +kernel, rfl⟩
theorem dX9_spareAt_12 : decode cX9_spareAt 12 = .ok (.iadd, 1) ∧ 12 + 1 = 13 := ⟨by decide +kernel, rfl⟩
theorem dX9_spareAt_13 : decode cX9_spareAt 13 = .ok (.iaload, 1) ∧ 13 + 1 = 14 := ⟨by decide +kernel, rfl⟩
theorem dX9_spareAt_14 : decode cX9_spareAt 14 = .ok (.ireturn, 1) ∧ 14 + 1 = 15 := ⟨by decide +kernel, rfl⟩
theorem dX9_spareChild_0 : decode cX9_spareChild 0 = .ok (.iload_n 1, 1) ∧ 0 + 1 = 1 := ⟨by decide +kernel, rfl⟩
theorem dX9_spareChild_1 : decode cX9_spareChild 1 = .ok (.ifCond .ge 7, 3) ∧ 1 + 3 = 4 ∧ ((1 : Nat) : Int) + (7) = ((8 : Nat) : Int) := ⟨by decide +kernel, rfl, rfl⟩
theorem dX9_spareChild_4 : decode cX9_spareChild 4 = .ok (.iconst 0, 1) ∧ 4 + 1 = 5 := ⟨by decide +kernel, rfl⟩
theorem dX9_spareChild_5 : decode cX9_spareChild 5 = .ok (.goto 9, 3) ∧ 5 + 3 = 8 ∧ ((5 : Nat) : Int) + (9) = ((14 : Nat) : Int) := ⟨by decide +kernel, rfl, rfl⟩
theorem dX9_spareChild_8 : decode cX9_spareChild 8 = .ok (.aload_n 0, 1) ∧ 8 + 1 = 9 := ⟨by decide +kernel, rfl⟩
theorem dX9_spareChild_9 : decode cX9_spareChild 9 = .ok (.iload_n 1, 1) ∧ 9 + 1 = 10 := ⟨by decide +kernel, rfl⟩
theorem dX9_spareChild_10 : decode cX9_spareChild 10 = .ok (.iconst 1, 1) ∧ 10 + 1 = 11 := ⟨by decide +kernel, rfl⟩
theorem dX9_spareChild_11 : decode cX9_spareChild 11 = .ok (.invokevirtual 68, 3) ∧ 11 + 3 = 14 := ⟨by decide +kernel, rfl⟩
theorem dX9_spareChild_14 : decode cX9_spareChild 14 = .ok (.istore_n 3, 1) ∧ 14 + 1 = 15 := ⟨by decide +kernel, rfl⟩
theorem dX9_spareChild_15 : decode cX9_spareChild 15 = .ok (.iload_n 1, 1) ∧ 15 + 1 = 16 := ⟨by decide +kernel, rfl⟩
theorem dX9_spareChild_16 : decode cX9_spareChild 16 = .ok (.iconst 1, 1) ∧ 16 + 1 = 17 := ⟨by decide +kernel, rfl⟩
theorem dX9_spareChild_17 : decode cX9_spareChild 17 = .ok (.iadd, 1) ∧ 17 + 1 = 18 := ⟨by decide +kernel, rfl⟩
theorem dX9_spareChild_18 : decode cX9_spareChild 18 = .ok (.istore 4, 2) ∧ 18 + 2 = 20 := ⟨by decide +kernel, rfl⟩
theorem dX9_spareChild_20 : decode cX9_spareChild 20 = .ok (.iload 4, 2) ∧ 20 + 2 = 22 := ⟨by decide +kernel, rfl⟩
theorem dX9_spareChild_22 : decode cX9_spareChild 22 = .ok (.aload_n 0, 1) ∧ 22 + 1 = 23 := ⟨by decide +kernel, rfl⟩
theorem dX9_spareChild_23 : decode cX9_spareChild 23 = .ok (.getfield 19, 3) ∧ 23 + 3 = 26 := ⟨by decide +kernel, rfl⟩
theorem dX9_spareChild_26 : decode cX9_spareChild 26 = .ok (.iconst 1, 1) ∧ 26 + 1 = 27 := ⟨by decide +kernel, rfl⟩
theorem dX9_spareChild_27 : decode cX9_spareChild 27 = .ok (.iaload, 1) ∧ 27 + 1 = 28 := ⟨by decide +kernel, rfl⟩
theorem dX9_spareChild_28 : decode cX9_spareChild 28 = .ok (.if_icmp .ge 47, 3) ∧ 28 + 3 = 31 ∧ ((28 : Nat) : Int) + (47) = ((75 : Nat) : Int) := ⟨by decide +kernel, rfl, rfl⟩
theorem dX9_spareChild_31 : decode cX9_spareChild 31 = .ok (.aload_n 0, 1) ∧ 31 + 1 = 32 := ⟨by decide +kernel, rfl⟩
theorem dX9_spareChild_32 : decode cX9_spareChild 32 = .ok (.iload 4, 2) ∧ 32 + 2 = 34 := ⟨by decide +kernel, rfl⟩
theorem dX9_spareChild_34 : decode cX9_spareChild 34 = .ok (.iconst 1, 1) ∧ 34 + 1 = 35 := ⟨by decide +kernel, rfl⟩
theorem dX9_spareChild_35 : decode cX9_spareChild 35 = .ok (.invokevirtual 68, 3) ∧ 35 + 3 = 38 := ⟨by decide +kernel, rfl⟩
theorem dX9_spareChild_38 : decode cX9_spareChild 38 = .ok (.iload_n 3, 1) ∧ 38 + 1 = 39 := ⟨by decide +kernel, rfl⟩
theorem dX9_spareChild_39 : decode cX9_spareChild 39 = .ok (.if_icmp .le 36, 3) ∧ 39 + 3 = 42 ∧ ((39 : Nat) : Int) + (36) = ((75 : Nat) : Int) := ⟨by decide +kernel, rfl, rfl⟩
theorem dX9_spareChild_42 : decode cX9_spareChild 42 = .ok (.aload_n 0, 1) ∧ 42 + 1 = 43 := ⟨by decide +kernel, rfl⟩
theorem dX9_spareChild_43 : decode cX9_spareChild 43 = .ok (.iload 4, 2) ∧ 43 + 2 = 45 := ⟨by decide +kernel, rfl⟩
theorem dX9_spareChild_45 : decode cX9_spareChild 45 = .ok (.iconst 1, 1) ∧ 45 + 1 = 46 := ⟨by decide +kernel, rfl⟩
theorem dX9_spareChild_46 : decode cX9_spareChild 46 = .ok (.invokevirtual 68, 3) ∧ 46 + 3 = 49 := ⟨by decide +kernel, rfl⟩
theorem dX9_spareChild_49 : decode cX9_spareChild 49 = .ok (.iload_n 3, 1) ∧ 49 + 1 = 50 := ⟨by decide +kernel, rfl⟩
theorem dX9_spareChild_50 : decode cX9_spareChild 50 = .ok (.iconst 1, 1) ∧ 50 + 1 = 51 := ⟨by decide +kernel, rfl⟩
theorem dX9_spareChild_51 : decode cX9_spareChild 51 = .ok (.iadd, 1) ∧ 51 + 1 = 52 := ⟨by decide +kernel, rfl⟩
theorem dX9_spareChild_52 : decode cX9_spareChild 52 = .ok (.if_icmp .ne 17, 3) ∧ 52 + 3 = 55 ∧ ((52 : Nat) : Int) + (17) = ((69 : Nat) : Int) := ⟨by decide +kernel, rfl, rfl⟩
theorem dX9_spareChild_55 : decode cX9_spareChild 55 = .ok (.aload_n 0, 1) ∧ 55 + 1 = 56 := ⟨by decide +kernel, rfl⟩
theorem dX9_spareChild_56 : decode cX9_spareChild 56 = .ok (.iload 4, 2) ∧ 56 + 2 = 58 := ⟨by decide +kernel, rfl⟩
theorem dX9_spareChild_58 : decode cX9_spareChild 58 = .ok (.iconst 0, 1) ∧ 58 + 1 = 59 := ⟨by decide +kernel, rfl⟩
theorem dX9_spareChild_59 : decode cX9_spareChild 59 = .ok (.invokevirtual 68, 3) ∧ 59 + 3 = 62 := ⟨by decide +kernel, rfl⟩
theorem dX9_spareChild_62 : decode cX9_spareChild 62 = .ok (.iload_n 2, 1) ∧ 62 + 1 = 63 := ⟨by decide +kernel, rfl⟩
theorem dX9_spareChild_63 : decode cX9_spareChild 63 = .ok (.if_icmp .ne 6, 3) ∧ 63 + 3 = 66 ∧ ((63 : Nat) : Int) + (6) = ((69 : Nat) : Int) := ⟨by decide +kernel, rfl, rfl⟩
theorem dX9_spareChild_66 : decode cX9_spareChild 66 = .ok (.iload 4, 2) ∧ 66 + 2 = 68 := ⟨by decide +kernel, rfl⟩
theorem dX9_spareChild_68 : decode cX9_spareChild 68 = .ok (.ireturn, 1) ∧ 68 + 1 = 69 := ⟨by decide +kernel, rfl⟩
theorem dX9_spareChild_69 : decode cX9_spareChild 69 = .ok (.iinc 4 1, 3) ∧ 69 + 3 = 72 := ⟨by decide +kernel, rfl⟩
theorem dX9_spareChild_72 : decode cX9_spareChild 72 = .ok (.goto (-52), 3) ∧ 72 + 3 = 75 ∧ ((72 : Nat) : Int) + (-52) = ((20 : Nat) : Int) := ⟨by decide +kernel, rfl, rfl⟩
theorem dX9_spareChild_75 : decode cX9_spareChild 75 = .ok (.bipush (-6), 2) ∧ 75 + 2 = 77 := ⟨by decide +kernel, rfl⟩
theorem dX9_spareChild_77 : decode cX9_spareChild 77 = .ok (.ireturn, 1) ∧ 77 + 1 = 78 := ⟨by decide +kernel, rfl⟩
theorem dX9_layPlaces_0 : decode cX9_layPlaces 0 = .ok (.iconst 0, 1) ∧ 0 + 1 = 1 := ⟨by decide +kernel, rfl⟩
theorem dX9_layPlaces_1 : decode cX9_layPlaces 1 = .ok (.istore_n 1, 1) ∧ 1 + 1 = 2 := ⟨by decide +kernel, rfl⟩
theorem dX9_layPlaces_2 : decode cX9_layPlaces 2 = .ok (.iconst 0, 1) ∧ 2 + 1 = 3 := ⟨by decide +kernel, rfl⟩
theorem dX9_layPlaces_3 : decode cX9_layPlaces 3 = .ok (.istore_n 2, 1) ∧ 3 + 1 = 4 := ⟨by decide +kernel, rfl⟩
theorem dX9_layPlaces_4 : decode cX9_layPlaces 4 = .ok (.aload_n 0, 1) ∧ 4 + 1 = 5 := ⟨by decide +kernel, rfl⟩
theorem dX9_layPlaces_5 : decode cX9_layPlaces 5 = .ok (.getfield 25, 3) ∧ 5 + 3 = 8 := ⟨by decide +kernel, rfl⟩
theorem dX9_layPlaces_8 : decode cX9_layPlaces 8 = .ok (.iconst 0, 1) ∧ 8 + 1 = 9 := ⟨by decide +kernel, rfl⟩
theorem dX9_layPlaces_9 : decode cX9_layPlaces 9 = .ok (.iconst 0, 1) ∧ 9 + 1 = 10 := ⟨by decide +kernel, rfl⟩
theorem dX9_layPlaces_10 : decode cX9_layPlaces 10 = .ok (.iastore, 1) ∧ 10 + 1 = 11 := ⟨by decide +kernel, rfl⟩
theorem dX9_layPlaces_11 : decode cX9_layPlaces 11 = .ok (.aload_n 0, 1) ∧ 11 + 1 = 12 := ⟨by decide +kernel, rfl⟩
theorem dX9_layPlaces_12 : decode cX9_layPlaces 12 = .ok (.getfield 22, 3) ∧ 12 + 3 = 15 := ⟨by decide +kernel, rfl⟩
theorem dX9_layPlaces_15 : decode cX9_layPlaces 15 = .ok (.iconst 0, 1) ∧ 15 + 1 = 16 := ⟨by decide +kernel, rfl⟩
theorem dX9_layPlaces_16 : decode cX9_layPlaces 16 = .ok (.iconst 0, 1) ∧ 16 + 1 = 17 := ⟨by decide +kernel, rfl⟩
theorem dX9_layPlaces_17 : decode cX9_layPlaces 17 = .ok (.iastore, 1) ∧ 17 + 1 = 18 := ⟨by decide +kernel, rfl⟩
theorem dX9_layPlaces_18 : decode cX9_layPlaces 18 = .ok (.aload_n 0, 1) ∧ 18 + 1 = 19 := ⟨by decide +kernel, rfl⟩
theorem dX9_layPlaces_19 : decode cX9_layPlaces 19 = .ok (.getfield 28, 3) ∧ 19 + 3 = 22 := ⟨by decide +kernel, rfl⟩
theorem dX9_layPlaces_22 : decode cX9_layPlaces 22 = .ok (.iconst 0, 1) ∧ 22 + 1 = 23 := ⟨by decide +kernel, rfl⟩
theorem dX9_layPlaces_23 : decode cX9_layPlaces 23 = .ok (.iconst (-1), 1) ∧ 23 + 1 = 24 := ⟨by decide +kernel, rfl⟩
theorem dX9_layPlaces_24 : decode cX9_layPlaces 24 = .ok (.iastore, 1) ∧ 24 + 1 = 25 := ⟨by decide +kernel, rfl⟩
theorem dX9_layPlaces_25 : decode cX9_layPlaces 25 = .ok (.iload_n 2, 1) ∧ 25 + 1 = 26 := ⟨by decide +kernel, rfl⟩
theorem dX9_layPlaces_26 : decode cX9_layPlaces 26 = .ok (.ifCond .lt 187, 3) ∧ 26 + 3 = 29 ∧ ((26 : Nat) : Int) + (187) = ((213 : Nat) : Int) := ⟨by decide +kernel, rfl, rfl⟩
theorem dX9_layPlaces_29 : decode cX9_layPlaces 29 = .ok (.aload_n 0, 1) ∧ 29 + 1 = 30 := ⟨by decide +kernel, rfl⟩
theorem dX9_layPlaces_30 : decode cX9_layPlaces 30 = .ok (.getfield 22, 3) ∧ 30 + 3 = 33 := ⟨by decide +kernel, rfl⟩
theorem dX9_layPlaces_33 : decode cX9_layPlaces 33 = .ok (.iload_n 2, 1) ∧ 33 + 1 = 34 := ⟨by decide +kernel, rfl⟩
theorem dX9_layPlaces_34 : decode cX9_layPlaces 34 = .ok (.iaload, 1) ∧ 34 + 1 = 35 := ⟨by decide +kernel, rfl⟩
theorem dX9_layPlaces_35 : decode cX9_layPlaces 35 = .ok (.aload_n 0, 1) ∧ 35 + 1 = 36 := ⟨by decide +kernel, rfl⟩
theorem dX9_layPlaces_36 : decode cX9_layPlaces 36 = .ok (.aload_n 0, 1) ∧ 36 + 1 = 37 := ⟨by decide +kernel, rfl⟩
theorem dX9_layPlaces_37 : decode cX9_layPlaces 37 = .ok (.getfield 25, 3) ∧ 37 + 3 = 40 := ⟨by decide +kernel, rfl⟩
theorem dX9_layPlaces_40 : decode cX9_layPlaces 40 = .ok (.iload_n 2, 1) ∧ 40 + 1 = 41 := ⟨by decide +kernel, rfl⟩
theorem dX9_layPlaces_41 : decode cX9_layPlaces 41 = .ok (.iaload, 1) ∧ 41 + 1 = 42 := ⟨by decide +kernel, rfl⟩
theorem dX9_layPlaces_42 : decode cX9_layPlaces 42 = .ok (.bipush 11, 2) ∧ 42 + 2 = 44 := ⟨by decide +kernel, rfl⟩
theorem dX9_layPlaces_44 : decode cX9_layPlaces 44 = .ok (.invokevirtual 64, 3) ∧ 44 + 3 = 47 := ⟨by decide +kernel, rfl⟩
theorem dX9_layPlaces_47 : decode cX9_layPlaces 47 = .ok (.if_icmp .ne 9, 3) ∧ 47 + 3 = 50 ∧ ((47 : Nat) : Int) + (9) = ((56 : Nat) : Int) := ⟨by decide +kernel, rfl, rfl⟩
theorem dX9_layPlaces_50 : decode cX9_layPlaces 50 = .ok (.iinc 2 (-1), 3) ∧ 50 + 3 = 53 := ⟨by decide +kernel, rfl⟩
theorem dX9_layPlaces_53 : decode cX9_layPlaces 53 = .ok (.goto (-28), 3) ∧ 53 + 3 = 56 ∧ ((53 : Nat) : Int) + (-28) = ((25 : Nat) : Int) := ⟨by decide +kernel, rfl, rfl⟩
theorem dX9_layPlaces_56 : decode cX9_layPlaces 56 = .ok (.iload_n 1, 1) ∧ 56 + 1 = 57 := ⟨by decide +kernel, rfl⟩
theorem dX9_layPlaces_57 : decode cX9_layPlaces 57 = .ok (.bipush 120, 2) ∧ 57 + 2 = 59 := ⟨by decide +kernel, rfl⟩
theorem dX9_layPlaces_59 : decode cX9_layPlaces 59 = .ok (.if_icmp .ne 5, 3) ∧ 59 + 3 = 62 ∧ ((59 : Nat) : Int) + (5) = ((64 : Nat) : Int) := ⟨by decide +kernel, rfl, rfl⟩
theorem dX9_layPlaces_62 : decode cX9_layPlaces 62 = .ok (.iconst 0, 1) ∧ 62 + 1 = 63 := ⟨by decide +kernel, rfl⟩
theorem dX9_layPlaces_63 : decode cX9_layPlaces 63 = .ok (.ireturn, 1) ∧ 63 + 1 = 64 := ⟨by decide +kernel, rfl⟩
theorem dX9_layPlaces_64 : decode cX9_layPlaces 64 = .ok (.aload_n 0, 1) ∧ 64 + 1 = 65 := ⟨by decide +kernel, rfl⟩
theorem dX9_layPlaces_65 : decode cX9_layPlaces 65 = .ok (.aload_n 0, 1) ∧ 65 + 1 = 66 := ⟨by decide +kernel, rfl⟩
theorem dX9_layPlaces_66 : decode cX9_layPlaces 66 = .ok (.getfield 25, 3) ∧ 66 + 3 = 69 := ⟨by decide +kernel, rfl⟩
theorem dX9_layPlaces_69 : decode cX9_layPlaces 69 = .ok (.iload_n 2, 1) ∧ 69 + 1 = 70 := ⟨by decide +kernel, rfl⟩
theorem dX9_layPlaces_70 : decode cX9_layPlaces 70 = .ok (.iaload, 1) ∧ 70 + 1 = 71 := ⟨by decide +kernel, rfl⟩
theorem dX9_layPlaces_71 : decode cX9_layPlaces 71 = .ok (.aload_n 0, 1) ∧ 71 + 1 = 72 := ⟨by decide +kernel, rfl⟩
theorem dX9_layPlaces_72 : decode cX9_layPlaces 72 = .ok (.getfield 22, 3) ∧ 72 + 3 = 75 := ⟨by decide +kernel, rfl⟩
theorem dX9_layPlaces_75 : decode cX9_layPlaces 75 = .ok (.iload_n 2, 1) ∧ 75 + 1 = 76 := ⟨by decide +kernel, rfl⟩
theorem dX9_layPlaces_76 : decode cX9_layPlaces 76 = .ok (.iaload, 1) ∧ 76 + 1 = 77 := ⟨by decide +kernel, rfl⟩
theorem dX9_layPlaces_77 : decode cX9_layPlaces 77 = .ok (.invokevirtual 71, 3) ∧ 77 + 3 = 80 := ⟨by decide +kernel, rfl⟩
theorem dX9_layPlaces_80 : decode cX9_layPlaces 80 = .ok (.istore_n 3, 1) ∧ 80 + 1 = 81 := ⟨by decide +kernel, rfl⟩
theorem dX9_layPlaces_81 : decode cX9_layPlaces 81 = .ok (.aload_n 0, 1) ∧ 81 + 1 = 82 := ⟨by decide +kernel, rfl⟩
theorem dX9_layPlaces_82 : decode cX9_layPlaces 82 = .ok (.getfield 28, 3) ∧ 82 + 3 = 85 := ⟨by decide +kernel, rfl⟩
theorem dX9_layPlaces_85 : decode cX9_layPlaces 85 = .ok (.iload_n 2, 1) ∧ 85 + 1 = 86 := ⟨by decide +kernel, rfl⟩
theorem dX9_layPlaces_86 : decode cX9_layPlaces 86 = .ok (.iaload, 1) ∧ 86 + 1 = 87 := ⟨by decide +kernel, rfl⟩
theorem dX9_layPlaces_87 : decode cX9_layPlaces 87 = .ok (.bipush (-6), 2) ∧ 87 + 2 = 89 := ⟨by decide +kernel, rfl⟩
theorem dX9_layPlaces_89 : decode cX9_layPlaces 89 = .ok (.if_icmp .ne 8, 3) ∧ 89 + 3 = 92 ∧ ((89 : Nat) : Int) + (8) = ((97 : Nat) : Int) := ⟨by decide +kernel, rfl, rfl⟩
theorem dX9_layPlaces_92 : decode cX9_layPlaces 92 = .ok (.bipush (-6), 2) ∧ 92 + 2 = 94 := ⟨by decide +kernel, rfl⟩
theorem dX9_layPlaces_94 : decode cX9_layPlaces 94 = .ok (.goto 14, 3) ∧ 94 + 3 = 97 ∧ ((94 : Nat) : Int) + (14) = ((108 : Nat) : Int) := ⟨by decide +kernel, rfl, rfl⟩
theorem dX9_layPlaces_97 : decode cX9_layPlaces 97 = .ok (.aload_n 0, 1) ∧ 97 + 1 = 98 := ⟨by decide +kernel, rfl⟩
theorem dX9_layPlaces_98 : decode cX9_layPlaces 98 = .ok (.aload_n 0, 1) ∧ 98 + 1 = 99 := ⟨by decide +kernel, rfl⟩
theorem dX9_layPlaces_99 : decode cX9_layPlaces 99 = .ok (.getfield 28, 3) ∧ 99 + 3 = 102 := ⟨by decide +kernel, rfl⟩
theorem dX9_layPlaces_102 : decode cX9_layPlaces 102 = .ok (.iload_n 2, 1) ∧ 102 + 1 = 103 := ⟨by decide +kernel, rfl⟩
theorem dX9_layPlaces_103 : decode cX9_layPlaces 103 = .ok (.iaload, 1) ∧ 103 + 1 = 104 := ⟨by decide +kernel, rfl⟩
theorem dX9_layPlaces_104 : decode cX9_layPlaces 104 = .ok (.iload_n 3, 1) ∧ 104 + 1 = 105 := ⟨by decide +kernel, rfl⟩
theorem dX9_layPlaces_105 : decode cX9_layPlaces 105 = .ok (.invokevirtual 74, 3) ∧ 105 + 3 = 108 := ⟨by decide +kernel, rfl⟩
theorem dX9_layPlaces_108 : decode cX9_layPlaces 108 = .ok (.istore 4, 2) ∧ 108 + 2 = 110 := ⟨by decide +kernel, rfl⟩
theorem dX9_layPlaces_110 : decode cX9_layPlaces 110 = .ok (.aload_n 0, 1) ∧ 110 + 1 = 111 := ⟨by decide +kernel, rfl⟩
theorem dX9_layPlaces_111 : decode cX9_layPlaces 111 = .ok (.getfield 22, 3) ∧ 111 + 3 = 114 := ⟨by decide +kernel, rfl⟩
theorem dX9_layPlaces_114 : decode cX9_layPlaces 114 = .ok (.iload_n 2, 1) ∧ 114 + 1 = 115 := ⟨by decide +kernel, rfl⟩
theorem dX9_layPlaces_115 : decode cX9_layPlaces 115 = .ok (.dup2, 1) ∧ 115 + 1 = 116 := ⟨by decide +kernel, rfl⟩
theorem dX9_layPlaces_116 : decode cX9_layPlaces 116 = .ok (.iaload, 1) ∧ 116 + 1 = 117 := ⟨by decide +kernel, rfl⟩
theorem dX9_layPlaces_117 : decode cX9_layPlaces 117 = .ok (.iconst 1, 1) ∧ 117 + 1 = 118 := ⟨by decide +kernel, rfl⟩
theorem dX9_layPlaces_118 : decode cX9_layPlaces 118 = .ok (.iadd, 1) ∧ 118 + 1 = 119 := ⟨by decide +kernel, rfl⟩
theorem dX9_layPlaces_119 : decode cX9_layPlaces 119 = .ok (.iastore, 1) ∧ 119 + 1 = 120 := ⟨by decide +kernel, rfl⟩
theorem dX9_layPlaces_120 : decode cX9_layPlaces 120 = .ok (.iinc 2 1, 3) ∧ 120 + 3 = 123 := ⟨by decide +kernel, rfl⟩
theorem dX9_layPlaces_123 : decode cX9_layPlaces 123 = .ok (.aload_n 0, 1) ∧ 123 + 1 = 124 := ⟨by decide +kernel, rfl⟩
theorem dX9_layPlaces_124 : decode cX9_layPlaces 124 = .ok (.getfield 25, 3) ∧ 124 + 3 = 127 := ⟨by decide +kernel, rfl⟩
theorem dX9_layPlaces_127 : decode cX9_layPlaces 127 = .ok (.iload_n 2, 1) ∧ 127 + 1 = 128 := ⟨by decide +kernel, rfl⟩
theorem dX9_layPlaces_128 : decode cX9_layPlaces 128 = .ok (.iload_n 3, 1) ∧ 128 + 1 = 129 := ⟨by decide +kernel, rfl⟩
theorem dX9_layPlaces_129 : decode cX9_layPlaces 129 = .ok (.iastore, 1) ∧ 129 + 1 = 130 := ⟨by decide +kernel, rfl⟩
theorem dX9_layPlaces_130 : decode cX9_layPlaces 130 = .ok (.aload_n 0, 1) ∧ 130 + 1 = 131 := ⟨by decide +kernel, rfl⟩
theorem dX9_layPlaces_131 : decode cX9_layPlaces 131 = .ok (.getfield 22, 3) ∧ 131 + 3 = 134 := ⟨by decide +kernel, rfl⟩
theorem dX9_layPlaces_134 : decode cX9_layPlaces 134 = .ok (.iload_n 2, 1) ∧ 134 + 1 = 135 := ⟨by decide +kernel, rfl⟩
theorem dX9_layPlaces_135 : decode cX9_layPlaces 135 = .ok (.iconst 0, 1) ∧ 135 + 1 = 136 := ⟨by decide +kernel, rfl⟩
theorem dX9_layPlaces_136 : decode cX9_layPlaces 136 = .ok (.iastore, 1) ∧ 136 + 1 = 137 := ⟨by decide +kernel, rfl⟩
theorem dX9_layPlaces_137 : decode cX9_layPlaces 137 = .ok (.aload_n 0, 1) ∧ 137 + 1 = 138 := ⟨by decide +kernel, rfl⟩
theorem dX9_layPlaces_138 : decode cX9_layPlaces 138 = .ok (.getfield 28, 3) ∧ 138 + 3 = 141 := ⟨by decide +kernel, rfl⟩
theorem dX9_layPlaces_141 : decode cX9_layPlaces 141 = .ok (.iload_n 2, 1) ∧ 141 + 1 = 142 := ⟨by decide +kernel, rfl⟩
theorem dX9_layPlaces_142 : decode cX9_layPlaces 142 = .ok (.iload 4, 2) ∧ 142 + 2 = 144 := ⟨by decide +kernel, rfl⟩
theorem dX9_layPlaces_144 : decode cX9_layPlaces 144 = .ok (.iastore, 1) ∧ 144 + 1 = 145 := ⟨by decide +kernel, rfl⟩
theorem dX9_layPlaces_145 : decode cX9_layPlaces 145 = .ok (.aload_n 0, 1) ∧ 145 + 1 = 146 := ⟨by decide +kernel, rfl⟩
theorem dX9_layPlaces_146 : decode cX9_layPlaces 146 = .ok (.getfield 7, 3) ∧ 146 + 3 = 149 := ⟨by decide +kernel, rfl⟩
theorem dX9_layPlaces_149 : decode cX9_layPlaces 149 = .ok (.sipush 2134, 3) ∧ 149 + 3 = 152 := ⟨by decide +kernel, rfl⟩
theorem dX9_layPlaces_152 : decode cX9_layPlaces 152 = .ok (.iconst 3, 1) ∧ 152 + 1 = 153 := ⟨by decide +kernel, rfl⟩
theorem dX9_layPlaces_153 : decode cX9_layPlaces 153 = .ok (.iload_n 1, 1) ∧ 153 + 1 = 154 := ⟨by decide +kernel, rfl⟩
theorem dX9_layPlaces_154 : decode cX9_layPlaces 154 = .ok (.imul, 1) ∧ 154 + 1 = 155 := ⟨by decide +kernel, rfl⟩
theorem dX9_layPlaces_155 : decode cX9_layPlaces 155 = .ok (.iadd, 1) ∧ 155 + 1 = 156 := ⟨by decide +kernel, rfl⟩
theorem dX9_layPlaces_156 : decode cX9_layPlaces 156 = .ok (.iconst 0, 1) ∧ 156 + 1 = 157 := ⟨by decide +kernel, rfl⟩
theorem dX9_layPlaces_157 : decode cX9_layPlaces 157 = .ok (.iadd, 1) ∧ 157 + 1 = 158 := ⟨by decide +kernel, rfl⟩
theorem dX9_layPlaces_158 : decode cX9_layPlaces 158 = .ok (.iload_n 3, 1) ∧ 158 + 1 = 159 := ⟨by decide +kernel, rfl⟩
theorem dX9_layPlaces_159 : decode cX9_layPlaces 159 = .ok (.iastore, 1) ∧ 159 + 1 = 160 := ⟨by decide +kernel, rfl⟩
theorem dX9_layPlaces_160 : decode cX9_layPlaces 160 = .ok (.aload_n 0, 1) ∧ 160 + 1 = 161 := ⟨by decide +kernel, rfl⟩
theorem dX9_layPlaces_161 : decode cX9_layPlaces 161 = .ok (.getfield 7, 3) ∧ 161 + 3 = 164 := ⟨by decide +kernel, rfl⟩
theorem dX9_layPlaces_164 : decode cX9_layPlaces 164 = .ok (.sipush 2134, 3) ∧ 164 + 3 = 167 := ⟨by decide +kernel, rfl⟩
theorem dX9_layPlaces_167 : decode cX9_layPlaces 167 = .ok (.iconst 3, 1) ∧ 167 + 1 = 168 := ⟨by decide +kernel, rfl⟩
theorem dX9_layPlaces_168 : decode cX9_layPlaces 168 = .ok (.iload_n 1, 1) ∧ 168 + 1 = 169 := ⟨by decide +kernel, rfl⟩
theorem dX9_layPlaces_169 : decode cX9_layPlaces 169 = .ok (.imul, 1) ∧ 169 + 1 = 170 := ⟨by decide +kernel, rfl⟩
theorem dX9_layPlaces_170 : decode cX9_layPlaces 170 = .ok (.iadd, 1) ∧ 170 + 1 = 171 := ⟨by decide +kernel, rfl⟩
theorem dX9_layPlaces_171 : decode cX9_layPlaces 171 = .ok (.iconst 1, 1) ∧ 171 + 1 = 172 := ⟨by decide +kernel, rfl⟩
theorem dX9_layPlaces_172 : decode cX9_layPlaces 172 = .ok (.iadd, 1) ∧ 172 + 1 = 173 := ⟨by decide +kernel, rfl⟩
theorem dX9_layPlaces_173 : decode cX9_layPlaces 173 = .ok (.iload_n 2, 1) ∧ 173 + 1 = 174 := ⟨by decide +kernel, rfl⟩
theorem dX9_layPlaces_174 : decode cX9_layPlaces 174 = .ok (.iastore, 1) ∧ 174 + 1 = 175 := ⟨by decide +kernel, rfl⟩
theorem dX9_layPlaces_175 : decode cX9_layPlaces 175 = .ok (.aload_n 0, 1) ∧ 175 + 1 = 176 := ⟨by decide +kernel, rfl⟩
theorem dX9_layPlaces_176 : decode cX9_layPlaces 176 = .ok (.getfield 7, 3) ∧ 176 + 3 = 179 := ⟨by decide +kernel, rfl⟩
theorem dX9_layPlaces_179 : decode cX9_layPlaces 179 = .ok (.sipush 2134, 3) ∧ 179 + 3 = 182 := ⟨by decide +kernel, rfl⟩
theorem dX9_layPlaces_182 : decode cX9_layPlaces 182 = .ok (.iconst 3, 1) ∧ 182 + 1 = 183 := ⟨by decide +kernel, rfl⟩
theorem dX9_layPlaces_183 : decode cX9_layPlaces 183 = .ok (.iload_n 1, 1) ∧ 183 + 1 = 184 := ⟨by decide +kernel, rfl⟩
theorem dX9_layPlaces_184 : decode cX9_layPlaces 184 = .ok (.imul, 1) ∧ 184 + 1 = 185 := ⟨by decide +kernel, rfl⟩
theorem dX9_layPlaces_185 : decode cX9_layPlaces 185 = .ok (.iadd, 1) ∧ 185 + 1 = 186 := ⟨by decide +kernel, rfl⟩
theorem dX9_layPlaces_186 : decode cX9_layPlaces 186 = .ok (.iconst 2, 1) ∧ 186 + 1 = 187 := ⟨by decide +kernel, rfl⟩
theorem dX9_layPlaces_187 : decode cX9_layPlaces 187 = .ok (.iadd, 1) ∧ 187 + 1 = 188 := ⟨by decide +kernel, rfl⟩
theorem dX9_layPlaces_188 : decode cX9_layPlaces 188 = .ok (.iload 4, 2) ∧ 188 + 2 = 190 := ⟨by decide +kernel, rfl⟩
theorem dX9_layPlaces_190 : decode cX9_layPlaces 190 = .ok (.bipush (-6), 2) ∧ 190 + 2 = 192 := ⟨by decide +kernel, rfl⟩
theorem dX9_layPlaces_192 : decode cX9_layPlaces 192 = .ok (.if_icmp .ne 7, 3) ∧ 192 + 3 = 195 ∧ ((192 : Nat) : Int) + (7) = ((199 : Nat) : Int) := ⟨by decide +kernel, rfl, rfl⟩
theorem dX9_layPlaces_195 : decode cX9_layPlaces 195 = .ok (.iconst 0, 1) ∧ 195 + 1 = 196 := ⟨by decide +kernel, rfl⟩
theorem dX9_layPlaces_196 : decode cX9_layPlaces 196 = .ok (.goto 10, 3) ∧ 196 + 3 = 199 ∧ ((196 : Nat) : Int) + (10) = ((206 : Nat) : Int) := ⟨by decide +kernel, rfl, rfl⟩
theorem dX9_layPlaces_199 : decode cX9_layPlaces 199 = .ok (.aload_n 0, 1) ∧ 199 + 1 = 200 := ⟨by decide +kernel, rfl⟩
theorem dX9_layPlaces_200 : decode cX9_layPlaces 200 = .ok (.iload 4, 2) ∧ 200 + 2 = 202 := ⟨by decide +kernel, rfl⟩
theorem dX9_layPlaces_202 : decode cX9_layPlaces 202 = .ok (.iconst 2, 1) ∧ 202 + 1 = 203 := ⟨by decide +kernel, rfl⟩
theorem dX9_layPlaces_203 : decode cX9_layPlaces 203 = .ok (.invokevirtual 68, 3) ∧ 203 + 3 = 206 := ⟨by decide +kernel, rfl⟩
theorem dX9_layPlaces_206 : decode cX9_layPlaces 206 = .ok (.iastore, 1) ∧ 206 + 1 = 207 := ⟨by decide +kernel, rfl⟩
theorem dX9_layPlaces_207 : decode cX9_layPlaces 207 = .ok (.iinc 1 1, 3) ∧ 207 + 3 = 210 := ⟨by decide +kernel, rfl⟩
theorem dX9_layPlaces_210 : decode cX9_layPlaces 210 = .ok (.goto (-185), 3) ∧ 210 + 3 = 213 ∧ ((210 : Nat) : Int) + (-185) = ((25 : Nat) : Int) := ⟨by decide +kernel, rfl, rfl⟩
theorem dX9_layPlaces_213 : decode cX9_layPlaces 213 = .ok (.aload_n 0, 1) ∧ 213 + 1 = 214 := ⟨by decide +kernel, rfl⟩
theorem dX9_layPlaces_214 : decode cX9_layPlaces 214 = .ok (.getfield 7, 3) ∧ 214 + 3 = 217 := ⟨by decide +kernel, rfl⟩
theorem dX9_layPlaces_217 : decode cX9_layPlaces 217 = .ok (.iconst 1, 1) ∧ 217 + 1 = 218 := ⟨by decide +kernel, rfl⟩
theorem dX9_layPlaces_218 : decode cX9_layPlaces 218 = .ok (.iload_n 1, 1) ∧ 218 + 1 = 219 := ⟨by decide +kernel, rfl⟩
theorem dX9_layPlaces_219 : decode cX9_layPlaces 219 = .ok (.iastore, 1) ∧ 219 + 1 = 220 := ⟨by decide +kernel, rfl⟩
theorem dX9_layPlaces_220 : decode cX9_layPlaces 220 = .ok (.iconst 1, 1) ∧ 220 + 1 = 221 := ⟨by decide +kernel, rfl⟩
theorem dX9_layPlaces_221 : decode cX9_layPlaces 221 = .ok (.ireturn, 1) ∧ 221 + 1 = 222 := ⟨by decide +kernel, rfl⟩
theorem dX9_placesOf_0 : decode cX9_placesOf 0 = .ok (.iconst 0, 1) ∧ 0 + 1 = 1 := ⟨by decide +kernel, rfl⟩
theorem dX9_placesOf_1 : decode cX9_placesOf 1 = .ok (.istore_n 2, 1) ∧ 1 + 1 = 2 := ⟨by decide +kernel, rfl⟩
theorem dX9_placesOf_2 : decode cX9_placesOf 2 = .ok (.iconst 0, 1) ∧ 2 + 1 = 3 := ⟨by decide +kernel, rfl⟩
theorem dX9_placesOf_3 : decode cX9_placesOf 3 = .ok (.istore_n 3, 1) ∧ 3 + 1 = 4 := ⟨by decide +kernel, rfl⟩
theorem dX9_placesOf_4 : decode cX9_placesOf 4 = .ok (.iload_n 3, 1) ∧ 4 + 1 = 5 := ⟨by decide +kernel, rfl⟩
theorem dX9_placesOf_5 : decode cX9_placesOf 5 = .ok (.aload_n 0, 1) ∧ 5 + 1 = 6 := ⟨by decide +kernel, rfl⟩
theorem dX9_placesOf_6 : decode cX9_placesOf 6 = .ok (.getfield 7, 3) ∧ 6 + 3 = 9 := ⟨by decide +kernel, rfl⟩
theorem dX9_placesOf_9 : decode cX9_placesOf 9 = .ok (.iconst 1, 1) ∧ 9 + 1 = 10 := ⟨by decide +kernel, rfl⟩
theorem dX9_placesOf_10 : decode cX9_placesOf 10 = .ok (.iaload, 1) ∧ 10 + 1 = 11 := ⟨by decide +kernel, rfl⟩
theorem dX9_placesOf_11 : decode cX9_placesOf 11 = .ok (.if_icmp .ge 27, 3) ∧ 11 + 3 = 14 ∧ ((11 : Nat) : Int) + (27) = ((38 : Nat) : Int) := ⟨by decide +kernel, rfl, rfl⟩
theorem dX9_placesOf_14 : decode cX9_placesOf 14 = .ok (.iload_n 2, 1) ∧ 14 + 1 = 15 := ⟨by decide +kernel, rfl⟩
theorem dX9_placesOf_15 : decode cX9_placesOf 15 = .ok (.aload_n 0, 1) ∧ 15 + 1 = 16 := ⟨by decide +kernel, rfl⟩
theorem dX9_placesOf_16 : decode cX9_placesOf 16 = .ok (.iload_n 3, 1) ∧ 16 + 1 = 17 := ⟨by decide +kernel, rfl⟩
theorem dX9_placesOf_17 : decode cX9_placesOf 17 = .ok (.iconst 0, 1) ∧ 17 + 1 = 18 := ⟨by decide +kernel, rfl⟩
theorem dX9_placesOf_18 : decode cX9_placesOf 18 = .ok (.invokevirtual 77, 3) ∧ 18 + 3 = 21 := ⟨by decide +kernel, rfl⟩
theorem dX9_placesOf_21 : decode cX9_placesOf 21 = .ok (.iload_n 1, 1) ∧ 21 + 1 = 22 := ⟨by decide +kernel, rfl⟩
theorem dX9_placesOf_22 : decode cX9_placesOf 22 = .ok (.if_icmp .ne 7, 3) ∧ 22 + 3 = 25 ∧ ((22 : Nat) : Int) + (7) = ((29 : Nat) : Int) := ⟨by decide +kernel, rfl, rfl⟩
theorem dX9_placesOf_25 : decode cX9_placesOf 25 = .ok (.iconst 1, 1) ∧ 25 + 1 = 26 := ⟨by decide +kernel, rfl⟩
theorem dX9_placesOf_26 : decode cX9_placesOf 26 = .ok (.goto 4, 3) ∧ 26 + 3 = 29 ∧ ((26 : Nat) : Int) + (4) = ((30 : Nat) : Int) := ⟨by decide +kernel, rfl, rfl⟩
theorem dX9_placesOf_29 : decode cX9_placesOf 29 = .ok (.iconst 0, 1) ∧ 29 + 1 = 30 := ⟨by decide +kernel, rfl⟩
theorem dX9_placesOf_30 : decode cX9_placesOf 30 = .ok (.iadd, 1) ∧ 30 + 1 = 31 := ⟨by decide +kernel, rfl⟩
theorem dX9_placesOf_31 : decode cX9_placesOf 31 = .ok (.istore_n 2, 1) ∧ 31 + 1 = 32 := ⟨by decide +kernel, rfl⟩
theorem dX9_placesOf_32 : decode cX9_placesOf 32 = .ok (.iinc 3 1, 3) ∧ 32 + 3 = 35 := ⟨by decide +kernel, rfl⟩
theorem dX9_placesOf_35 : decode cX9_placesOf 35 = .ok (.goto (-31), 3) ∧ 35 + 3 = 38 ∧ ((35 : Nat) : Int) + (-31) = ((4 : Nat) : Int) := ⟨by decide +kernel, rfl, rfl⟩
theorem dX9_placesOf_38 : decode cX9_placesOf 38 = .ok (.iload_n 2, 1) ∧ 38 + 1 = 39 := ⟨by decide +kernel, rfl⟩
theorem dX9_placesOf_39 : decode cX9_placesOf 39 = .ok (.ireturn, 1) ∧ 39 + 1 = 40 := ⟨by decide +kernel, rfl⟩
theorem dX9_isSeen_0 : decode cX9_isSeen 0 = .ok (.aload_n 0, 1) ∧ 0 + 1 = 1 := ⟨by decide +kernel, rfl⟩
theorem dX9_isSeen_1 : decode cX9_isSeen 1 = .ok (.iload_n 1, 1) ∧ 1 + 1 = 2 := ⟨by decide +kernel, rfl⟩
theorem dX9_isSeen_2 : decode cX9_isSeen 2 = .ok (.iconst 1, 1) ∧ 2 + 1 = 3 := ⟨by decide +kernel, rfl⟩
theorem dX9_isSeen_3 : decode cX9_isSeen 3 = .ok (.invokevirtual 77, 3) ∧ 3 + 3 = 6 := ⟨by decide +kernel, rfl⟩
theorem dX9_isSeen_6 : decode cX9_isSeen 6 = .ok (.istore_n 2, 1) ∧ 6 + 1 = 7 := ⟨by decide +kernel, rfl⟩
theorem dX9_isSeen_7 : decode cX9_isSeen 7 = .ok (.iload_n 1, 1) ∧ 7 + 1 = 8 := ⟨by decide +kernel, rfl⟩
theorem dX9_isSeen_8 : decode cX9_isSeen 8 = .ok (.iconst 1, 1) ∧ 8 + 1 = 9 := ⟨by decide +kernel, rfl⟩
theorem dX9_isSeen_9 : decode cX9_isSeen 9 = .ok (.isub, 1) ∧ 9 + 1 = 10 := ⟨by decide +kernel, rfl⟩
theorem dX9_isSeen_10 : decode cX9_isSeen 10 = .ok (.istore_n 3, 1) ∧ 10 + 1 = 11 := ⟨by decide +kernel, rfl⟩
theorem dX9_isSeen_11 : decode cX9_isSeen 11 = .ok (.iload_n 3, 1) ∧ 11 + 1 = 12 := ⟨by decide +kernel, rfl⟩
theorem dX9_isSeen_12 : decode cX9_isSeen 12 = .ok (.ifCond .lt 43, 3) ∧ 12 + 3 = 15 ∧ ((12 : Nat) : Int) + (43) = ((55 : Nat) : Int) := ⟨by decide +kernel, rfl, rfl⟩
theorem dX9_isSeen_15 : decode cX9_isSeen 15 = .ok (.iload_n 2, 1) ∧ 15 + 1 = 16 := ⟨by decide +kernel, rfl⟩
theorem dX9_isSeen_16 : decode cX9_isSeen 16 = .ok (.iconst 1, 1) ∧ 16 + 1 = 17 := ⟨by decide +kernel, rfl⟩
theorem dX9_isSeen_17 : decode cX9_isSeen 17 = .ok (.if_icmp .le 38, 3) ∧ 17 + 3 = 20 ∧ ((17 : Nat) : Int) + (38) = ((55 : Nat) : Int) := ⟨by decide +kernel, rfl, rfl⟩
theorem dX9_isSeen_20 : decode cX9_isSeen 20 = .ok (.aload_n 0, 1) ∧ 20 + 1 = 21 := ⟨by decide +kernel, rfl⟩
theorem dX9_isSeen_21 : decode cX9_isSeen 21 = .ok (.iload_n 3, 1) ∧ 21 + 1 = 22 := ⟨by decide +kernel, rfl⟩
theorem dX9_isSeen_22 : decode cX9_isSeen 22 = .ok (.iconst 1, 1) ∧ 22 + 1 = 23 := ⟨by decide +kernel, rfl⟩
theorem dX9_isSeen_23 : decode cX9_isSeen 23 = .ok (.invokevirtual 77, 3) ∧ 23 + 3 = 26 := ⟨by decide +kernel, rfl⟩
theorem dX9_isSeen_26 : decode cX9_isSeen 26 = .ok (.iload_n 2, 1) ∧ 26 + 1 = 27 := ⟨by decide +kernel, rfl⟩
theorem dX9_isSeen_27 : decode cX9_isSeen 27 = .ok (.if_icmp .ge 22, 3) ∧ 27 + 3 = 30 ∧ ((27 : Nat) : Int) + (22) = ((49 : Nat) : Int) := ⟨by decide +kernel, rfl, rfl⟩
theorem dX9_isSeen_30 : decode cX9_isSeen 30 = .ok (.aload_n 0, 1) ∧ 30 + 1 = 31 := ⟨by decide +kernel, rfl⟩
theorem dX9_isSeen_31 : decode cX9_isSeen 31 = .ok (.iload_n 3, 1) ∧ 31 + 1 = 32 := ⟨by decide +kernel, rfl⟩
theorem dX9_isSeen_32 : decode cX9_isSeen 32 = .ok (.iconst 2, 1) ∧ 32 + 1 = 33 := ⟨by decide +kernel, rfl⟩
theorem dX9_isSeen_33 : decode cX9_isSeen 33 = .ok (.invokevirtual 77, 3) ∧ 33 + 3 = 36 := ⟨by decide +kernel, rfl⟩
theorem dX9_isSeen_36 : decode cX9_isSeen 36 = .ok (.iconst 1, 1) ∧ 36 + 1 = 37 := ⟨by decide +kernel, rfl⟩
theorem dX9_isSeen_37 : decode cX9_isSeen 37 = .ok (.if_icmp .ne 5, 3) ∧ 37 + 3 = 40 ∧ ((37 : Nat) : Int) + (5) = ((42 : Nat) : Int) := ⟨by decide +kernel, rfl, rfl⟩
theorem dX9_isSeen_40 : decode cX9_isSeen 40 = .ok (.iconst 0, 1) ∧ 40 + 1 = 41 := ⟨by decide +kernel, rfl⟩
theorem dX9_isSeen_41 : decode cX9_isSeen 41 = .ok (.ireturn, 1) ∧ 41 + 1 = 42 := ⟨by decide +kernel, rfl⟩
theorem dX9_isSeen_42 : decode cX9_isSeen 42 = .ok (.aload_n 0, 1) ∧ 42 + 1 = 43 := ⟨by decide +kernel, rfl⟩
theorem dX9_isSeen_43 : decode cX9_isSeen 43 = .ok (.iload_n 3, 1) ∧ 43 + 1 = 44 := ⟨by decide +kernel, rfl⟩
theorem dX9_isSeen_44 : decode cX9_isSeen 44 = .ok (.iconst 1, 1) ∧ 44 + 1 = 45 := ⟨by decide +kernel, rfl⟩
theorem dX9_isSeen_45 : decode cX9_isSeen 45 = .ok (.invokevirtual 77, 3) ∧ 45 + 3 = 48 := ⟨by decide +kernel, rfl⟩
theorem dX9_isSeen_48 : decode cX9_isSeen 48 = .ok (.istore_n 2, 1) ∧ 48 + 1 = 49 := ⟨by decide +kernel, rfl⟩
theorem dX9_isSeen_49 : decode cX9_isSeen 49 = .ok (.iinc 3 (-1), 3) ∧ 49 + 3 = 52 := ⟨by decide +kernel, rfl⟩
theorem dX9_isSeen_52 : decode cX9_isSeen 52 = .ok (.goto (-41), 3) ∧ 52 + 3 = 55 ∧ ((52 : Nat) : Int) + (-41) = ((11 : Nat) : Int) := ⟨by decide +kernel, rfl, rfl⟩
theorem dX9_isSeen_55 : decode cX9_isSeen 55 = .ok (.iconst 1, 1) ∧ 55 + 1 = 56 := ⟨by decide +kernel, rfl⟩
theorem dX9_isSeen_56 : decode cX9_isSeen 56 = .ok (.ireturn, 1) ∧ 56 + 1 = 57 := ⟨by decide +kernel, rfl⟩
theorem dX9_rows_0 : decode cX9_rows 0 = .ok (.iconst 0, 1) ∧ 0 + 1 = 1 := ⟨by decide +kernel, rfl⟩
theorem dX9_rows_1 : decode cX9_rows 1 = .ok (.istore_n 1, 1) ∧ 1 + 1 = 2 := ⟨by decide +kernel, rfl⟩
theorem dX9_rows_2 : decode cX9_rows 2 = .ok (.iconst 0, 1) ∧ 2 + 1 = 3 := ⟨by decide +kernel, rfl⟩
theorem dX9_rows_3 : decode cX9_rows 3 = .ok (.istore_n 2, 1) ∧ 3 + 1 = 4 := ⟨by decide +kernel, rfl⟩
theorem dX9_rows_4 : decode cX9_rows 4 = .ok (.iload_n 2, 1) ∧ 4 + 1 = 5 := ⟨by decide +kernel, rfl⟩
theorem dX9_rows_5 : decode cX9_rows 5 = .ok (.aload_n 0, 1) ∧ 5 + 1 = 6 := ⟨by decide +kernel, rfl⟩
theorem dX9_rows_6 : decode cX9_rows 6 = .ok (.getfield 7, 3) ∧ 6 + 3 = 9 := ⟨by decide +kernel, rfl⟩
theorem dX9_rows_9 : decode cX9_rows 9 = .ok (.iconst 1, 1) ∧ 9 + 1 = 10 := ⟨by decide +kernel, rfl⟩
theorem dX9_rows_10 : decode cX9_rows 10 = .ok (.iaload, 1) ∧ 10 + 1 = 11 := ⟨by decide +kernel, rfl⟩
theorem dX9_rows_11 : decode cX9_rows 11 = .ok (.if_icmp .ge 25, 3) ∧ 11 + 3 = 14 ∧ ((11 : Nat) : Int) + (25) = ((36 : Nat) : Int) := ⟨by decide +kernel, rfl, rfl⟩
theorem dX9_rows_14 : decode cX9_rows 14 = .ok (.iload_n 1, 1) ∧ 14 + 1 = 15 := ⟨by decide +kernel, rfl⟩
theorem dX9_rows_15 : decode cX9_rows 15 = .ok (.aload_n 0, 1) ∧ 15 + 1 = 16 := ⟨by decide +kernel, rfl⟩
theorem dX9_rows_16 : decode cX9_rows 16 = .ok (.iload_n 2, 1) ∧ 16 + 1 = 17 := ⟨by decide +kernel, rfl⟩
theorem dX9_rows_17 : decode cX9_rows 17 = .ok (.invokevirtual 80, 3) ∧ 17 + 3 = 20 := ⟨by decide +kernel, rfl⟩
theorem dX9_rows_20 : decode cX9_rows 20 = .ok (.ifCond .eq 7, 3) ∧ 20 + 3 = 23 ∧ ((20 : Nat) : Int) + (7) = ((27 : Nat) : Int) := ⟨by decide +kernel, rfl, rfl⟩
theorem dX9_rows_23 : decode cX9_rows 23 = .ok (.iconst 1, 1) ∧ 23 + 1 = 24 := ⟨by decide +kernel, rfl⟩
theorem dX9_rows_24 : decode cX9_rows 24 = .ok (.goto 4, 3) ∧ 24 + 3 = 27 ∧ ((24 : Nat) : Int) + (4) = ((28 : Nat) : Int) := ⟨by decide +kernel, rfl, rfl⟩
theorem dX9_rows_27 : decode cX9_rows 27 = .ok (.iconst 0, 1) ∧ 27 + 1 = 28 := ⟨by decide +kernel, rfl⟩
theorem dX9_rows_28 : decode cX9_rows 28 = .ok (.iadd, 1) ∧ 28 + 1 = 29 := ⟨by decide +kernel, rfl⟩
theorem dX9_rows_29 : decode cX9_rows 29 = .ok (.istore_n 1, 1) ∧ 29 + 1 = 30 := ⟨by decide +kernel, rfl⟩
theorem dX9_rows_30 : decode cX9_rows 30 = .ok (.iinc 2 1, 3) ∧ 30 + 3 = 33 := ⟨by decide +kernel, rfl⟩
theorem dX9_rows_33 : decode cX9_rows 33 = .ok (.goto (-29), 3) ∧ 33 + 3 = 36 ∧ ((33 : Nat) : Int) + (-29) = ((4 : Nat) : Int) := ⟨by decide +kernel, rfl, rfl⟩
theorem dX9_rows_36 : decode cX9_rows 36 = .ok (.iload_n 1, 1) ∧ 36 + 1 = 37 := ⟨by decide +kernel, rfl⟩
theorem dX9_rows_37 : decode cX9_rows 37 = .ok (.ireturn, 1) ∧ 37 + 1 = 38 := ⟨by decide +kernel, rfl⟩
theorem dX9_placeOf_0 : decode cX9_placeOf 0 = .ok (.iload_n 1, 1) ∧ 0 + 1 = 1 := ⟨by decide +kernel, rfl⟩
theorem dX9_placeOf_1 : decode cX9_placeOf 1 = .ok (.istore_n 2, 1) ∧ 1 + 1 = 2 := ⟨by decide +kernel, rfl⟩
theorem dX9_placeOf_2 : decode cX9_placeOf 2 = .ok (.iconst 0, 1) ∧ 2 + 1 = 3 := ⟨by decide +kernel, rfl⟩
theorem dX9_placeOf_3 : decode cX9_placeOf 3 = .ok (.istore_n 3, 1) ∧ 3 + 1 = 4 := ⟨by decide +kernel, rfl⟩
theorem dX9_placeOf_4 : decode cX9_placeOf 4 = .ok (.iload_n 3, 1) ∧ 4 + 1 = 5 := ⟨by decide +kernel, rfl⟩
theorem dX9_placeOf_5 : decode cX9_placeOf 5 = .ok (.aload_n 0, 1) ∧ 5 + 1 = 6 := ⟨by decide +kernel, rfl⟩
theorem dX9_placeOf_6 : decode cX9_placeOf 6 = .ok (.getfield 7, 3) ∧ 6 + 3 = 9 := ⟨by decide +kernel, rfl⟩
theorem dX9_placeOf_9 : decode cX9_placeOf 9 = .ok (.iconst 1, 1) ∧ 9 + 1 = 10 := ⟨by decide +kernel, rfl⟩
theorem dX9_placeOf_10 : decode cX9_placeOf 10 = .ok (.iaload, 1) ∧ 10 + 1 = 11 := ⟨by decide +kernel, rfl⟩
theorem dX9_placeOf_11 : decode cX9_placeOf 11 = .ok (.if_icmp .ge 30, 3) ∧ 11 + 3 = 14 ∧ ((11 : Nat) : Int) + (30) = ((41 : Nat) : Int) := ⟨by decide +kernel, rfl, rfl⟩
theorem dX9_placeOf_14 : decode cX9_placeOf 14 = .ok (.iload_n 1, 1) ∧ 14 + 1 = 15 := ⟨by decide +kernel, rfl⟩
theorem dX9_placeOf_15 : decode cX9_placeOf 15 = .ok (.ifCond .lt 26, 3) ∧ 15 + 3 = 18 ∧ ((15 : Nat) : Int) + (26) = ((41 : Nat) : Int) := ⟨by decide +kernel, rfl, rfl⟩
theorem dX9_placeOf_18 : decode cX9_placeOf 18 = .ok (.aload_n 0, 1) ∧ 18 + 1 = 19 := ⟨by decide +kernel, rfl⟩
theorem dX9_placeOf_19 : decode cX9_placeOf 19 = .ok (.iload_n 3, 1) ∧ 19 + 1 = 20 := ⟨by decide +kernel, rfl⟩
theorem dX9_placeOf_20 : decode cX9_placeOf 20 = .ok (.invokevirtual 80, 3) ∧ 20 + 3 = 23 := ⟨by decide +kernel, rfl⟩
theorem dX9_placeOf_23 : decode cX9_placeOf 23 = .ok (.ifCond .eq 12, 3) ∧ 23 + 3 = 26 ∧ ((23 : Nat) : Int) + (12) = ((35 : Nat) : Int) := ⟨by decide +kernel, rfl, rfl⟩
theorem dX9_placeOf_26 : decode cX9_placeOf 26 = .ok (.iload_n 2, 1) ∧ 26 + 1 = 27 := ⟨by decide +kernel, rfl⟩
theorem dX9_placeOf_27 : decode cX9_placeOf 27 = .ok (.ifCond .ne 5, 3) ∧ 27 + 3 = 30 ∧ ((27 : Nat) : Int) + (5) = ((32 : Nat) : Int) := ⟨by decide +kernel, rfl, rfl⟩
theorem dX9_placeOf_30 : decode cX9_placeOf 30 = .ok (.iload_n 3, 1) ∧ 30 + 1 = 31 := ⟨by decide +kernel, rfl⟩
theorem dX9_placeOf_31 : decode cX9_placeOf 31 = .ok (.ireturn, 1) ∧ 31 + 1 = 32 := ⟨by decide +kernel, rfl⟩
theorem dX9_placeOf_32 : decode cX9_placeOf 32 = .ok (.iinc 2 (-1), 3) ∧ 32 + 3 = 35 := ⟨by decide +kernel, rfl⟩
theorem dX9_placeOf_35 : decode cX9_placeOf 35 = .ok (.iinc 3 1, 3) ∧ 35 + 3 = 38 := ⟨by decide +kernel, rfl⟩
theorem dX9_placeOf_38 : decode cX9_placeOf 38 = .ok (.goto (-34), 3) ∧ 38 + 3 = 41 ∧ ((38 : Nat) : Int) + (-34) = ((4 : Nat) : Int) := ⟨by decide +kernel, rfl, rfl⟩
theorem dX9_placeOf_41 : decode cX9_placeOf 41 = .ok (.bipush (-6), 2) ∧ 41 + 2 = 43 := ⟨by decide +kernel, rfl⟩
theorem dX9_placeOf_43 : decode cX9_placeOf 43 = .ok (.ireturn, 1) ∧ 43 + 1 = 44 := ⟨by decide +kernel, rfl⟩
theorem dX9_rowOf_0 : decode cX9_rowOf 0 = .ok (.iconst 0, 1) ∧ 0 + 1 = 1 := ⟨by decide +kernel, rfl⟩
theorem dX9_rowOf_1 : decode cX9_rowOf 1 = .ok (.istore_n 2, 1) ∧ 1 + 1 = 2 := ⟨by decide +kernel, rfl⟩
theorem dX9_rowOf_2 : decode cX9_rowOf 2 = .ok (.iconst 0, 1) ∧ 2 + 1 = 3 := ⟨by decide +kernel, rfl⟩
theorem dX9_rowOf_3 : decode cX9_rowOf 3 = .ok (.istore_n 3, 1) ∧ 3 + 1 = 4 := ⟨by decide +kernel, rfl⟩
theorem dX9_rowOf_4 : decode cX9_rowOf 4 = .ok (.iload_n 3, 1) ∧ 4 + 1 = 5 := ⟨by decide +kernel, rfl⟩
theorem dX9_rowOf_5 : decode cX9_rowOf 5 = .ok (.iload_n 1, 1) ∧ 5 + 1 = 6 := ⟨by decide +kernel, rfl⟩
theorem dX9_rowOf_6 : decode cX9_rowOf 6 = .ok (.if_icmp .ge 25, 3) ∧ 6 + 3 = 9 ∧ ((6 : Nat) : Int) + (25) = ((31 : Nat) : Int) := ⟨by decide +kernel, rfl, rfl⟩
theorem dX9_rowOf_9 : decode cX9_rowOf 9 = .ok (.iload_n 2, 1) ∧ 9 + 1 = 10 := ⟨by decide +kernel, rfl⟩
theorem dX9_rowOf_10 : decode cX9_rowOf 10 = .ok (.aload_n 0, 1) ∧ 10 + 1 = 11 := ⟨by decide +kernel, rfl⟩
theorem dX9_rowOf_11 : decode cX9_rowOf 11 = .ok (.iload_n 3, 1) ∧ 11 + 1 = 12 := ⟨by decide +kernel, rfl⟩
theorem dX9_rowOf_12 : decode cX9_rowOf 12 = .ok (.invokevirtual 80, 3) ∧ 12 + 3 = 15 := ⟨by decide +kernel, rfl⟩
theorem dX9_rowOf_15 : decode cX9_rowOf 15 = .ok (.ifCond .eq 7, 3) ∧ 15 + 3 = 18 ∧ ((15 : Nat) : Int) + (7) = ((22 : Nat) : Int) := ⟨by decide +kernel, rfl, rfl⟩
theorem dX9_rowOf_18 : decode cX9_rowOf 18 = .ok (.iconst 1, 1) ∧ 18 + 1 = 19 := ⟨by decide +kernel, rfl⟩
theorem dX9_rowOf_19 : decode cX9_rowOf 19 = .ok (.goto 4, 3) ∧ 19 + 3 = 22 ∧ ((19 : Nat) : Int) + (4) = ((23 : Nat) : Int) := ⟨by decide +kernel, rfl, rfl⟩
theorem dX9_rowOf_22 : decode cX9_rowOf 22 = .ok (.iconst 0, 1) ∧ 22 + 1 = 23 := ⟨by decide +kernel, rfl⟩
theorem dX9_rowOf_23 : decode cX9_rowOf 23 = .ok (.iadd, 1) ∧ 23 + 1 = 24 := ⟨by decide +kernel, rfl⟩
theorem dX9_rowOf_24 : decode cX9_rowOf 24 = .ok (.istore_n 2, 1) ∧ 24 + 1 = 25 := ⟨by decide +kernel, rfl⟩
theorem dX9_rowOf_25 : decode cX9_rowOf 25 = .ok (.iinc 3 1, 3) ∧ 25 + 3 = 28 := ⟨by decide +kernel, rfl⟩
theorem dX9_rowOf_28 : decode cX9_rowOf 28 = .ok (.goto (-24), 3) ∧ 28 + 3 = 31 ∧ ((28 : Nat) : Int) + (-24) = ((4 : Nat) : Int) := ⟨by decide +kernel, rfl, rfl⟩
theorem dX9_rowOf_31 : decode cX9_rowOf 31 = .ok (.iload_n 2, 1) ∧ 31 + 1 = 32 := ⟨by decide +kernel, rfl⟩
theorem dX9_rowOf_32 : decode cX9_rowOf 32 = .ok (.ireturn, 1) ∧ 32 + 1 = 33 := ⟨by decide +kernel, rfl⟩
theorem dX9_around_0 : decode cX9_around 0 = .ok (.iload_n 1, 1) ∧ 0 + 1 = 1 := ⟨by decide +kernel, rfl⟩
theorem dX9_around_1 : decode cX9_around 1 = .ok (.iconst 1, 1) ∧ 1 + 1 = 2 := ⟨by decide +kernel, rfl⟩
theorem dX9_around_2 : decode cX9_around 2 = .ok (.isub, 1) ∧ 2 + 1 = 3 := ⟨by decide +kernel, rfl⟩
theorem dX9_around_3 : decode cX9_around 3 = .ok (.istore_n 2, 1) ∧ 3 + 1 = 4 := ⟨by decide +kernel, rfl⟩
theorem dX9_around_4 : decode cX9_around 4 = .ok (.iload_n 2, 1) ∧ 4 + 1 = 5 := ⟨by decide +kernel, rfl⟩
theorem dX9_around_5 : decode cX9_around 5 = .ok (.ifCond .lt 24, 3) ∧ 5 + 3 = 8 ∧ ((5 : Nat) : Int) + (24) = ((29 : Nat) : Int) := ⟨by decide +kernel, rfl, rfl⟩
theorem dX9_around_8 : decode cX9_around 8 = .ok (.aload_n 0, 1) ∧ 8 + 1 = 9 := ⟨by decide +kernel, rfl⟩
theorem dX9_around_9 : decode cX9_around 9 = .ok (.iload_n 2, 1) ∧ 9 + 1 = 10 := ⟨by decide +kernel, rfl⟩
theorem dX9_around_10 : decode cX9_around 10 = .ok (.iconst 1, 1) ∧ 10 + 1 = 11 := ⟨by decide +kernel, rfl⟩
theorem dX9_around_11 : decode cX9_around 11 = .ok (.invokevirtual 77, 3) ∧ 11 + 3 = 14 := ⟨by decide +kernel, rfl⟩
theorem dX9_around_14 : decode cX9_around 14 = .ok (.aload_n 0, 1) ∧ 14 + 1 = 15 := ⟨by decide +kernel, rfl⟩
theorem dX9_around_15 : decode cX9_around 15 = .ok (.iload_n 1, 1) ∧ 15 + 1 = 16 := ⟨by decide +kernel, rfl⟩
theorem dX9_around_16 : decode cX9_around 16 = .ok (.iconst 1, 1) ∧ 16 + 1 = 17 := ⟨by decide +kernel, rfl⟩
theorem dX9_around_17 : decode cX9_around 17 = .ok (.invokevirtual 77, 3) ∧ 17 + 3 = 20 := ⟨by decide +kernel, rfl⟩
theorem dX9_around_20 : decode cX9_around 20 = .ok (.if_icmp .lt 9, 3) ∧ 20 + 3 = 23 ∧ ((20 : Nat) : Int) + (9) = ((29 : Nat) : Int) := ⟨by decide +kernel, rfl, rfl⟩
theorem dX9_around_23 : decode cX9_around 23 = .ok (.iinc 2 (-1), 3) ∧ 23 + 3 = 26 := ⟨by decide +kernel, rfl⟩
theorem dX9_around_26 : decode cX9_around 26 = .ok (.goto (-22), 3) ∧ 26 + 3 = 29 ∧ ((26 : Nat) : Int) + (-22) = ((4 : Nat) : Int) := ⟨by decide +kernel, rfl, rfl⟩
theorem dX9_around_29 : decode cX9_around 29 = .ok (.iload_n 2, 1) ∧ 29 + 1 = 30 := ⟨by decide +kernel, rfl⟩
theorem dX9_around_30 : decode cX9_around 30 = .ok (.ireturn, 1) ∧ 30 + 1 = 31 := ⟨by decide +kernel, rfl⟩
theorem dX9_parent_0 : decode cX9_parent 0 = .ok (.aload_n 0, 1) ∧ 0 + 1 = 1 := ⟨by decide +kernel, rfl⟩
theorem dX9_parent_1 : decode cX9_parent 1 = .ok (.iload_n 1, 1) ∧ 1 + 1 = 2 := ⟨by decide +kernel, rfl⟩
theorem dX9_parent_2 : decode cX9_parent 2 = .ok (.invokevirtual 84, 3) ∧ 2 + 3 = 5 := ⟨by decide +kernel, rfl⟩
theorem dX9_parent_5 : decode cX9_parent 5 = .ok (.istore_n 2, 1) ∧ 5 + 1 = 6 := ⟨by decide +kernel, rfl⟩
theorem dX9_parent_6 : decode cX9_parent 6 = .ok (.iload_n 2, 1) ∧ 6 + 1 = 7 := ⟨by decide +kernel, rfl⟩
theorem dX9_parent_7 : decode cX9_parent 7 = .ok (.ifCond .ge 7, 3) ∧ 7 + 3 = 10 ∧ ((7 : Nat) : Int) + (7) = ((14 : Nat) : Int) := ⟨by decide +kernel, rfl, rfl⟩
theorem dX9_parent_10 : decode cX9_parent 10 = .ok (.iconst 0, 1) ∧ 10 + 1 = 11 := ⟨by decide +kernel, rfl⟩
theorem dX9_parent_11 : decode cX9_parent 11 = .ok (.goto 9, 3) ∧ 11 + 3 = 14 ∧ ((11 : Nat) : Int) + (9) = ((20 : Nat) : Int) := ⟨by decide +kernel, rfl, rfl⟩
theorem dX9_parent_14 : decode cX9_parent 14 = .ok (.aload_n 0, 1) ∧ 14 + 1 = 15 := ⟨by decide +kernel, rfl⟩
theorem dX9_parent_15 : decode cX9_parent 15 = .ok (.iload_n 2, 1) ∧ 15 + 1 = 16 := ⟨by decide +kernel, rfl⟩
theorem dX9_parent_16 : decode cX9_parent 16 = .ok (.iconst 0, 1) ∧ 16 + 1 = 17 := ⟨by decide +kernel, rfl⟩
theorem dX9_parent_17 : decode cX9_parent 17 = .ok (.invokevirtual 77, 3) ∧ 17 + 3 = 20 := ⟨by decide +kernel, rfl⟩
theorem dX9_parent_20 : decode cX9_parent 20 = .ok (.ireturn, 1) ∧ 20 + 1 = 21 := ⟨by decide +kernel, rfl⟩
theorem dX9_position_0 : decode cX9_position 0 = .ok (.iconst 0, 1) ∧ 0 + 1 = 1 := ⟨by decide +kernel, rfl⟩
theorem dX9_position_1 : decode cX9_position 1 = .ok (.istore_n 3, 1) ∧ 1 + 1 = 2 := ⟨by decide +kernel, rfl⟩
theorem dX9_position_2 : decode cX9_position 2 = .ok (.iload_n 3, 1) ∧ 2 + 1 = 3 := ⟨by decide +kernel, rfl⟩
theorem dX9_position_3 : decode cX9_position 3 = .ok (.aload_n 0, 1) ∧ 3 + 1 = 4 := ⟨by decide +kernel, rfl⟩
theorem dX9_position_4 : decode cX9_position 4 = .ok (.iload_n 1, 1) ∧ 4 + 1 = 5 := ⟨by decide +kernel, rfl⟩
theorem dX9_position_5 : decode cX9_position 5 = .ok (.bipush 11, 2) ∧ 5 + 2 = 7 := ⟨by decide +kernel, rfl⟩
theorem dX9_position_7 : decode cX9_position 7 = .ok (.invokevirtual 64, 3) ∧ 7 + 3 = 10 := ⟨by decide +kernel, rfl⟩
theorem dX9_position_10 : decode cX9_position 10 = .ok (.if_icmp .ge 21, 3) ∧ 10 + 3 = 13 ∧ ((10 : Nat) : Int) + (21) = ((31 : Nat) : Int) := ⟨by decide +kernel, rfl, rfl⟩
theorem dX9_position_13 : decode cX9_position 13 = .ok (.aload_n 0, 1) ∧ 13 + 1 = 14 := ⟨by decide +kernel, rfl⟩
theorem dX9_position_14 : decode cX9_position 14 = .ok (.iload_n 1, 1) ∧ 14 + 1 = 15 := ⟨by decide +kernel, rfl⟩
theorem dX9_position_15 : decode cX9_position 15 = .ok (.iload_n 3, 1) ∧ 15 + 1 = 16 := ⟨by decide +kernel, rfl⟩
theorem dX9_position_16 : decode cX9_position 16 = .ok (.invokevirtual 71, 3) ∧ 16 + 3 = 19 := ⟨by decide +kernel, rfl⟩
theorem dX9_position_19 : decode cX9_position 19 = .ok (.iload_n 2, 1) ∧ 19 + 1 = 20 := ⟨by decide +kernel, rfl⟩
theorem dX9_position_20 : decode cX9_position 20 = .ok (.if_icmp .ne 5, 3) ∧ 20 + 3 = 23 ∧ ((20 : Nat) : Int) + (5) = ((25 : Nat) : Int) := ⟨by decide +kernel, rfl, rfl⟩
theorem dX9_position_23 : decode cX9_position 23 = .ok (.iload_n 3, 1) ∧ 23 + 1 = 24 := ⟨by decide +kernel, rfl⟩
theorem dX9_position_24 : decode cX9_position 24 = .ok (.ireturn, 1) ∧ 24 + 1 = 25 := ⟨by decide +kernel, rfl⟩
theorem dX9_position_25 : decode cX9_position 25 = .ok (.iinc 3 1, 3) ∧ 25 + 3 = 28 := ⟨by decide +kernel, rfl⟩
theorem dX9_position_28 : decode cX9_position 28 = .ok (.goto (-26), 3) ∧ 28 + 3 = 31 ∧ ((28 : Nat) : Int) + (-26) = ((2 : Nat) : Int) := ⟨by decide +kernel, rfl, rfl⟩
theorem dX9_position_31 : decode cX9_position 31 = .ok (.bipush (-6), 2) ∧ 31 + 2 = 33 := ⟨by decide +kernel, rfl⟩
theorem dX9_position_33 : decode cX9_position 33 = .ok (.ireturn, 1) ∧ 33 + 1 = 34 := ⟨by decide +kernel, rfl⟩
theorem dX9_nodeOf_0 : decode cX9_nodeOf 0 = .ok (.iload_n 1, 1) ∧ 0 + 1 = 1 := ⟨by decide +kernel, rfl⟩
theorem dX9_nodeOf_1 : decode cX9_nodeOf 1 = .ok (.iconst (-1), 1) ∧ 1 + 1 = 2 := ⟨by decide +kernel, rfl⟩
theorem dX9_nodeOf_2 : decode cX9_nodeOf 2 = .ok (.if_icmp .ne 5, 3) ∧ 2 + 3 = 5 ∧ ((2 : Nat) : Int) + (5) = ((7 : Nat) : Int) := ⟨by decide +kernel, rfl, rfl⟩
theorem dX9_nodeOf_5 : decode cX9_nodeOf 5 = .ok (.iconst 0, 1) ∧ 5 + 1 = 6 := ⟨by decide +kernel, rfl⟩
theorem dX9_nodeOf_6 : decode cX9_nodeOf 6 = .ok (.ireturn, 1) ∧ 6 + 1 = 7 := ⟨by decide +kernel, rfl⟩
theorem dX9_nodeOf_7 : decode cX9_nodeOf 7 = .ok (.aload_n 0, 1) ∧ 7 + 1 = 8 := ⟨by decide +kernel, rfl⟩
theorem dX9_nodeOf_8 : decode cX9_nodeOf 8 = .ok (.iload_n 1, 1) ∧ 8 + 1 = 9 := ⟨by decide +kernel, rfl⟩
theorem dX9_nodeOf_9 : decode cX9_nodeOf 9 = .ok (.invokevirtual 88, 3) ∧ 9 + 3 = 12 := ⟨by decide +kernel, rfl⟩
theorem dX9_nodeOf_12 : decode cX9_nodeOf 12 = .ok (.istore_n 2, 1) ∧ 12 + 1 = 13 := ⟨by decide +kernel, rfl⟩
theorem dX9_nodeOf_13 : decode cX9_nodeOf 13 = .ok (.iload_n 2, 1) ∧ 13 + 1 = 14 := ⟨by decide +kernel, rfl⟩
theorem dX9_nodeOf_14 : decode cX9_nodeOf 14 = .ok (.bipush (-6), 2) ∧ 14 + 2 = 16 := ⟨by decide +kernel, rfl⟩
theorem dX9_nodeOf_16 : decode cX9_nodeOf 16 = .ok (.if_icmp .ne 8, 3) ∧ 16 + 3 = 19 ∧ ((16 : Nat) : Int) + (8) = ((24 : Nat) : Int) := ⟨by decide +kernel, rfl, rfl⟩
theorem dX9_nodeOf_19 : decode cX9_nodeOf 19 = .ok (.bipush (-6), 2) ∧ 19 + 2 = 21 := ⟨by decide +kernel, rfl⟩
theorem dX9_nodeOf_21 : decode cX9_nodeOf 21 = .ok (.goto 9, 3) ∧ 21 + 3 = 24 ∧ ((21 : Nat) : Int) + (9) = ((30 : Nat) : Int) := ⟨by decide +kernel, rfl, rfl⟩
theorem dX9_nodeOf_24 : decode cX9_nodeOf 24 = .ok (.aload_n 0, 1) ∧ 24 + 1 = 25 := ⟨by decide +kernel, rfl⟩
theorem dX9_nodeOf_25 : decode cX9_nodeOf 25 = .ok (.iload_n 2, 1) ∧ 25 + 1 = 26 := ⟨by decide +kernel, rfl⟩
theorem dX9_nodeOf_26 : decode cX9_nodeOf 26 = .ok (.iconst 0, 1) ∧ 26 + 1 = 27 := ⟨by decide +kernel, rfl⟩
theorem dX9_nodeOf_27 : decode cX9_nodeOf 27 = .ok (.invokevirtual 77, 3) ∧ 27 + 3 = 30 := ⟨by decide +kernel, rfl⟩
theorem dX9_nodeOf_30 : decode cX9_nodeOf 30 = .ok (.ireturn, 1) ∧ 30 + 1 = 31 := ⟨by decide +kernel, rfl⟩
theorem dX9_layWithin_0 : decode cX9_layWithin 0 = .ok (.iconst 0, 1) ∧ 0 + 1 = 1 := ⟨by decide +kernel, rfl⟩
theorem dX9_layWithin_1 : decode cX9_layWithin 1 = .ok (.istore_n 2, 1) ∧ 1 + 1 = 2 := ⟨by decide +kernel, rfl⟩
theorem dX9_layWithin_2 : decode cX9_layWithin 2 = .ok (.iload_n 2, 1) ∧ 2 + 1 = 3 := ⟨by decide +kernel, rfl⟩
theorem dX9_layWithin_3 : decode cX9_layWithin 3 = .ok (.bipush 40, 2) ∧ 3 + 2 = 5 := ⟨by decide +kernel, rfl⟩
theorem dX9_layWithin_5 : decode cX9_layWithin 5 = .ok (.if_icmp .gt 25, 3) ∧ 5 + 3 = 8 ∧ ((5 : Nat) : Int) + (25) = ((30 : Nat) : Int) := ⟨by decide +kernel, rfl, rfl⟩
theorem dX9_layWithin_8 : decode cX9_layWithin 8 = .ok (.aload_n 0, 1) ∧ 8 + 1 = 9 := ⟨by decide +kernel, rfl⟩
theorem dX9_layWithin_9 : decode cX9_layWithin 9 = .ok (.getfield 34, 3) ∧ 9 + 3 = 12 := ⟨by decide +kernel, rfl⟩
theorem dX9_layWithin_12 : decode cX9_layWithin 12 = .ok (.iload_n 2, 1) ∧ 12 + 1 = 13 := ⟨by decide +kernel, rfl⟩
theorem dX9_layWithin_13 : decode cX9_layWithin 13 = .ok (.iload_n 2, 1) ∧ 13 + 1 = 14 := ⟨by decide +kernel, rfl⟩
theorem dX9_layWithin_14 : decode cX9_layWithin 14 = .ok (.iload_n 1, 1) ∧ 14 + 1 = 15 := ⟨by decide +kernel, rfl⟩
theorem dX9_layWithin_15 : decode cX9_layWithin 15 = .ok (.if_icmp .ne 7, 3) ∧ 15 + 3 = 18 ∧ ((15 : Nat) : Int) + (7) = ((22 : Nat) : Int) := ⟨by decide +kernel, rfl, rfl⟩
theorem dX9_layWithin_18 : decode cX9_layWithin 18 = .ok (.iconst 1, 1) ∧ 18 + 1 = 19 := ⟨by decide +kernel, rfl⟩
theorem dX9_layWithin_19 : decode cX9_layWithin 19 = .ok (.goto 4, 3) ∧ 19 + 3 = 22 ∧ ((19 : Nat) : Int) + (4) = ((23 : Nat) : Int) := ⟨by decide +kernel, rfl, rfl⟩
theorem dX9_layWithin_22 : decode cX9_layWithin 22 = .ok (.iconst 0, 1) ∧ 22 + 1 = 23 := ⟨by decide +kernel, rfl⟩
theorem dX9_layWithin_23 : decode cX9_layWithin 23 = .ok (.bastore, 1) ∧ 23 + 1 = 24 := ⟨by decide +kernel, rfl⟩
theorem dX9_layWithin_24 : decode cX9_layWithin 24 = .ok (.iinc 2 1, 3) ∧ 24 + 3 = 27 := ⟨by decide +kernel, rfl⟩
theorem dX9_layWithin_27 : decode cX9_layWithin 27 = .ok (.goto (-25), 3) ∧ 27 + 3 = 30 ∧ ((27 : Nat) : Int) + (-25) = ((2 : Nat) : Int) := ⟨by decide +kernel, rfl, rfl⟩
theorem dX9_layWithin_30 : decode cX9_layWithin 30 = .ok (.aload_n 0, 1) ∧ 30 + 1 = 31 := ⟨by decide +kernel, rfl⟩
theorem dX9_layWithin_31 : decode cX9_layWithin 31 = .ok (.getfield 38, 3) ∧ 31 + 3 = 34 := ⟨by decide +kernel, rfl⟩
theorem dX9_layWithin_34 : decode cX9_layWithin 34 = .ok (.iconst 0, 1) ∧ 34 + 1 = 35 := ⟨by decide +kernel, rfl⟩
theorem dX9_layWithin_35 : decode cX9_layWithin 35 = .ok (.iload_n 1, 1) ∧ 35 + 1 = 36 := ⟨by decide +kernel, rfl⟩
theorem dX9_layWithin_36 : decode cX9_layWithin 36 = .ok (.iastore, 1) ∧ 36 + 1 = 37 := ⟨by decide +kernel, rfl⟩
theorem dX9_layWithin_37 : decode cX9_layWithin 37 = .ok (.iconst 1, 1) ∧ 37 + 1 = 38 := ⟨by decide +kernel, rfl⟩
theorem dX9_layWithin_38 : decode cX9_layWithin 38 = .ok (.istore_n 2, 1) ∧ 38 + 1 = 39 := ⟨by decide +kernel, rfl⟩
theorem dX9_layWithin_39 : decode cX9_layWithin 39 = .ok (.iconst 0, 1) ∧ 39 + 1 = 40 := ⟨by decide +kernel, rfl⟩
theorem dX9_layWithin_40 : decode cX9_layWithin 40 = .ok (.istore_n 3, 1) ∧ 40 + 1 = 41 := ⟨by decide +kernel, rfl⟩
theorem dX9_layWithin_41 : decode cX9_layWithin 41 = .ok (.iload_n 3, 1) ∧ 41 + 1 = 42 := ⟨by decide +kernel, rfl⟩
theorem dX9_layWithin_42 : decode cX9_layWithin 42 = .ok (.iload_n 2, 1) ∧ 42 + 1 = 43 := ⟨by decide +kernel, rfl⟩
theorem dX9_layWithin_43 : decode cX9_layWithin 43 = .ok (.if_icmp .ge 78, 3) ∧ 43 + 3 = 46 ∧ ((43 : Nat) : Int) + (78) = ((121 : Nat) : Int) := ⟨by decide +kernel, rfl, rfl⟩
theorem dX9_layWithin_46 : decode cX9_layWithin 46 = .ok (.iconst 0, 1) ∧ 46 + 1 = 47 := ⟨by decide +kernel, rfl⟩
theorem dX9_layWithin_47 : decode cX9_layWithin 47 = .ok (.istore 4, 2) ∧ 47 + 2 = 49 := ⟨by decide +kernel, rfl⟩
theorem dX9_layWithin_49 : decode cX9_layWithin 49 = .ok (.iload 4, 2) ∧ 49 + 2 = 51 := ⟨by decide +kernel, rfl⟩
theorem dX9_layWithin_51 : decode cX9_layWithin 51 = .ok (.aload_n 0, 1) ∧ 51 + 1 = 52 := ⟨by decide +kernel, rfl⟩
theorem dX9_layWithin_52 : decode cX9_layWithin 52 = .ok (.aload_n 0, 1) ∧ 52 + 1 = 53 := ⟨by decide +kernel, rfl⟩
theorem dX9_layWithin_53 : decode cX9_layWithin 53 = .ok (.getfield 38, 3) ∧ 53 + 3 = 56 := ⟨by decide +kernel, rfl⟩
theorem dX9_layWithin_56 : decode cX9_layWithin 56 = .ok (.iload_n 3, 1) ∧ 56 + 1 = 57 := ⟨by decide +kernel, rfl⟩
theorem dX9_layWithin_57 : decode cX9_layWithin 57 = .ok (.iaload, 1) ∧ 57 + 1 = 58 := ⟨by decide +kernel, rfl⟩
theorem dX9_layWithin_58 : decode cX9_layWithin 58 = .ok (.bipush 11, 2) ∧ 58 + 2 = 60 := ⟨by decide +kernel, rfl⟩
theorem dX9_layWithin_60 : decode cX9_layWithin 60 = .ok (.invokevirtual 64, 3) ∧ 60 + 3 = 63 := ⟨by decide +kernel, rfl⟩
theorem dX9_layWithin_63 : decode cX9_layWithin 63 = .ok (.if_icmp .ge 52, 3) ∧ 63 + 3 = 66 ∧ ((63 : Nat) : Int) + (52) = ((115 : Nat) : Int) := ⟨by decide +kernel, rfl, rfl⟩
theorem dX9_layWithin_66 : decode cX9_layWithin 66 = .ok (.aload_n 0, 1) ∧ 66 + 1 = 67 := ⟨by decide +kernel, rfl⟩
theorem dX9_layWithin_67 : decode cX9_layWithin 67 = .ok (.aload_n 0, 1) ∧ 67 + 1 = 68 := ⟨by decide +kernel, rfl⟩
theorem dX9_layWithin_68 : decode cX9_layWithin 68 = .ok (.getfield 38, 3) ∧ 68 + 3 = 71 := ⟨by decide +kernel, rfl⟩
theorem dX9_layWithin_71 : decode cX9_layWithin 71 = .ok (.iload_n 3, 1) ∧ 71 + 1 = 72 := ⟨by decide +kernel, rfl⟩
theorem dX9_layWithin_72 : decode cX9_layWithin 72 = .ok (.iaload, 1) ∧ 72 + 1 = 73 := ⟨by decide +kernel, rfl⟩
theorem dX9_layWithin_73 : decode cX9_layWithin 73 = .ok (.iload 4, 2) ∧ 73 + 2 = 75 := ⟨by decide +kernel, rfl⟩
theorem dX9_layWithin_75 : decode cX9_layWithin 75 = .ok (.invokevirtual 71, 3) ∧ 75 + 3 = 78 := ⟨by decide +kernel, rfl⟩
theorem dX9_layWithin_78 : decode cX9_layWithin 78 = .ok (.istore 5, 2) ∧ 78 + 2 = 80 := ⟨by decide +kernel, rfl⟩
theorem dX9_layWithin_80 : decode cX9_layWithin 80 = .ok (.aload_n 0, 1) ∧ 80 + 1 = 81 := ⟨by decide +kernel, rfl⟩
theorem dX9_layWithin_81 : decode cX9_layWithin 81 = .ok (.getfield 34, 3) ∧ 81 + 3 = 84 := ⟨by decide +kernel, rfl⟩
theorem dX9_layWithin_84 : decode cX9_layWithin 84 = .ok (.iload 5, 2) ∧ 84 + 2 = 86 := ⟨by decide +kernel, rfl⟩
theorem dX9_layWithin_86 : decode cX9_layWithin 86 = .ok (.baload, 1) ∧ 86 + 1 = 87 := ⟨by decide +kernel, rfl⟩
theorem dX9_layWithin_87 : decode cX9_layWithin 87 = .ok (.ifCond .ne 22, 3) ∧ 87 + 3 = 90 ∧ ((87 : Nat) : Int) + (22) = ((109 : Nat) : Int) := ⟨by decide +kernel, rfl, rfl⟩
theorem dX9_layWithin_90 : decode cX9_layWithin 90 = .ok (.aload_n 0, 1) ∧ 90 + 1 = 91 := ⟨by decide +kernel, rfl⟩
theorem dX9_layWithin_91 : decode cX9_layWithin 91 = .ok (.getfield 34, 3) ∧ 91 + 3 = 94 := ⟨by decide +kernel, rfl⟩
theorem dX9_layWithin_94 : decode cX9_layWithin 94 = .ok (.iload 5, 2) ∧ 94 + 2 = 96 := ⟨by decide +kernel, rfl⟩
theorem dX9_layWithin_96 : decode cX9_layWithin 96 = .ok (.iconst 1, 1) ∧ 96 + 1 = 97 := ⟨by decide +kernel, rfl⟩
theorem dX9_layWithin_97 : decode cX9_layWithin 97 = .ok (.bastore, 1) ∧ 97 + 1 = 98 := ⟨by decide +kernel, rfl⟩
theorem dX9_layWithin_98 : decode cX9_layWithin 98 = .ok (.aload_n 0, 1) ∧ 98 + 1 = 99 := ⟨by decide +kernel, rfl⟩
theorem dX9_layWithin_99 : decode cX9_layWithin 99 = .ok (.getfield 38, 3) ∧ 99 + 3 = 102 := ⟨by decide +kernel, rfl⟩
theorem dX9_layWithin_102 : decode cX9_layWithin 102 = .ok (.iload_n 2, 1) ∧ 102 + 1 = 103 := ⟨by decide +kernel, rfl⟩
theorem dX9_layWithin_103 : decode cX9_layWithin 103 = .ok (.iload 5, 2) ∧ 103 + 2 = 105 := ⟨by decide +kernel, rfl⟩
theorem dX9_layWithin_105 : decode cX9_layWithin 105 = .ok (.iastore, 1) ∧ 105 + 1 = 106 := ⟨by decide +kernel, rfl⟩
theorem dX9_layWithin_106 : decode cX9_layWithin 106 = .ok (.iinc 2 1, 3) ∧ 106 + 3 = 109 := ⟨by decide +kernel, rfl⟩
theorem dX9_layWithin_109 : decode cX9_layWithin 109 = .ok (.iinc 4 1, 3) ∧ 109 + 3 = 112 := ⟨by decide +kernel, rfl⟩
theorem dX9_layWithin_112 : decode cX9_layWithin 112 = .ok (.goto (-63), 3) ∧ 112 + 3 = 115 ∧ ((112 : Nat) : Int) + (-63) = ((49 : Nat) : Int) := ⟨by decide +kernel, rfl, rfl⟩
theorem dX9_layWithin_115 : decode cX9_layWithin 115 = .ok (.iinc 3 1, 3) ∧ 115 + 3 = 118 := ⟨by decide +kernel, rfl⟩
theorem dX9_layWithin_118 : decode cX9_layWithin 118 = .ok (.goto (-77), 3) ∧ 118 + 3 = 121 ∧ ((118 : Nat) : Int) + (-77) = ((41 : Nat) : Int) := ⟨by decide +kernel, rfl, rfl⟩
theorem dX9_layWithin_121 : decode cX9_layWithin 121 = .ok (.iload_n 2, 1) ∧ 121 + 1 = 122 := ⟨by decide +kernel, rfl⟩
theorem dX9_layWithin_122 : decode cX9_layWithin 122 = .ok (.ireturn, 1) ∧ 122 + 1 = 123 := ⟨by decide +kernel, rfl⟩
theorem dX9_addKid_0 : decode cX9_addKid 0 = .ok (.aload_n 0, 1) ∧ 0 + 1 = 1 := ⟨by decide +kernel, rfl⟩
theorem dX9_addKid_1 : decode cX9_addKid 1 = .ok (.iload_n 1, 1) ∧ 1 + 1 = 2 := ⟨by decide +kernel, rfl⟩
theorem dX9_addKid_2 : decode cX9_addKid 2 = .ok (.bipush 12, 2) ∧ 2 + 2 = 4 := ⟨by decide +kernel, rfl⟩
theorem dX9_addKid_4 : decode cX9_addKid 4 = .ok (.aload_n 0, 1) ∧ 4 + 1 = 5 := ⟨by decide +kernel, rfl⟩
theorem dX9_addKid_5 : decode cX9_addKid 5 = .ok (.iload_n 1, 1) ∧ 5 + 1 = 6 := ⟨by decide +kernel, rfl⟩
theorem dX9_addKid_6 : decode cX9_addKid 6 = .ok (.bipush 11, 2) ∧ 6 + 2 = 8 := ⟨by decide +kernel, rfl⟩
theorem dX9_addKid_8 : decode cX9_addKid 8 = .ok (.invokevirtual 64, 3) ∧ 8 + 3 = 11 := ⟨by decide +kernel, rfl⟩
theorem dX9_addKid_11 : decode cX9_addKid 11 = .ok (.iadd, 1) ∧ 11 + 1 = 12 := ⟨by decide +kernel, rfl⟩
theorem dX9_addKid_12 : decode cX9_addKid 12 = .ok (.iload_n 2, 1) ∧ 12 + 1 = 13 := ⟨by decide +kernel, rfl⟩
theorem dX9_addKid_13 : decode cX9_addKid 13 = .ok (.invokevirtual 91, 3) ∧ 13 + 3 = 16 := ⟨by decide +kernel, rfl⟩
theorem dX9_addKid_16 : decode cX9_addKid 16 = .ok (.aload_n 0, 1) ∧ 16 + 1 = 17 := ⟨by decide +kernel, rfl⟩
theorem dX9_addKid_17 : decode cX9_addKid 17 = .ok (.iload_n 1, 1) ∧ 17 + 1 = 18 := ⟨by decide +kernel, rfl⟩
theorem dX9_addKid_18 : decode cX9_addKid 18 = .ok (.bipush 11, 2) ∧ 18 + 2 = 20 := ⟨by decide +kernel, rfl⟩
theorem dX9_addKid_20 : decode cX9_addKid 20 = .ok (.aload_n 0, 1) ∧ 20 + 1 = 21 := ⟨by decide +kernel, rfl⟩
theorem dX9_addKid_21 : decode cX9_addKid 21 = .ok (.iload_n 1, 1) ∧ 21 + 1 = 22 := ⟨by decide +kernel, rfl⟩
theorem dX9_addKid_22 : decode cX9_addKid 22 = .ok (.bipush 11, 2) ∧ 22 + 2 = 24 := ⟨by decide +kernel, rfl⟩
theorem dX9_addKid_24 : decode cX9_addKid 24 = .ok (.invokevirtual 64, 3) ∧ 24 + 3 = 27 := ⟨by decide +kernel, rfl⟩
theorem dX9_addKid_27 : decode cX9_addKid 27 = .ok (.iconst 1, 1) ∧ 27 + 1 = 28 := ⟨by decide +kernel, rfl⟩
theorem dX9_addKid_28 : decode cX9_addKid 28 = .ok (.iadd, 1) ∧ 28 + 1 = 29 := ⟨by decide +kernel, rfl⟩
theorem dX9_addKid_29 : decode cX9_addKid 29 = .ok (.invokevirtual 91, 3) ∧ 29 + 3 = 32 := ⟨by decide +kernel, rfl⟩
theorem dX9_addKid_32 : decode cX9_addKid 32 = .ok (.return_, 1) ∧ 32 + 1 = 33 := ⟨by decide +kernel, rfl⟩
theorem dX9_takeKid_0 : decode cX9_takeKid 0 = .ok (.aload_n 0, 1) ∧ 0 + 1 = 1 := ⟨by decide +kernel, rfl⟩
theorem dX9_takeKid_1 : decode cX9_takeKid 1 = .ok (.iload_n 1, 1) ∧ 1 + 1 = 2 := ⟨by decide +kernel, rfl⟩
theorem dX9_takeKid_2 : decode cX9_takeKid 2 = .ok (.bipush 11, 2) ∧ 2 + 2 = 4 := ⟨by decide +kernel, rfl⟩
theorem dX9_takeKid_4 : decode cX9_takeKid 4 = .ok (.aload_n 0, 1) ∧ 4 + 1 = 5 := ⟨by decide +kernel, rfl⟩
theorem dX9_takeKid_5 : decode cX9_takeKid 5 = .ok (.iload_n 1, 1) ∧ 5 + 1 = 6 := ⟨by decide +kernel, rfl⟩
theorem dX9_takeKid_6 : decode cX9_takeKid 6 = .ok (.bipush 11, 2) ∧ 6 + 2 = 8 := ⟨by decide +kernel, rfl⟩
theorem dX9_takeKid_8 : decode cX9_takeKid 8 = .ok (.invokevirtual 64, 3) ∧ 8 + 3 = 11 := ⟨by decide +kernel, rfl⟩
theorem dX9_takeKid_11 : decode cX9_takeKid 11 = .ok (.iconst 1, 1) ∧ 11 + 1 = 12 := ⟨by decide +kernel, rfl⟩
theorem dX9_takeKid_12 : decode cX9_takeKid 12 = .ok (.isub, 1) ∧ 12 + 1 = 13 := ⟨by decide +kernel, rfl⟩
theorem dX9_takeKid_13 : decode cX9_takeKid 13 = .ok (.invokevirtual 91, 3) ∧ 13 + 3 = 16 := ⟨by decide +kernel, rfl⟩
theorem dX9_takeKid_16 : decode cX9_takeKid 16 = .ok (.iload_n 2, 1) ∧ 16 + 1 = 17 := ⟨by decide +kernel, rfl⟩
theorem dX9_takeKid_17 : decode cX9_takeKid 17 = .ok (.istore_n 3, 1) ∧ 17 + 1 = 18 := ⟨by decide +kernel, rfl⟩
theorem dX9_takeKid_18 : decode cX9_takeKid 18 = .ok (.iload_n 3, 1) ∧ 18 + 1 = 19 := ⟨by decide +kernel, rfl⟩
theorem dX9_takeKid_19 : decode cX9_takeKid 19 = .ok (.aload_n 0, 1) ∧ 19 + 1 = 20 := ⟨by decide +kernel, rfl⟩
theorem dX9_takeKid_20 : decode cX9_takeKid 20 = .ok (.iload_n 1, 1) ∧ 20 + 1 = 21 := ⟨by decide +kernel, rfl⟩
theorem dX9_takeKid_21 : decode cX9_takeKid 21 = .ok (.bipush 11, 2) ∧ 21 + 2 = 23 := ⟨by decide +kernel, rfl⟩
theorem dX9_takeKid_23 : decode cX9_takeKid 23 = .ok (.invokevirtual 64, 3) ∧ 23 + 3 = 26 := ⟨by decide +kernel, rfl⟩
theorem dX9_takeKid_26 : decode cX9_takeKid 26 = .ok (.if_icmp .ge 26, 3) ∧ 26 + 3 = 29 ∧ ((26 : Nat) : Int) + (26) = ((52 : Nat) : Int) := ⟨by decide +kernel, rfl, rfl⟩
theorem dX9_takeKid_29 : decode cX9_takeKid 29 = .ok (.aload_n 0, 1) ∧ 29 + 1 = 30 := ⟨by decide +kernel, rfl⟩
theorem dX9_takeKid_30 : decode cX9_takeKid 30 = .ok (.iload_n 1, 1) ∧ 30 + 1 = 31 := ⟨by decide +kernel, rfl⟩
theorem dX9_takeKid_31 : decode cX9_takeKid 31 = .ok (.bipush 12, 2) ∧ 31 + 2 = 33 := ⟨by decide +kernel, rfl⟩
theorem dX9_takeKid_33 : decode cX9_takeKid 33 = .ok (.iload_n 3, 1) ∧ 33 + 1 = 34 := ⟨by decide +kernel, rfl⟩
theorem dX9_takeKid_34 : decode cX9_takeKid 34 = .ok (.iadd, 1) ∧ 34 + 1 = 35 := ⟨by decide +kernel, rfl⟩
theorem dX9_takeKid_35 : decode cX9_takeKid 35 = .ok (.aload_n 0, 1) ∧ 35 + 1 = 36 := ⟨by decide +kernel, rfl⟩
theorem dX9_takeKid_36 : decode cX9_takeKid 36 = .ok (.iload_n 1, 1) ∧ 36 + 1 = 37 := ⟨by decide +kernel, rfl⟩
theorem dX9_takeKid_37 : decode cX9_takeKid 37 = .ok (.iload_n 3, 1) ∧ 37 + 1 = 38 := ⟨by decide +kernel, rfl⟩
theorem dX9_takeKid_38 : decode cX9_takeKid 38 = .ok (.iconst 1, 1) ∧ 38 + 1 = 39 := ⟨by decide +kernel, rfl⟩
theorem dX9_takeKid_39 : decode cX9_takeKid 39 = .ok (.iadd, 1) ∧ 39 + 1 = 40 := ⟨by decide +kernel, rfl⟩
theorem dX9_takeKid_40 : decode cX9_takeKid 40 = .ok (.invokevirtual 71, 3) ∧ 40 + 3 = 43 := ⟨by decide +kernel, rfl⟩
theorem dX9_takeKid_43 : decode cX9_takeKid 43 = .ok (.invokevirtual 91, 3) ∧ 43 + 3 = 46 := ⟨by decide +kernel, rfl⟩
theorem dX9_takeKid_46 : decode cX9_takeKid 46 = .ok (.iinc 3 1, 3) ∧ 46 + 3 = 49 := ⟨by decide +kernel, rfl⟩
theorem dX9_takeKid_49 : decode cX9_takeKid 49 = .ok (.goto (-31), 3) ∧ 49 + 3 = 52 ∧ ((49 : Nat) : Int) + (-31) = ((18 : Nat) : Int) := ⟨by decide +kernel, rfl, rfl⟩
theorem dX9_takeKid_52 : decode cX9_takeKid 52 = .ok (.return_, 1) ∧ 52 + 1 = 53 := ⟨by decide +kernel, rfl⟩
theorem dX9_writeText_0 : decode cX9_writeText 0 = .ok (.aload_n 0, 1) ∧ 0 + 1 = 1 := ⟨by decide +kernel, rfl⟩
theorem dX9_writeText_1 : decode cX9_writeText 1 = .ok (.iload_n 1, 1) ∧ 1 + 1 = 2 := ⟨by decide +kernel, rfl⟩
theorem dX9_writeText_2 : decode cX9_writeText 2 = .ok (.iconst 1, 1) ∧ 2 + 1 = 3 := ⟨by decide +kernel, rfl⟩
theorem dX9_writeText_3 : decode cX9_writeText 3 = .ok (.aload_n 0, 1) ∧ 3 + 1 = 4 := ⟨by decide +kernel, rfl⟩
theorem dX9_writeText_4 : decode cX9_writeText 4 = .ok (.getfield 95, 3) ∧ 4 + 3 = 7 := ⟨by decide +kernel, rfl⟩
theorem dX9_writeText_7 : decode cX9_writeText 7 = .ok (.invokevirtual 91, 3) ∧ 7 + 3 = 10 := ⟨by decide +kernel, rfl⟩
theorem dX9_writeText_10 : decode cX9_writeText 10 = .ok (.iconst 0, 1) ∧ 10 + 1 = 11 := ⟨by decide +kernel, rfl⟩
theorem dX9_writeText_11 : decode cX9_writeText 11 = .ok (.istore_n 2, 1) ∧ 11 + 1 = 12 := ⟨by decide +kernel, rfl⟩
theorem dX9_writeText_12 : decode cX9_writeText 12 = .ok (.iload_n 2, 1) ∧ 12 + 1 = 13 := ⟨by decide +kernel, rfl⟩
theorem dX9_writeText_13 : decode cX9_writeText 13 = .ok (.aload_n 0, 1) ∧ 13 + 1 = 14 := ⟨by decide +kernel, rfl⟩
theorem dX9_writeText_14 : decode cX9_writeText 14 = .ok (.getfield 95, 3) ∧ 14 + 3 = 17 := ⟨by decide +kernel, rfl⟩
theorem dX9_writeText_17 : decode cX9_writeText 17 = .ok (.if_icmp .ge 23, 3) ∧ 17 + 3 = 20 ∧ ((17 : Nat) : Int) + (23) = ((40 : Nat) : Int) := ⟨by decide +kernel, rfl, rfl⟩
theorem dX9_writeText_20 : decode cX9_writeText 20 = .ok (.aload_n 0, 1) ∧ 20 + 1 = 21 := ⟨by decide +kernel, rfl⟩
theorem dX9_writeText_21 : decode cX9_writeText 21 = .ok (.iload_n 1, 1) ∧ 21 + 1 = 22 := ⟨by decide +kernel, rfl⟩
theorem dX9_writeText_22 : decode cX9_writeText 22 = .ok (.iconst 2, 1) ∧ 22 + 1 = 23 := ⟨by decide +kernel, rfl⟩
theorem dX9_writeText_23 : decode cX9_writeText 23 = .ok (.iload_n 2, 1) ∧ 23 + 1 = 24 := ⟨by decide +kernel, rfl⟩
theorem dX9_writeText_24 : decode cX9_writeText 24 = .ok (.iadd, 1) ∧ 24 + 1 = 25 := ⟨by decide +kernel, rfl⟩
theorem dX9_writeText_25 : decode cX9_writeText 25 = .ok (.aload_n 0, 1) ∧ 25 + 1 = 26 := ⟨by decide +kernel, rfl⟩
theorem dX9_writeText_26 : decode cX9_writeText 26 = .ok (.getfield 41, 3) ∧ 26 + 3 = 29 := ⟨by decide +kernel, rfl⟩
theorem dX9_writeText_29 : decode cX9_writeText 29 = .ok (.iload_n 2, 1) ∧ 29 + 1 = 30 := ⟨by decide +kernel, rfl⟩
theorem dX9_writeText_30 : decode cX9_writeText 30 = .ok (.caload, 1) ∧ 30 + 1 = 31 := ⟨by decide +kernel, rfl⟩
theorem dX9_writeText_31 : decode cX9_writeText 31 = .ok (.invokevirtual 91, 3) ∧ 31 + 3 = 34 := ⟨by decide +kernel, rfl⟩
theorem dX9_writeText_34 : decode cX9_writeText 34 = .ok (.iinc 2 1, 3) ∧ 34 + 3 = 37 := ⟨by decide +kernel, rfl⟩
theorem dX9_writeText_37 : decode cX9_writeText 37 = .ok (.goto (-25), 3) ∧ 37 + 3 = 40 ∧ ((37 : Nat) : Int) + (-25) = ((12 : Nat) : Int) := ⟨by decide +kernel, rfl, rfl⟩
theorem dX9_writeText_40 : decode cX9_writeText 40 = .ok (.return_, 1) ∧ 40 + 1 = 41 := ⟨by decide +kernel, rfl⟩
theorem dX9_make_0 : decode cX9_make 0 = .ok (.iconst 0, 1) ∧ 0 + 1 = 1 := ⟨by decide +kernel, rfl⟩
theorem dX9_make_1 : decode cX9_make 1 = .ok (.istore_n 2, 1) ∧ 1 + 1 = 2 := ⟨by decide +kernel, rfl⟩
theorem dX9_make_2 : decode cX9_make 2 = .ok (.iload_n 2, 1) ∧ 2 + 1 = 3 := ⟨by decide +kernel, rfl⟩
theorem dX9_make_3 : decode cX9_make 3 = .ok (.bipush 52, 2) ∧ 3 + 2 = 5 := ⟨by decide +kernel, rfl⟩
theorem dX9_make_5 : decode cX9_make 5 = .ok (.if_icmp .ge 16, 3) ∧ 5 + 3 = 8 ∧ ((5 : Nat) : Int) + (16) = ((21 : Nat) : Int) := ⟨by decide +kernel, rfl, rfl⟩
theorem dX9_make_8 : decode cX9_make 8 = .ok (.aload_n 0, 1) ∧ 8 + 1 = 9 := ⟨by decide +kernel, rfl⟩
theorem dX9_make_9 : decode cX9_make 9 = .ok (.iload_n 1, 1) ∧ 9 + 1 = 10 := ⟨by decide +kernel, rfl⟩
theorem dX9_make_10 : decode cX9_make 10 = .ok (.iload_n 2, 1) ∧ 10 + 1 = 11 := ⟨by decide +kernel, rfl⟩
theorem dX9_make_11 : decode cX9_make 11 = .ok (.iconst 0, 1) ∧ 11 + 1 = 12 := ⟨by decide +kernel, rfl⟩
theorem dX9_make_12 : decode cX9_make 12 = .ok (.invokevirtual 91, 3) ∧ 12 + 3 = 15 := ⟨by decide +kernel, rfl⟩
theorem dX9_make_15 : decode cX9_make 15 = .ok (.iinc 2 1, 3) ∧ 15 + 3 = 18 := ⟨by decide +kernel, rfl⟩
theorem dX9_make_18 : decode cX9_make 18 = .ok (.goto (-16), 3) ∧ 18 + 3 = 21 ∧ ((18 : Nat) : Int) + (-16) = ((2 : Nat) : Int) := ⟨by decide +kernel, rfl, rfl⟩
theorem dX9_make_21 : decode cX9_make 21 = .ok (.aload_n 0, 1) ∧ 21 + 1 = 22 := ⟨by decide +kernel, rfl⟩
theorem dX9_make_22 : decode cX9_make 22 = .ok (.iload_n 1, 1) ∧ 22 + 1 = 23 := ⟨by decide +kernel, rfl⟩
theorem dX9_make_23 : decode cX9_make 23 = .ok (.iconst 0, 1) ∧ 23 + 1 = 24 := ⟨by decide +kernel, rfl⟩
theorem dX9_make_24 : decode cX9_make 24 = .ok (.iconst 1, 1) ∧ 24 + 1 = 25 := ⟨by decide +kernel, rfl⟩
theorem dX9_make_25 : decode cX9_make 25 = .ok (.invokevirtual 91, 3) ∧ 25 + 3 = 28 := ⟨by decide +kernel, rfl⟩
theorem dX9_make_28 : decode cX9_make 28 = .ok (.return_, 1) ∧ 28 + 1 = 29 := ⟨by decide +kernel, rfl⟩
theorem dX9_add_0 : decode cX9_add 0 = .ok (.aload_n 0, 1) ∧ 0 + 1 = 1 := ⟨by decide +kernel, rfl⟩
theorem dX9_add_1 : decode cX9_add 1 = .ok (.iload_n 1, 1) ∧ 1 + 1 = 2 := ⟨by decide +kernel, rfl⟩
theorem dX9_add_2 : decode cX9_add 2 = .ok (.invokevirtual 98, 3) ∧ 2 + 3 = 5 := ⟨by decide +kernel, rfl⟩
theorem dX9_add_5 : decode cX9_add 5 = .ok (.istore_n 2, 1) ∧ 5 + 1 = 6 := ⟨by decide +kernel, rfl⟩
theorem dX9_add_6 : decode cX9_add 6 = .ok (.iload_n 2, 1) ∧ 6 + 1 = 7 := ⟨by decide +kernel, rfl⟩
theorem dX9_add_7 : decode cX9_add 7 = .ok (.bipush (-6), 2) ∧ 7 + 2 = 9 := ⟨by decide +kernel, rfl⟩
theorem dX9_add_9 : decode cX9_add 9 = .ok (.if_icmp .ne 6, 3) ∧ 9 + 3 = 12 ∧ ((9 : Nat) : Int) + (6) = ((15 : Nat) : Int) := ⟨by decide +kernel, rfl, rfl⟩
theorem dX9_add_12 : decode cX9_add 12 = .ok (.bipush (-2), 2) ∧ 12 + 2 = 14 := ⟨by decide +kernel, rfl⟩
theorem dX9_add_14 : decode cX9_add 14 = .ok (.ireturn, 1) ∧ 14 + 1 = 15 := ⟨by decide +kernel, rfl⟩
theorem dX9_add_15 : decode cX9_add 15 = .ok (.aload_n 0, 1) ∧ 15 + 1 = 16 := ⟨by decide +kernel, rfl⟩
theorem dX9_add_16 : decode cX9_add 16 = .ok (.getfield 95, 3) ∧ 16 + 3 = 19 := ⟨by decide +kernel, rfl⟩
theorem dX9_add_19 : decode cX9_add 19 = .ok (.iconst 1, 1) ∧ 19 + 1 = 20 := ⟨by decide +kernel, rfl⟩
theorem dX9_add_20 : decode cX9_add 20 = .ok (.bipush 8, 2) ∧ 20 + 2 = 22 := ⟨by decide +kernel, rfl⟩
theorem dX9_add_22 : decode cX9_add 22 = .ok (.invokestatic 101, 3) ∧ 22 + 3 = 25 := ⟨by decide +kernel, rfl⟩
theorem dX9_add_25 : decode cX9_add 25 = .ok (.ifCond .ne 6, 3) ∧ 25 + 3 = 28 ∧ ((25 : Nat) : Int) + (6) = ((31 : Nat) : Int) := ⟨by decide +kernel, rfl, rfl⟩
theorem dX9_add_28 : decode cX9_add 28 = .ok (.bipush (-3), 2) ∧ 28 + 2 = 30 := ⟨by decide +kernel, rfl⟩
theorem dX9_add_30 : decode cX9_add 30 = .ok (.ireturn, 1) ∧ 30 + 1 = 31 := ⟨by decide +kernel, rfl⟩
theorem dX9_add_31 : decode cX9_add 31 = .ok (.aload_n 0, 1) ∧ 31 + 1 = 32 := ⟨by decide +kernel, rfl⟩
theorem dX9_add_32 : decode cX9_add 32 = .ok (.getfield 7, 3) ∧ 32 + 3 = 35 := ⟨by decide +kernel, rfl⟩
theorem dX9_add_35 : decode cX9_add 35 = .ok (.iconst 0, 1) ∧ 35 + 1 = 36 := ⟨by decide +kernel, rfl⟩
theorem dX9_add_36 : decode cX9_add 36 = .ok (.iaload, 1) ∧ 36 + 1 = 37 := ⟨by decide +kernel, rfl⟩
theorem dX9_add_37 : decode cX9_add 37 = .ok (.bipush 40, 2) ∧ 37 + 2 = 39 := ⟨by decide +kernel, rfl⟩
theorem dX9_add_39 : decode cX9_add 39 = .ok (.if_icmp .ne 6, 3) ∧ 39 + 3 = 42 ∧ ((39 : Nat) : Int) + (6) = ((45 : Nat) : Int) := ⟨by decide +kernel, rfl, rfl⟩
theorem dX9_add_42 : decode cX9_add 42 = .ok (.bipush (-4), 2) ∧ 42 + 2 = 44 := ⟨by decide +kernel, rfl⟩
theorem dX9_add_44 : decode cX9_add 44 = .ok (.ireturn, 1) ∧ 44 + 1 = 45 := ⟨by decide +kernel, rfl⟩
theorem dX9_add_45 : decode cX9_add 45 = .ok (.aload_n 0, 1) ∧ 45 + 1 = 46 := ⟨by decide +kernel, rfl⟩
theorem dX9_add_46 : decode cX9_add 46 = .ok (.invokevirtual 105, 3) ∧ 46 + 3 = 49 := ⟨by decide +kernel, rfl⟩
theorem dX9_add_49 : decode cX9_add 49 = .ok (.aload_n 0, 1) ∧ 49 + 1 = 50 := ⟨by decide +kernel, rfl⟩
theorem dX9_add_50 : decode cX9_add 50 = .ok (.getfield 7, 3) ∧ 50 + 3 = 53 := ⟨by decide +kernel, rfl⟩
theorem dX9_add_53 : decode cX9_add 53 = .ok (.iconst 0, 1) ∧ 53 + 1 = 54 := ⟨by decide +kernel, rfl⟩
theorem dX9_add_54 : decode cX9_add 54 = .ok (.dup2, 1) ∧ 54 + 1 = 55 := ⟨by decide +kernel, rfl⟩
theorem dX9_add_55 : decode cX9_add 55 = .ok (.iaload, 1) ∧ 55 + 1 = 56 := ⟨by decide +kernel, rfl⟩
theorem dX9_add_56 : decode cX9_add 56 = .ok (.iconst 1, 1) ∧ 56 + 1 = 57 := ⟨by decide +kernel, rfl⟩
theorem dX9_add_57 : decode cX9_add 57 = .ok (.iadd, 1) ∧ 57 + 1 = 58 := ⟨by decide +kernel, rfl⟩
theorem dX9_add_58 : decode cX9_add 58 = .ok (.iastore, 1) ∧ 58 + 1 = 59 := ⟨by decide +kernel, rfl⟩
theorem dX9_add_59 : decode cX9_add 59 = .ok (.aload_n 0, 1) ∧ 59 + 1 = 60 := ⟨by decide +kernel, rfl⟩
theorem dX9_add_60 : decode cX9_add 60 = .ok (.getfield 7, 3) ∧ 60 + 3 = 63 := ⟨by decide +kernel, rfl⟩
theorem dX9_add_63 : decode cX9_add 63 = .ok (.iconst 0, 1) ∧ 63 + 1 = 64 := ⟨by decide +kernel, rfl⟩
theorem dX9_add_64 : decode cX9_add 64 = .ok (.iaload, 1) ∧ 64 + 1 = 65 := ⟨by decide +kernel, rfl⟩
theorem dX9_add_65 : decode cX9_add 65 = .ok (.istore_n 3, 1) ∧ 65 + 1 = 66 := ⟨by decide +kernel, rfl⟩
theorem dX9_add_66 : decode cX9_add 66 = .ok (.aload_n 0, 1) ∧ 66 + 1 = 67 := ⟨by decide +kernel, rfl⟩
theorem dX9_add_67 : decode cX9_add 67 = .ok (.iload_n 3, 1) ∧ 67 + 1 = 68 := ⟨by decide +kernel, rfl⟩
theorem dX9_add_68 : decode cX9_add 68 = .ok (.invokevirtual 108, 3) ∧ 68 + 3 = 71 := ⟨by decide +kernel, rfl⟩
theorem dX9_add_71 : decode cX9_add 71 = .ok (.aload_n 0, 1) ∧ 71 + 1 = 72 := ⟨by decide +kernel, rfl⟩
theorem dX9_add_72 : decode cX9_add 72 = .ok (.iload_n 3, 1) ∧ 72 + 1 = 73 := ⟨by decide +kernel, rfl⟩
theorem dX9_add_73 : decode cX9_add 73 = .ok (.invokevirtual 112, 3) ∧ 73 + 3 = 76 := ⟨by decide +kernel, rfl⟩
theorem dX9_add_76 : decode cX9_add 76 = .ok (.aload_n 0, 1) ∧ 76 + 1 = 77 := ⟨by decide +kernel, rfl⟩
theorem dX9_add_77 : decode cX9_add 77 = .ok (.iload_n 2, 1) ∧ 77 + 1 = 78 := ⟨by decide +kernel, rfl⟩
theorem dX9_add_78 : decode cX9_add 78 = .ok (.iload_n 3, 1) ∧ 78 + 1 = 79 := ⟨by decide +kernel, rfl⟩
theorem dX9_add_79 : decode cX9_add 79 = .ok (.invokevirtual 115, 3) ∧ 79 + 3 = 82 := ⟨by decide +kernel, rfl⟩
theorem dX9_add_82 : decode cX9_add 82 = .ok (.aload_n 0, 1) ∧ 82 + 1 = 83 := ⟨by decide +kernel, rfl⟩
theorem dX9_add_83 : decode cX9_add 83 = .ok (.invokevirtual 119, 3) ∧ 83 + 3 = 86 := ⟨by decide +kernel, rfl⟩
theorem dX9_add_86 : decode cX9_add 86 = .ok (.ifCond .ne 10, 3) ∧ 86 + 3 = 89 ∧ ((86 : Nat) : Int) + (10) = ((96 : Nat) : Int) := ⟨by decide +kernel, rfl, rfl⟩
theorem dX9_add_89 : decode cX9_add 89 = .ok (.aload_n 0, 1) ∧ 89 + 1 = 90 := ⟨by decide +kernel, rfl⟩
theorem dX9_add_90 : decode cX9_add 90 = .ok (.invokevirtual 123, 3) ∧ 90 + 3 = 93 := ⟨by decide +kernel, rfl⟩
theorem dX9_add_93 : decode cX9_add 93 = .ok (.bipush (-4), 2) ∧ 93 + 2 = 95 := ⟨by decide +kernel, rfl⟩
theorem dX9_add_95 : decode cX9_add 95 = .ok (.ireturn, 1) ∧ 95 + 1 = 96 := ⟨by decide +kernel, rfl⟩
theorem dX9_add_96 : decode cX9_add 96 = .ok (.aload_n 0, 1) ∧ 96 + 1 = 97 := ⟨by decide +kernel, rfl⟩
theorem dX9_add_97 : decode cX9_add 97 = .ok (.invokevirtual 126, 3) ∧ 97 + 3 = 100 := ⟨by decide +kernel, rfl⟩
theorem dX9_add_100 : decode cX9_add 100 = .ok (.iload_n 3, 1) ∧ 100 + 1 = 101 := ⟨by decide +kernel, rfl⟩
theorem dX9_add_101 : decode cX9_add 101 = .ok (.ireturn, 1) ∧ 101 + 1 = 102 := ⟨by decide +kernel, rfl⟩
theorem dX9_mayStand_0 : decode cX9_mayStand 0 = .ok (.aload_n 0, 1) ∧ 0 + 1 = 1 := ⟨by decide +kernel, rfl⟩
theorem dX9_mayStand_1 : decode cX9_mayStand 1 = .ok (.iload_n 1, 1) ∧ 1 + 1 = 2 := ⟨by decide +kernel, rfl⟩
theorem dX9_mayStand_2 : decode cX9_mayStand 2 = .ok (.invokevirtual 129, 3) ∧ 2 + 3 = 5 := ⟨by decide +kernel, rfl⟩
theorem dX9_mayStand_5 : decode cX9_mayStand 5 = .ok (.pop, 1) ∧ 5 + 1 = 6 := ⟨by decide +kernel, rfl⟩
theorem dX9_mayStand_6 : decode cX9_mayStand 6 = .ok (.aload_n 0, 1) ∧ 6 + 1 = 7 := ⟨by decide +kernel, rfl⟩
theorem dX9_mayStand_7 : decode cX9_mayStand 7 = .ok (.getfield 34, 3) ∧ 7 + 3 = 10 := ⟨by decide +kernel, rfl⟩
theorem dX9_mayStand_10 : decode cX9_mayStand 10 = .ok (.iload_n 2, 1) ∧ 10 + 1 = 11 := ⟨by decide +kernel, rfl⟩
theorem dX9_mayStand_11 : decode cX9_mayStand 11 = .ok (.baload, 1) ∧ 11 + 1 = 12 := ⟨by decide +kernel, rfl⟩
theorem dX9_mayStand_12 : decode cX9_mayStand 12 = .ok (.ifCond .ne 18, 3) ∧ 12 + 3 = 15 ∧ ((12 : Nat) : Int) + (18) = ((30 : Nat) : Int) := ⟨by decide +kernel, rfl, rfl⟩
theorem dX9_mayStand_15 : decode cX9_mayStand 15 = .ok (.aload_n 0, 1) ∧ 15 + 1 = 16 := ⟨by decide +kernel, rfl⟩
theorem dX9_mayStand_16 : decode cX9_mayStand 16 = .ok (.iload_n 2, 1) ∧ 16 + 1 = 17 := ⟨by decide +kernel, rfl⟩
theorem dX9_mayStand_17 : decode cX9_mayStand 17 = .ok (.iload_n 1, 1) ∧ 17 + 1 = 18 := ⟨by decide +kernel, rfl⟩
theorem dX9_mayStand_18 : decode cX9_mayStand 18 = .ok (.invokevirtual 132, 3) ∧ 18 + 3 = 21 := ⟨by decide +kernel, rfl⟩
theorem dX9_mayStand_21 : decode cX9_mayStand 21 = .ok (.bipush (-6), 2) ∧ 21 + 2 = 23 := ⟨by decide +kernel, rfl⟩
theorem dX9_mayStand_23 : decode cX9_mayStand 23 = .ok (.if_icmp .ne 7, 3) ∧ 23 + 3 = 26 ∧ ((23 : Nat) : Int) + (7) = ((30 : Nat) : Int) := ⟨by decide +kernel, rfl, rfl⟩
theorem dX9_mayStand_26 : decode cX9_mayStand 26 = .ok (.iconst 1, 1) ∧ 26 + 1 = 27 := ⟨by decide +kernel, rfl⟩
theorem dX9_mayStand_27 : decode cX9_mayStand 27 = .ok (.goto 4, 3) ∧ 27 + 3 = 30 ∧ ((27 : Nat) : Int) + (4) = ((31 : Nat) : Int) := ⟨by decide +kernel, rfl, rfl⟩
theorem dX9_mayStand_30 : decode cX9_mayStand 30 = .ok (.iconst 0, 1) ∧ 30 + 1 = 31 := ⟨by decide +kernel, rfl⟩
theorem dX9_mayStand_31 : decode cX9_mayStand 31 = .ok (.ireturn, 1) ∧ 31 + 1 = 32 := ⟨by decide +kernel, rfl⟩
theorem dX9_cloneTo_0 : decode cX9_cloneTo 0 = .ok (.aload_n 0, 1) ∧ 0 + 1 = 1 := ⟨by decide +kernel, rfl⟩
theorem dX9_cloneTo_1 : decode cX9_cloneTo 1 = .ok (.iload_n 1, 1) ∧ 1 + 1 = 2 := ⟨by decide +kernel, rfl⟩
theorem dX9_cloneTo_2 : decode cX9_cloneTo 2 = .ok (.invokevirtual 88, 3) ∧ 2 + 3 = 5 := ⟨by decide +kernel, rfl⟩
theorem dX9_cloneTo_5 : decode cX9_cloneTo 5 = .ok (.istore_n 3, 1) ∧ 5 + 1 = 6 := ⟨by decide +kernel, rfl⟩
theorem dX9_cloneTo_6 : decode cX9_cloneTo 6 = .ok (.aload_n 0, 1) ∧ 6 + 1 = 7 := ⟨by decide +kernel, rfl⟩
theorem dX9_cloneTo_7 : decode cX9_cloneTo 7 = .ok (.iload_n 2, 1) ∧ 7 + 1 = 8 := ⟨by decide +kernel, rfl⟩
theorem dX9_cloneTo_8 : decode cX9_cloneTo 8 = .ok (.invokevirtual 98, 3) ∧ 8 + 3 = 11 := ⟨by decide +kernel, rfl⟩
theorem dX9_cloneTo_11 : decode cX9_cloneTo 11 = .ok (.istore 4, 2) ∧ 11 + 2 = 13 := ⟨by decide +kernel, rfl⟩
theorem dX9_cloneTo_13 : decode cX9_cloneTo 13 = .ok (.iload_n 3, 1) ∧ 13 + 1 = 14 := ⟨by decide +kernel, rfl⟩
theorem dX9_cloneTo_14 : decode cX9_cloneTo 14 = .ok (.bipush (-6), 2) ∧ 14 + 2 = 16 := ⟨by decide +kernel, rfl⟩
theorem dX9_cloneTo_16 : decode cX9_cloneTo 16 = .ok (.if_icmp .eq 10, 3) ∧ 16 + 3 = 19 ∧ ((16 : Nat) : Int) + (10) = ((26 : Nat) : Int) := ⟨by decide +kernel, rfl, rfl⟩
theorem dX9_cloneTo_19 : decode cX9_cloneTo 19 = .ok (.iload 4, 2) ∧ 19 + 2 = 21 := ⟨by decide +kernel, rfl⟩
theorem dX9_cloneTo_21 : decode cX9_cloneTo 21 = .ok (.bipush (-6), 2) ∧ 21 + 2 = 23 := ⟨by decide +kernel, rfl⟩
theorem dX9_cloneTo_23 : decode cX9_cloneTo 23 = .ok (.if_icmp .ne 6, 3) ∧ 23 + 3 = 26 ∧ ((23 : Nat) : Int) + (6) = ((29 : Nat) : Int) := ⟨by decide +kernel, rfl, rfl⟩
theorem dX9_cloneTo_26 : decode cX9_cloneTo 26 = .ok (.bipush (-2), 2) ∧ 26 + 2 = 28 := ⟨by decide +kernel, rfl⟩
theorem dX9_cloneTo_28 : decode cX9_cloneTo 28 = .ok (.ireturn, 1) ∧ 28 + 1 = 29 := ⟨by decide +kernel, rfl⟩
theorem dX9_cloneTo_29 : decode cX9_cloneTo 29 = .ok (.aload_n 0, 1) ∧ 29 + 1 = 30 := ⟨by decide +kernel, rfl⟩
theorem dX9_cloneTo_30 : decode cX9_cloneTo 30 = .ok (.iload_n 3, 1) ∧ 30 + 1 = 31 := ⟨by decide +kernel, rfl⟩
theorem dX9_cloneTo_31 : decode cX9_cloneTo 31 = .ok (.iconst 0, 1) ∧ 31 + 1 = 32 := ⟨by decide +kernel, rfl⟩
theorem dX9_cloneTo_32 : decode cX9_cloneTo 32 = .ok (.invokevirtual 77, 3) ∧ 32 + 3 = 35 := ⟨by decide +kernel, rfl⟩
theorem dX9_cloneTo_35 : decode cX9_cloneTo 35 = .ok (.istore 5, 2) ∧ 35 + 2 = 37 := ⟨by decide +kernel, rfl⟩
theorem dX9_cloneTo_37 : decode cX9_cloneTo 37 = .ok (.aload_n 0, 1) ∧ 37 + 1 = 38 := ⟨by decide +kernel, rfl⟩
theorem dX9_cloneTo_38 : decode cX9_cloneTo 38 = .ok (.iload 5, 2) ∧ 38 + 2 = 40 := ⟨by decide +kernel, rfl⟩
theorem dX9_cloneTo_40 : decode cX9_cloneTo 40 = .ok (.iload 4, 2) ∧ 40 + 2 = 42 := ⟨by decide +kernel, rfl⟩
theorem dX9_cloneTo_42 : decode cX9_cloneTo 42 = .ok (.invokevirtual 135, 3) ∧ 42 + 3 = 45 := ⟨by decide +kernel, rfl⟩
theorem dX9_cloneTo_45 : decode cX9_cloneTo 45 = .ok (.ifCond .ne 6, 3) ∧ 45 + 3 = 48 ∧ ((45 : Nat) : Int) + (6) = ((51 : Nat) : Int) := ⟨by decide +kernel, rfl, rfl⟩
theorem dX9_cloneTo_48 : decode cX9_cloneTo 48 = .ok (.bipush (-5), 2) ∧ 48 + 2 = 50 := ⟨by decide +kernel, rfl⟩
theorem dX9_cloneTo_50 : decode cX9_cloneTo 50 = .ok (.ireturn, 1) ∧ 50 + 1 = 51 := ⟨by decide +kernel, rfl⟩
theorem dX9_cloneTo_51 : decode cX9_cloneTo 51 = .ok (.aload_n 0, 1) ∧ 51 + 1 = 52 := ⟨by decide +kernel, rfl⟩
theorem dX9_cloneTo_52 : decode cX9_cloneTo 52 = .ok (.invokevirtual 105, 3) ∧ 52 + 3 = 55 := ⟨by decide +kernel, rfl⟩
theorem dX9_cloneTo_55 : decode cX9_cloneTo 55 = .ok (.aload_n 0, 1) ∧ 55 + 1 = 56 := ⟨by decide +kernel, rfl⟩
theorem dX9_cloneTo_56 : decode cX9_cloneTo 56 = .ok (.iload 4, 2) ∧ 56 + 2 = 58 := ⟨by decide +kernel, rfl⟩
theorem dX9_cloneTo_58 : decode cX9_cloneTo 58 = .ok (.iload 5, 2) ∧ 58 + 2 = 60 := ⟨by decide +kernel, rfl⟩
theorem dX9_cloneTo_60 : decode cX9_cloneTo 60 = .ok (.invokevirtual 115, 3) ∧ 60 + 3 = 63 := ⟨by decide +kernel, rfl⟩
theorem dX9_cloneTo_63 : decode cX9_cloneTo 63 = .ok (.aload_n 0, 1) ∧ 63 + 1 = 64 := ⟨by decide +kernel, rfl⟩
theorem dX9_cloneTo_64 : decode cX9_cloneTo 64 = .ok (.invokevirtual 119, 3) ∧ 64 + 3 = 67 := ⟨by decide +kernel, rfl⟩
theorem dX9_cloneTo_67 : decode cX9_cloneTo 67 = .ok (.ifCond .ne 10, 3) ∧ 67 + 3 = 70 ∧ ((67 : Nat) : Int) + (10) = ((77 : Nat) : Int) := ⟨by decide +kernel, rfl, rfl⟩
theorem dX9_cloneTo_70 : decode cX9_cloneTo 70 = .ok (.aload_n 0, 1) ∧ 70 + 1 = 71 := ⟨by decide +kernel, rfl⟩
theorem dX9_cloneTo_71 : decode cX9_cloneTo 71 = .ok (.invokevirtual 123, 3) ∧ 71 + 3 = 74 := ⟨by decide +kernel, rfl⟩
theorem dX9_cloneTo_74 : decode cX9_cloneTo 74 = .ok (.bipush (-4), 2) ∧ 74 + 2 = 76 := ⟨by decide +kernel, rfl⟩
theorem dX9_cloneTo_76 : decode cX9_cloneTo 76 = .ok (.ireturn, 1) ∧ 76 + 1 = 77 := ⟨by decide +kernel, rfl⟩
theorem dX9_cloneTo_77 : decode cX9_cloneTo 77 = .ok (.aload_n 0, 1) ∧ 77 + 1 = 78 := ⟨by decide +kernel, rfl⟩
theorem dX9_cloneTo_78 : decode cX9_cloneTo 78 = .ok (.invokevirtual 126, 3) ∧ 78 + 3 = 81 := ⟨by decide +kernel, rfl⟩
theorem dX9_cloneTo_81 : decode cX9_cloneTo 81 = .ok (.aload_n 0, 1) ∧ 81 + 1 = 82 := ⟨by decide +kernel, rfl⟩
theorem dX9_cloneTo_82 : decode cX9_cloneTo 82 = .ok (.iload 5, 2) ∧ 82 + 2 = 84 := ⟨by decide +kernel, rfl⟩
theorem dX9_cloneTo_84 : decode cX9_cloneTo 84 = .ok (.invokevirtual 139, 3) ∧ 84 + 3 = 87 := ⟨by decide +kernel, rfl⟩
theorem dX9_cloneTo_87 : decode cX9_cloneTo 87 = .ok (.ireturn, 1) ∧ 87 + 1 = 88 := ⟨by decide +kernel, rfl⟩
theorem dX9_move_0 : decode cX9_move 0 = .ok (.aload_n 0, 1) ∧ 0 + 1 = 1 := ⟨by decide +kernel, rfl⟩
theorem dX9_move_1 : decode cX9_move 1 = .ok (.iload_n 1, 1) ∧ 1 + 1 = 2 := ⟨by decide +kernel, rfl⟩
theorem dX9_move_2 : decode cX9_move 2 = .ok (.invokevirtual 88, 3) ∧ 2 + 3 = 5 := ⟨by decide +kernel, rfl⟩
theorem dX9_move_5 : decode cX9_move 5 = .ok (.istore_n 3, 1) ∧ 5 + 1 = 6 := ⟨by decide +kernel, rfl⟩
theorem dX9_move_6 : decode cX9_move 6 = .ok (.aload_n 0, 1) ∧ 6 + 1 = 7 := ⟨by decide +kernel, rfl⟩
theorem dX9_move_7 : decode cX9_move 7 = .ok (.iload_n 2, 1) ∧ 7 + 1 = 8 := ⟨by decide +kernel, rfl⟩
theorem dX9_move_8 : decode cX9_move 8 = .ok (.invokevirtual 98, 3) ∧ 8 + 3 = 11 := ⟨by decide +kernel, rfl⟩
theorem dX9_move_11 : decode cX9_move 11 = .ok (.istore 4, 2) ∧ 11 + 2 = 13 := ⟨by decide +kernel, rfl⟩
theorem dX9_move_13 : decode cX9_move 13 = .ok (.iload_n 3, 1) ∧ 13 + 1 = 14 := ⟨by decide +kernel, rfl⟩
theorem dX9_move_14 : decode cX9_move 14 = .ok (.bipush (-6), 2) ∧ 14 + 2 = 16 := ⟨by decide +kernel, rfl⟩
theorem dX9_move_16 : decode cX9_move 16 = .ok (.if_icmp .eq 10, 3) ∧ 16 + 3 = 19 ∧ ((16 : Nat) : Int) + (10) = ((26 : Nat) : Int) := ⟨by decide +kernel, rfl, rfl⟩
theorem dX9_move_19 : decode cX9_move 19 = .ok (.iload 4, 2) ∧ 19 + 2 = 21 := ⟨by decide +kernel, rfl⟩
theorem dX9_move_21 : decode cX9_move 21 = .ok (.bipush (-6), 2) ∧ 21 + 2 = 23 := ⟨by decide +kernel, rfl⟩
theorem dX9_move_23 : decode cX9_move 23 = .ok (.if_icmp .ne 6, 3) ∧ 23 + 3 = 26 ∧ ((23 : Nat) : Int) + (6) = ((29 : Nat) : Int) := ⟨by decide +kernel, rfl, rfl⟩
theorem dX9_move_26 : decode cX9_move 26 = .ok (.bipush (-2), 2) ∧ 26 + 2 = 28 := ⟨by decide +kernel, rfl⟩
theorem dX9_move_28 : decode cX9_move 28 = .ok (.ireturn, 1) ∧ 28 + 1 = 29 := ⟨by decide +kernel, rfl⟩
theorem dX9_move_29 : decode cX9_move 29 = .ok (.aload_n 0, 1) ∧ 29 + 1 = 30 := ⟨by decide +kernel, rfl⟩
theorem dX9_move_30 : decode cX9_move 30 = .ok (.iload_n 3, 1) ∧ 30 + 1 = 31 := ⟨by decide +kernel, rfl⟩
theorem dX9_move_31 : decode cX9_move 31 = .ok (.iconst 0, 1) ∧ 31 + 1 = 32 := ⟨by decide +kernel, rfl⟩
theorem dX9_move_32 : decode cX9_move 32 = .ok (.invokevirtual 77, 3) ∧ 32 + 3 = 35 := ⟨by decide +kernel, rfl⟩
theorem dX9_move_35 : decode cX9_move 35 = .ok (.istore 5, 2) ∧ 35 + 2 = 37 := ⟨by decide +kernel, rfl⟩
theorem dX9_move_37 : decode cX9_move 37 = .ok (.aload_n 0, 1) ∧ 37 + 1 = 38 := ⟨by decide +kernel, rfl⟩
theorem dX9_move_38 : decode cX9_move 38 = .ok (.iload 5, 2) ∧ 38 + 2 = 40 := ⟨by decide +kernel, rfl⟩
theorem dX9_move_40 : decode cX9_move 40 = .ok (.iload 4, 2) ∧ 40 + 2 = 42 := ⟨by decide +kernel, rfl⟩
theorem dX9_move_42 : decode cX9_move 42 = .ok (.invokevirtual 135, 3) ∧ 42 + 3 = 45 := ⟨by decide +kernel, rfl⟩
theorem dX9_move_45 : decode cX9_move 45 = .ok (.ifCond .ne 6, 3) ∧ 45 + 3 = 48 ∧ ((45 : Nat) : Int) + (6) = ((51 : Nat) : Int) := ⟨by decide +kernel, rfl, rfl⟩
theorem dX9_move_48 : decode cX9_move 48 = .ok (.bipush (-5), 2) ∧ 48 + 2 = 50 := ⟨by decide +kernel, rfl⟩
theorem dX9_move_50 : decode cX9_move 50 = .ok (.ireturn, 1) ∧ 50 + 1 = 51 := ⟨by decide +kernel, rfl⟩
theorem dX9_move_51 : decode cX9_move 51 = .ok (.aload_n 0, 1) ∧ 51 + 1 = 52 := ⟨by decide +kernel, rfl⟩
theorem dX9_move_52 : decode cX9_move 52 = .ok (.invokevirtual 105, 3) ∧ 52 + 3 = 55 := ⟨by decide +kernel, rfl⟩
theorem dX9_move_55 : decode cX9_move 55 = .ok (.aload_n 0, 1) ∧ 55 + 1 = 56 := ⟨by decide +kernel, rfl⟩
theorem dX9_move_56 : decode cX9_move 56 = .ok (.iload_n 3, 1) ∧ 56 + 1 = 57 := ⟨by decide +kernel, rfl⟩
theorem dX9_move_57 : decode cX9_move 57 = .ok (.invokevirtual 142, 3) ∧ 57 + 3 = 60 := ⟨by decide +kernel, rfl⟩
theorem dX9_move_60 : decode cX9_move 60 = .ok (.istore 6, 2) ∧ 60 + 2 = 62 := ⟨by decide +kernel, rfl⟩
theorem dX9_move_62 : decode cX9_move 62 = .ok (.aload_n 0, 1) ∧ 62 + 1 = 63 := ⟨by decide +kernel, rfl⟩
theorem dX9_move_63 : decode cX9_move 63 = .ok (.iload 6, 2) ∧ 63 + 2 = 65 := ⟨by decide +kernel, rfl⟩
theorem dX9_move_65 : decode cX9_move 65 = .ok (.aload_n 0, 1) ∧ 65 + 1 = 66 := ⟨by decide +kernel, rfl⟩
theorem dX9_move_66 : decode cX9_move 66 = .ok (.iload 6, 2) ∧ 66 + 2 = 68 := ⟨by decide +kernel, rfl⟩
theorem dX9_move_68 : decode cX9_move 68 = .ok (.iload 5, 2) ∧ 68 + 2 = 70 := ⟨by decide +kernel, rfl⟩
theorem dX9_move_70 : decode cX9_move 70 = .ok (.invokevirtual 132, 3) ∧ 70 + 3 = 73 := ⟨by decide +kernel, rfl⟩
theorem dX9_move_73 : decode cX9_move 73 = .ok (.invokevirtual 145, 3) ∧ 73 + 3 = 76 := ⟨by decide +kernel, rfl⟩
theorem dX9_move_76 : decode cX9_move 76 = .ok (.aload_n 0, 1) ∧ 76 + 1 = 77 := ⟨by decide +kernel, rfl⟩
theorem dX9_move_77 : decode cX9_move 77 = .ok (.iload 4, 2) ∧ 77 + 2 = 79 := ⟨by decide +kernel, rfl⟩
theorem dX9_move_79 : decode cX9_move 79 = .ok (.iload 5, 2) ∧ 79 + 2 = 81 := ⟨by decide +kernel, rfl⟩
theorem dX9_move_81 : decode cX9_move 81 = .ok (.invokevirtual 115, 3) ∧ 81 + 3 = 84 := ⟨by decide +kernel, rfl⟩
theorem dX9_move_84 : decode cX9_move 84 = .ok (.aload_n 0, 1) ∧ 84 + 1 = 85 := ⟨by decide +kernel, rfl⟩
theorem dX9_move_85 : decode cX9_move 85 = .ok (.invokevirtual 119, 3) ∧ 85 + 3 = 88 := ⟨by decide +kernel, rfl⟩
theorem dX9_move_88 : decode cX9_move 88 = .ok (.ifCond .ne 10, 3) ∧ 88 + 3 = 91 ∧ ((88 : Nat) : Int) + (10) = ((98 : Nat) : Int) := ⟨by decide +kernel, rfl, rfl⟩
theorem dX9_move_91 : decode cX9_move 91 = .ok (.aload_n 0, 1) ∧ 91 + 1 = 92 := ⟨by decide +kernel, rfl⟩
theorem dX9_move_92 : decode cX9_move 92 = .ok (.invokevirtual 123, 3) ∧ 92 + 3 = 95 := ⟨by decide +kernel, rfl⟩
theorem dX9_move_95 : decode cX9_move 95 = .ok (.bipush (-4), 2) ∧ 95 + 2 = 97 := ⟨by decide +kernel, rfl⟩
theorem dX9_move_97 : decode cX9_move 97 = .ok (.ireturn, 1) ∧ 97 + 1 = 98 := ⟨by decide +kernel, rfl⟩
theorem dX9_move_98 : decode cX9_move 98 = .ok (.aload_n 0, 1) ∧ 98 + 1 = 99 := ⟨by decide +kernel, rfl⟩
theorem dX9_move_99 : decode cX9_move 99 = .ok (.invokevirtual 126, 3) ∧ 99 + 3 = 102 := ⟨by decide +kernel, rfl⟩
theorem dX9_move_102 : decode cX9_move 102 = .ok (.aload_n 0, 1) ∧ 102 + 1 = 103 := ⟨by decide +kernel, rfl⟩
theorem dX9_move_103 : decode cX9_move 103 = .ok (.iload 5, 2) ∧ 103 + 2 = 105 := ⟨by decide +kernel, rfl⟩
theorem dX9_move_105 : decode cX9_move 105 = .ok (.invokevirtual 139, 3) ∧ 105 + 3 = 108 := ⟨by decide +kernel, rfl⟩
theorem dX9_move_108 : decode cX9_move 108 = .ok (.ireturn, 1) ∧ 108 + 1 = 109 := ⟨by decide +kernel, rfl⟩
theorem dX9_cut_0 : decode cX9_cut 0 = .ok (.aload_n 0, 1) ∧ 0 + 1 = 1 := ⟨by decide +kernel, rfl⟩
theorem dX9_cut_1 : decode cX9_cut 1 = .ok (.iload_n 1, 1) ∧ 1 + 1 = 2 := ⟨by decide +kernel, rfl⟩
theorem dX9_cut_2 : decode cX9_cut 2 = .ok (.invokevirtual 88, 3) ∧ 2 + 3 = 5 := ⟨by decide +kernel, rfl⟩
theorem dX9_cut_5 : decode cX9_cut 5 = .ok (.istore_n 2, 1) ∧ 5 + 1 = 6 := ⟨by decide +kernel, rfl⟩
theorem dX9_cut_6 : decode cX9_cut 6 = .ok (.iload_n 2, 1) ∧ 6 + 1 = 7 := ⟨by decide +kernel, rfl⟩
theorem dX9_cut_7 : decode cX9_cut 7 = .ok (.bipush (-6), 2) ∧ 7 + 2 = 9 := ⟨by decide +kernel, rfl⟩
theorem dX9_cut_9 : decode cX9_cut 9 = .ok (.if_icmp .ne 6, 3) ∧ 9 + 3 = 12 ∧ ((9 : Nat) : Int) + (6) = ((15 : Nat) : Int) := ⟨by decide +kernel, rfl, rfl⟩
theorem dX9_cut_12 : decode cX9_cut 12 = .ok (.bipush (-2), 2) ∧ 12 + 2 = 14 := ⟨by decide +kernel, rfl⟩
theorem dX9_cut_14 : decode cX9_cut 14 = .ok (.ireturn, 1) ∧ 14 + 1 = 15 := ⟨by decide +kernel, rfl⟩
theorem dX9_cut_15 : decode cX9_cut 15 = .ok (.aload_n 0, 1) ∧ 15 + 1 = 16 := ⟨by decide +kernel, rfl⟩
theorem dX9_cut_16 : decode cX9_cut 16 = .ok (.invokevirtual 105, 3) ∧ 16 + 3 = 19 := ⟨by decide +kernel, rfl⟩
theorem dX9_cut_19 : decode cX9_cut 19 = .ok (.aload_n 0, 1) ∧ 19 + 1 = 20 := ⟨by decide +kernel, rfl⟩
theorem dX9_cut_20 : decode cX9_cut 20 = .ok (.iload_n 2, 1) ∧ 20 + 1 = 21 := ⟨by decide +kernel, rfl⟩
theorem dX9_cut_21 : decode cX9_cut 21 = .ok (.invokevirtual 142, 3) ∧ 21 + 3 = 24 := ⟨by decide +kernel, rfl⟩
theorem dX9_cut_24 : decode cX9_cut 24 = .ok (.istore_n 3, 1) ∧ 24 + 1 = 25 := ⟨by decide +kernel, rfl⟩
theorem dX9_cut_25 : decode cX9_cut 25 = .ok (.aload_n 0, 1) ∧ 25 + 1 = 26 := ⟨by decide +kernel, rfl⟩
theorem dX9_cut_26 : decode cX9_cut 26 = .ok (.iload_n 3, 1) ∧ 26 + 1 = 27 := ⟨by decide +kernel, rfl⟩
theorem dX9_cut_27 : decode cX9_cut 27 = .ok (.aload_n 0, 1) ∧ 27 + 1 = 28 := ⟨by decide +kernel, rfl⟩
theorem dX9_cut_28 : decode cX9_cut 28 = .ok (.iload_n 3, 1) ∧ 28 + 1 = 29 := ⟨by decide +kernel, rfl⟩
theorem dX9_cut_29 : decode cX9_cut 29 = .ok (.aload_n 0, 1) ∧ 29 + 1 = 30 := ⟨by decide +kernel, rfl⟩
theorem dX9_cut_30 : decode cX9_cut 30 = .ok (.iload_n 2, 1) ∧ 30 + 1 = 31 := ⟨by decide +kernel, rfl⟩
theorem dX9_cut_31 : decode cX9_cut 31 = .ok (.iconst 0, 1) ∧ 31 + 1 = 32 := ⟨by decide +kernel, rfl⟩
theorem dX9_cut_32 : decode cX9_cut 32 = .ok (.invokevirtual 77, 3) ∧ 32 + 3 = 35 := ⟨by decide +kernel, rfl⟩
theorem dX9_cut_35 : decode cX9_cut 35 = .ok (.invokevirtual 132, 3) ∧ 35 + 3 = 38 := ⟨by decide +kernel, rfl⟩
theorem dX9_cut_38 : decode cX9_cut 38 = .ok (.invokevirtual 145, 3) ∧ 38 + 3 = 41 := ⟨by decide +kernel, rfl⟩
theorem dX9_cut_41 : decode cX9_cut 41 = .ok (.aload_n 0, 1) ∧ 41 + 1 = 42 := ⟨by decide +kernel, rfl⟩
theorem dX9_cut_42 : decode cX9_cut 42 = .ok (.invokevirtual 119, 3) ∧ 42 + 3 = 45 := ⟨by decide +kernel, rfl⟩
theorem dX9_cut_45 : decode cX9_cut 45 = .ok (.istore 4, 2) ∧ 45 + 2 = 47 := ⟨by decide +kernel, rfl⟩
theorem dX9_cut_47 : decode cX9_cut 47 = .ok (.aload_n 0, 1) ∧ 47 + 1 = 48 := ⟨by decide +kernel, rfl⟩
theorem dX9_cut_48 : decode cX9_cut 48 = .ok (.invokevirtual 126, 3) ∧ 48 + 3 = 51 := ⟨by decide +kernel, rfl⟩
theorem dX9_cut_51 : decode cX9_cut 51 = .ok (.aload_n 0, 1) ∧ 51 + 1 = 52 := ⟨by decide +kernel, rfl⟩
theorem dX9_cut_52 : decode cX9_cut 52 = .ok (.iconst 0, 1) ∧ 52 + 1 = 53 := ⟨by decide +kernel, rfl⟩
theorem dX9_cut_53 : decode cX9_cut 53 = .ok (.invokevirtual 129, 3) ∧ 53 + 3 = 56 := ⟨by decide +kernel, rfl⟩
theorem dX9_cut_56 : decode cX9_cut 56 = .ok (.pop, 1) ∧ 56 + 1 = 57 := ⟨by decide +kernel, rfl⟩
theorem dX9_cut_57 : decode cX9_cut 57 = .ok (.iconst 0, 1) ∧ 57 + 1 = 58 := ⟨by decide +kernel, rfl⟩
theorem dX9_cut_58 : decode cX9_cut 58 = .ok (.istore 5, 2) ∧ 58 + 2 = 60 := ⟨by decide +kernel, rfl⟩
theorem dX9_cut_60 : decode cX9_cut 60 = .ok (.iconst 1, 1) ∧ 60 + 1 = 61 := ⟨by decide +kernel, rfl⟩
theorem dX9_cut_61 : decode cX9_cut 61 = .ok (.istore 6, 2) ∧ 61 + 2 = 63 := ⟨by decide +kernel, rfl⟩
theorem dX9_cut_63 : decode cX9_cut 63 = .ok (.iload 6, 2) ∧ 63 + 2 = 65 := ⟨by decide +kernel, rfl⟩
theorem dX9_cut_65 : decode cX9_cut 65 = .ok (.aload_n 0, 1) ∧ 65 + 1 = 66 := ⟨by decide +kernel, rfl⟩
theorem dX9_cut_66 : decode cX9_cut 66 = .ok (.getfield 7, 3) ∧ 66 + 3 = 69 := ⟨by decide +kernel, rfl⟩
theorem dX9_cut_69 : decode cX9_cut 69 = .ok (.iconst 0, 1) ∧ 69 + 1 = 70 := ⟨by decide +kernel, rfl⟩
theorem dX9_cut_70 : decode cX9_cut 70 = .ok (.iaload, 1) ∧ 70 + 1 = 71 := ⟨by decide +kernel, rfl⟩
theorem dX9_cut_71 : decode cX9_cut 71 = .ok (.if_icmp .gt 50, 3) ∧ 71 + 3 = 74 ∧ ((71 : Nat) : Int) + (50) = ((121 : Nat) : Int) := ⟨by decide +kernel, rfl, rfl⟩
theorem dX9_cut_74 : decode cX9_cut 74 = .ok (.aload_n 0, 1) ∧ 74 + 1 = 75 := ⟨by decide +kernel, rfl⟩
theorem dX9_cut_75 : decode cX9_cut 75 = .ok (.iload 6, 2) ∧ 75 + 2 = 77 := ⟨by decide +kernel, rfl⟩
theorem dX9_cut_77 : decode cX9_cut 77 = .ok (.iconst 0, 1) ∧ 77 + 1 = 78 := ⟨by decide +kernel, rfl⟩
theorem dX9_cut_78 : decode cX9_cut 78 = .ok (.invokevirtual 64, 3) ∧ 78 + 3 = 81 := ⟨by decide +kernel, rfl⟩
theorem dX9_cut_81 : decode cX9_cut 81 = .ok (.iconst 1, 1) ∧ 81 + 1 = 82 := ⟨by decide +kernel, rfl⟩
theorem dX9_cut_82 : decode cX9_cut 82 = .ok (.if_icmp .ne 33, 3) ∧ 82 + 3 = 85 ∧ ((82 : Nat) : Int) + (33) = ((115 : Nat) : Int) := ⟨by decide +kernel, rfl, rfl⟩
theorem dX9_cut_85 : decode cX9_cut 85 = .ok (.aload_n 0, 1) ∧ 85 + 1 = 86 := ⟨by decide +kernel, rfl⟩
theorem dX9_cut_86 : decode cX9_cut 86 = .ok (.getfield 34, 3) ∧ 86 + 3 = 89 := ⟨by decide +kernel, rfl⟩
theorem dX9_cut_89 : decode cX9_cut 89 = .ok (.iload 6, 2) ∧ 89 + 2 = 91 := ⟨by decide +kernel, rfl⟩
theorem dX9_cut_91 : decode cX9_cut 91 = .ok (.baload, 1) ∧ 91 + 1 = 92 := ⟨by decide +kernel, rfl⟩
theorem dX9_cut_92 : decode cX9_cut 92 = .ok (.ifCond .ne 23, 3) ∧ 92 + 3 = 95 ∧ ((92 : Nat) : Int) + (23) = ((115 : Nat) : Int) := ⟨by decide +kernel, rfl, rfl⟩
theorem dX9_cut_95 : decode cX9_cut 95 = .ok (.aload_n 0, 1) ∧ 95 + 1 = 96 := ⟨by decide +kernel, rfl⟩
theorem dX9_cut_96 : decode cX9_cut 96 = .ok (.iload 6, 2) ∧ 96 + 2 = 98 := ⟨by decide +kernel, rfl⟩
theorem dX9_cut_98 : decode cX9_cut 98 = .ok (.iconst 0, 1) ∧ 98 + 1 = 99 := ⟨by decide +kernel, rfl⟩
theorem dX9_cut_99 : decode cX9_cut 99 = .ok (.iconst 0, 1) ∧ 99 + 1 = 100 := ⟨by decide +kernel, rfl⟩
theorem dX9_cut_100 : decode cX9_cut 100 = .ok (.invokevirtual 91, 3) ∧ 100 + 3 = 103 := ⟨by decide +kernel, rfl⟩
theorem dX9_cut_103 : decode cX9_cut 103 = .ok (.aload_n 0, 1) ∧ 103 + 1 = 104 := ⟨by decide +kernel, rfl⟩
theorem dX9_cut_104 : decode cX9_cut 104 = .ok (.iload 6, 2) ∧ 104 + 2 = 106 := ⟨by decide +kernel, rfl⟩
theorem dX9_cut_106 : decode cX9_cut 106 = .ok (.bipush 11, 2) ∧ 106 + 2 = 108 := ⟨by decide +kernel, rfl⟩
theorem dX9_cut_108 : decode cX9_cut 108 = .ok (.iconst 0, 1) ∧ 108 + 1 = 109 := ⟨by decide +kernel, rfl⟩
theorem dX9_cut_109 : decode cX9_cut 109 = .ok (.invokevirtual 91, 3) ∧ 109 + 3 = 112 := ⟨by decide +kernel, rfl⟩
theorem dX9_cut_112 : decode cX9_cut 112 = .ok (.iinc 5 1, 3) ∧ 112 + 3 = 115 := ⟨by decide +kernel, rfl⟩
theorem dX9_cut_115 : decode cX9_cut 115 = .ok (.iinc 6 1, 3) ∧ 115 + 3 = 118 := ⟨by decide +kernel, rfl⟩
theorem dX9_cut_118 : decode cX9_cut 118 = .ok (.goto (-55), 3) ∧ 118 + 3 = 121 ∧ ((118 : Nat) : Int) + (-55) = ((63 : Nat) : Int) := ⟨by decide +kernel, rfl, rfl⟩
theorem dX9_cut_121 : decode cX9_cut 121 = .ok (.iload 5, 2) ∧ 121 + 2 = 123 := ⟨by decide +kernel, rfl⟩
theorem dX9_cut_123 : decode cX9_cut 123 = .ok (.ireturn, 1) ∧ 123 + 1 = 124 := ⟨by decide +kernel, rfl⟩
theorem dX9_shift_0 : decode cX9_shift 0 = .ok (.aload_n 0, 1) ∧ 0 + 1 = 1 := ⟨by decide +kernel, rfl⟩
theorem dX9_shift_1 : decode cX9_shift 1 = .ok (.iload_n 1, 1) ∧ 1 + 1 = 2 := ⟨by decide +kernel, rfl⟩
theorem dX9_shift_2 : decode cX9_shift 2 = .ok (.invokevirtual 88, 3) ∧ 2 + 3 = 5 := ⟨by decide +kernel, rfl⟩
theorem dX9_shift_5 : decode cX9_shift 5 = .ok (.istore_n 3, 1) ∧ 5 + 1 = 6 := ⟨by decide +kernel, rfl⟩
theorem dX9_shift_6 : decode cX9_shift 6 = .ok (.iload_n 3, 1) ∧ 6 + 1 = 7 := ⟨by decide +kernel, rfl⟩
theorem dX9_shift_7 : decode cX9_shift 7 = .ok (.bipush (-6), 2) ∧ 7 + 2 = 9 := ⟨by decide +kernel, rfl⟩
theorem dX9_shift_9 : decode cX9_shift 9 = .ok (.if_icmp .ne 6, 3) ∧ 9 + 3 = 12 ∧ ((9 : Nat) : Int) + (6) = ((15 : Nat) : Int) := ⟨by decide +kernel, rfl, rfl⟩
theorem dX9_shift_12 : decode cX9_shift 12 = .ok (.bipush (-2), 2) ∧ 12 + 2 = 14 := ⟨by decide +kernel, rfl⟩
theorem dX9_shift_14 : decode cX9_shift 14 = .ok (.ireturn, 1) ∧ 14 + 1 = 15 := ⟨by decide +kernel, rfl⟩
theorem dX9_shift_15 : decode cX9_shift 15 = .ok (.iload_n 2, 1) ∧ 15 + 1 = 16 := ⟨by decide +kernel, rfl⟩
theorem dX9_shift_16 : decode cX9_shift 16 = .ok (.bipush (-39), 2) ∧ 16 + 2 = 18 := ⟨by decide +kernel, rfl⟩
theorem dX9_shift_18 : decode cX9_shift 18 = .ok (.bipush 39, 2) ∧ 18 + 2 = 20 := ⟨by decide +kernel, rfl⟩
theorem dX9_shift_20 : decode cX9_shift 20 = .ok (.invokestatic 101, 3) ∧ 20 + 3 = 23 := ⟨by decide +kernel, rfl⟩
theorem dX9_shift_23 : decode cX9_shift 23 = .ok (.ifCond .eq 7, 3) ∧ 23 + 3 = 26 ∧ ((23 : Nat) : Int) + (7) = ((30 : Nat) : Int) := ⟨by decide +kernel, rfl, rfl⟩
theorem dX9_shift_26 : decode cX9_shift 26 = .ok (.iload_n 2, 1) ∧ 26 + 1 = 27 := ⟨by decide +kernel, rfl⟩
theorem dX9_shift_27 : decode cX9_shift 27 = .ok (.ifCond .ne 6, 3) ∧ 27 + 3 = 30 ∧ ((27 : Nat) : Int) + (6) = ((33 : Nat) : Int) := ⟨by decide +kernel, rfl, rfl⟩
theorem dX9_shift_30 : decode cX9_shift 30 = .ok (.bipush (-3), 2) ∧ 30 + 2 = 32 := ⟨by decide +kernel, rfl⟩
theorem dX9_shift_32 : decode cX9_shift 32 = .ok (.ireturn, 1) ∧ 32 + 1 = 33 := ⟨by decide +kernel, rfl⟩
theorem dX9_shift_33 : decode cX9_shift 33 = .ok (.aload_n 0, 1) ∧ 33 + 1 = 34 := ⟨by decide +kernel, rfl⟩
theorem dX9_shift_34 : decode cX9_shift 34 = .ok (.iload_n 3, 1) ∧ 34 + 1 = 35 := ⟨by decide +kernel, rfl⟩
theorem dX9_shift_35 : decode cX9_shift 35 = .ok (.iconst 0, 1) ∧ 35 + 1 = 36 := ⟨by decide +kernel, rfl⟩
theorem dX9_shift_36 : decode cX9_shift 36 = .ok (.invokevirtual 77, 3) ∧ 36 + 3 = 39 := ⟨by decide +kernel, rfl⟩
theorem dX9_shift_39 : decode cX9_shift 39 = .ok (.istore 4, 2) ∧ 39 + 2 = 41 := ⟨by decide +kernel, rfl⟩
theorem dX9_shift_41 : decode cX9_shift 41 = .ok (.aload_n 0, 1) ∧ 41 + 1 = 42 := ⟨by decide +kernel, rfl⟩
theorem dX9_shift_42 : decode cX9_shift 42 = .ok (.iload_n 3, 1) ∧ 42 + 1 = 43 := ⟨by decide +kernel, rfl⟩
theorem dX9_shift_43 : decode cX9_shift 43 = .ok (.invokevirtual 142, 3) ∧ 43 + 3 = 46 := ⟨by decide +kernel, rfl⟩
theorem dX9_shift_46 : decode cX9_shift 46 = .ok (.istore 5, 2) ∧ 46 + 2 = 48 := ⟨by decide +kernel, rfl⟩
theorem dX9_shift_48 : decode cX9_shift 48 = .ok (.aload_n 0, 1) ∧ 48 + 1 = 49 := ⟨by decide +kernel, rfl⟩
theorem dX9_shift_49 : decode cX9_shift 49 = .ok (.iload 5, 2) ∧ 49 + 2 = 51 := ⟨by decide +kernel, rfl⟩
theorem dX9_shift_51 : decode cX9_shift 51 = .ok (.iload 4, 2) ∧ 51 + 2 = 53 := ⟨by decide +kernel, rfl⟩
theorem dX9_shift_53 : decode cX9_shift 53 = .ok (.invokevirtual 132, 3) ∧ 53 + 3 = 56 := ⟨by decide +kernel, rfl⟩
theorem dX9_shift_56 : decode cX9_shift 56 = .ok (.istore 6, 2) ∧ 56 + 2 = 58 := ⟨by decide +kernel, rfl⟩
theorem dX9_shift_58 : decode cX9_shift 58 = .ok (.iload 6, 2) ∧ 58 + 2 = 60 := ⟨by decide +kernel, rfl⟩
theorem dX9_shift_60 : decode cX9_shift 60 = .ok (.iload_n 2, 1) ∧ 60 + 1 = 61 := ⟨by decide +kernel, rfl⟩
theorem dX9_shift_61 : decode cX9_shift 61 = .ok (.iadd, 1) ∧ 61 + 1 = 62 := ⟨by decide +kernel, rfl⟩
theorem dX9_shift_62 : decode cX9_shift 62 = .ok (.istore 7, 2) ∧ 62 + 2 = 64 := ⟨by decide +kernel, rfl⟩
theorem dX9_shift_64 : decode cX9_shift 64 = .ok (.iload 7, 2) ∧ 64 + 2 = 66 := ⟨by decide +kernel, rfl⟩
theorem dX9_shift_66 : decode cX9_shift 66 = .ok (.iconst 0, 1) ∧ 66 + 1 = 67 := ⟨by decide +kernel, rfl⟩
theorem dX9_shift_67 : decode cX9_shift 67 = .ok (.aload_n 0, 1) ∧ 67 + 1 = 68 := ⟨by decide +kernel, rfl⟩
theorem dX9_shift_68 : decode cX9_shift 68 = .ok (.iload 5, 2) ∧ 68 + 2 = 70 := ⟨by decide +kernel, rfl⟩
theorem dX9_shift_70 : decode cX9_shift 70 = .ok (.bipush 11, 2) ∧ 70 + 2 = 72 := ⟨by decide +kernel, rfl⟩
theorem dX9_shift_72 : decode cX9_shift 72 = .ok (.invokevirtual 64, 3) ∧ 72 + 3 = 75 := ⟨by decide +kernel, rfl⟩
theorem dX9_shift_75 : decode cX9_shift 75 = .ok (.iconst 1, 1) ∧ 75 + 1 = 76 := ⟨by decide +kernel, rfl⟩
theorem dX9_shift_76 : decode cX9_shift 76 = .ok (.isub, 1) ∧ 76 + 1 = 77 := ⟨by decide +kernel, rfl⟩
theorem dX9_shift_77 : decode cX9_shift 77 = .ok (.invokestatic 101, 3) ∧ 77 + 3 = 80 := ⟨by decide +kernel, rfl⟩
theorem dX9_shift_80 : decode cX9_shift 80 = .ok (.ifCond .ne 6, 3) ∧ 80 + 3 = 83 ∧ ((80 : Nat) : Int) + (6) = ((86 : Nat) : Int) := ⟨by decide +kernel, rfl, rfl⟩
theorem dX9_shift_83 : decode cX9_shift 83 = .ok (.bipush (-5), 2) ∧ 83 + 2 = 85 := ⟨by decide +kernel, rfl⟩
theorem dX9_shift_85 : decode cX9_shift 85 = .ok (.ireturn, 1) ∧ 85 + 1 = 86 := ⟨by decide +kernel, rfl⟩
theorem dX9_shift_86 : decode cX9_shift 86 = .ok (.aload_n 0, 1) ∧ 86 + 1 = 87 := ⟨by decide +kernel, rfl⟩
theorem dX9_shift_87 : decode cX9_shift 87 = .ok (.invokevirtual 105, 3) ∧ 87 + 3 = 90 := ⟨by decide +kernel, rfl⟩
theorem dX9_shift_90 : decode cX9_shift 90 = .ok (.iload_n 2, 1) ∧ 90 + 1 = 91 := ⟨by decide +kernel, rfl⟩
theorem dX9_shift_91 : decode cX9_shift 91 = .ok (.ifCond .ge 7, 3) ∧ 91 + 3 = 94 ∧ ((91 : Nat) : Int) + (7) = ((98 : Nat) : Int) := ⟨by decide +kernel, rfl, rfl⟩
theorem dX9_shift_94 : decode cX9_shift 94 = .ok (.iconst (-1), 1) ∧ 94 + 1 = 95 := ⟨by decide +kernel, rfl⟩
theorem dX9_shift_95 : decode cX9_shift 95 = .ok (.goto 4, 3) ∧ 95 + 3 = 98 ∧ ((95 : Nat) : Int) + (4) = ((99 : Nat) : Int) := ⟨by decide +kernel, rfl, rfl⟩
theorem dX9_shift_98 : decode cX9_shift 98 = .ok (.iconst 1, 1) ∧ 98 + 1 = 99 := ⟨by decide +kernel, rfl⟩
theorem dX9_shift_99 : decode cX9_shift 99 = .ok (.istore 8, 2) ∧ 99 + 2 = 101 := ⟨by decide +kernel, rfl⟩
theorem dX9_shift_101 : decode cX9_shift 101 = .ok (.iload 6, 2) ∧ 101 + 2 = 103 := ⟨by decide +kernel, rfl⟩
theorem dX9_shift_103 : decode cX9_shift 103 = .ok (.istore 9, 2) ∧ 103 + 2 = 105 := ⟨by decide +kernel, rfl⟩
theorem dX9_shift_105 : decode cX9_shift 105 = .ok (.iload 9, 2) ∧ 105 + 2 = 107 := ⟨by decide +kernel, rfl⟩
theorem dX9_shift_107 : decode cX9_shift 107 = .ok (.iload 7, 2) ∧ 107 + 2 = 109 := ⟨by decide +kernel, rfl⟩
theorem dX9_shift_109 : decode cX9_shift 109 = .ok (.if_icmp .eq 35, 3) ∧ 109 + 3 = 112 ∧ ((109 : Nat) : Int) + (35) = ((144 : Nat) : Int) := ⟨by decide +kernel, rfl, rfl⟩
theorem dX9_shift_112 : decode cX9_shift 112 = .ok (.aload_n 0, 1) ∧ 112 + 1 = 113 := ⟨by decide +kernel, rfl⟩
theorem dX9_shift_113 : decode cX9_shift 113 = .ok (.iload 5, 2) ∧ 113 + 2 = 115 := ⟨by decide +kernel, rfl⟩
theorem dX9_shift_115 : decode cX9_shift 115 = .ok (.bipush 12, 2) ∧ 115 + 2 = 117 := ⟨by decide +kernel, rfl⟩
theorem dX9_shift_117 : decode cX9_shift 117 = .ok (.iload 9, 2) ∧ 117 + 2 = 119 := ⟨by decide +kernel, rfl⟩
theorem dX9_shift_119 : decode cX9_shift 119 = .ok (.iadd, 1) ∧ 119 + 1 = 120 := ⟨by decide +kernel, rfl⟩
theorem dX9_shift_120 : decode cX9_shift 120 = .ok (.aload_n 0, 1) ∧ 120 + 1 = 121 := ⟨by decide +kernel, rfl⟩
theorem dX9_shift_121 : decode cX9_shift 121 = .ok (.iload 5, 2) ∧ 121 + 2 = 123 := ⟨by decide +kernel, rfl⟩
theorem dX9_shift_123 : decode cX9_shift 123 = .ok (.iload 9, 2) ∧ 123 + 2 = 125 := ⟨by decide +kernel, rfl⟩
theorem dX9_shift_125 : decode cX9_shift 125 = .ok (.iload 8, 2) ∧ 125 + 2 = 127 := ⟨by decide +kernel, rfl⟩
theorem dX9_shift_127 : decode cX9_shift 127 = .ok (.iadd, 1) ∧ 127 + 1 = 128 := ⟨by decide +kernel, rfl⟩
theorem dX9_shift_128 : decode cX9_shift 128 = .ok (.invokevirtual 71, 3) ∧ 128 + 3 = 131 := ⟨by decide +kernel, rfl⟩
theorem dX9_shift_131 : decode cX9_shift 131 = .ok (.invokevirtual 91, 3) ∧ 131 + 3 = 134 := ⟨by decide +kernel, rfl⟩
theorem dX9_shift_134 : decode cX9_shift 134 = .ok (.iload 9, 2) ∧ 134 + 2 = 136 := ⟨by decide +kernel, rfl⟩
theorem dX9_shift_136 : decode cX9_shift 136 = .ok (.iload 8, 2) ∧ 136 + 2 = 138 := ⟨by decide +kernel, rfl⟩
theorem dX9_shift_138 : decode cX9_shift 138 = .ok (.iadd, 1) ∧ 138 + 1 = 139 := ⟨by decide +kernel, rfl⟩
theorem dX9_shift_139 : decode cX9_shift 139 = .ok (.istore 9, 2) ∧ 139 + 2 = 141 := ⟨by decide +kernel, rfl⟩
theorem dX9_shift_141 : decode cX9_shift 141 = .ok (.goto (-36), 3) ∧ 141 + 3 = 144 ∧ ((141 : Nat) : Int) + (-36) = ((105 : Nat) : Int) := ⟨by decide +kernel, rfl, rfl⟩
theorem dX9_shift_144 : decode cX9_shift 144 = .ok (.aload_n 0, 1) ∧ 144 + 1 = 145 := ⟨by decide +kernel, rfl⟩
theorem dX9_shift_145 : decode cX9_shift 145 = .ok (.iload 5, 2) ∧ 145 + 2 = 147 := ⟨by decide +kernel, rfl⟩
theorem dX9_shift_147 : decode cX9_shift 147 = .ok (.bipush 12, 2) ∧ 147 + 2 = 149 := ⟨by decide +kernel, rfl⟩
theorem dX9_shift_149 : decode cX9_shift 149 = .ok (.iload 7, 2) ∧ 149 + 2 = 151 := ⟨by decide +kernel, rfl⟩
theorem dX9_shift_151 : decode cX9_shift 151 = .ok (.iadd, 1) ∧ 151 + 1 = 152 := ⟨by decide +kernel, rfl⟩
theorem dX9_shift_152 : decode cX9_shift 152 = .ok (.iload 4, 2) ∧ 152 + 2 = 154 := ⟨by decide +kernel, rfl⟩
theorem dX9_shift_154 : decode cX9_shift 154 = .ok (.invokevirtual 91, 3) ∧ 154 + 3 = 157 := ⟨by decide +kernel, rfl⟩
theorem dX9_shift_157 : decode cX9_shift 157 = .ok (.aload_n 0, 1) ∧ 157 + 1 = 158 := ⟨by decide +kernel, rfl⟩
theorem dX9_shift_158 : decode cX9_shift 158 = .ok (.invokevirtual 119, 3) ∧ 158 + 3 = 161 := ⟨by decide +kernel, rfl⟩
theorem dX9_shift_161 : decode cX9_shift 161 = .ok (.istore 9, 2) ∧ 161 + 2 = 163 := ⟨by decide +kernel, rfl⟩
theorem dX9_shift_163 : decode cX9_shift 163 = .ok (.aload_n 0, 1) ∧ 163 + 1 = 164 := ⟨by decide +kernel, rfl⟩
theorem dX9_shift_164 : decode cX9_shift 164 = .ok (.invokevirtual 126, 3) ∧ 164 + 3 = 167 := ⟨by decide +kernel, rfl⟩
theorem dX9_shift_167 : decode cX9_shift 167 = .ok (.iload 7, 2) ∧ 167 + 2 = 169 := ⟨by decide +kernel, rfl⟩
theorem dX9_shift_169 : decode cX9_shift 169 = .ok (.ireturn, 1) ∧ 169 + 1 = 170 := ⟨by decide +kernel, rfl⟩
theorem dX9_hasText_0 : decode cX9_hasText 0 = .ok (.aload_n 0, 1) ∧ 0 + 1 = 1 := ⟨by decide +kernel, rfl⟩
theorem dX9_hasText_1 : decode cX9_hasText 1 = .ok (.iload_n 1, 1) ∧ 1 + 1 = 2 := ⟨by decide +kernel, rfl⟩
theorem dX9_hasText_2 : decode cX9_hasText 2 = .ok (.iconst 1, 1) ∧ 2 + 1 = 3 := ⟨by decide +kernel, rfl⟩
theorem dX9_hasText_3 : decode cX9_hasText 3 = .ok (.invokevirtual 64, 3) ∧ 3 + 3 = 6 := ⟨by decide +kernel, rfl⟩
theorem dX9_hasText_6 : decode cX9_hasText 6 = .ok (.aload_n 0, 1) ∧ 6 + 1 = 7 := ⟨by decide +kernel, rfl⟩
theorem dX9_hasText_7 : decode cX9_hasText 7 = .ok (.getfield 95, 3) ∧ 7 + 3 = 10 := ⟨by decide +kernel, rfl⟩
theorem dX9_hasText_10 : decode cX9_hasText 10 = .ok (.if_icmp .eq 5, 3) ∧ 10 + 3 = 13 ∧ ((10 : Nat) : Int) + (5) = ((15 : Nat) : Int) := ⟨by decide +kernel, rfl, rfl⟩
theorem dX9_hasText_13 : decode cX9_hasText 13 = .ok (.iconst 0, 1) ∧ 13 + 1 = 14 := ⟨by decide +kernel, rfl⟩
theorem dX9_hasText_14 : decode cX9_hasText 14 = .ok (.ireturn, 1) ∧ 14 + 1 = 15 := ⟨by decide +kernel, rfl⟩
theorem dX9_hasText_15 : decode cX9_hasText 15 = .ok (.iconst 0, 1) ∧ 15 + 1 = 16 := ⟨by decide +kernel, rfl⟩
theorem dX9_hasText_16 : decode cX9_hasText 16 = .ok (.istore_n 2, 1) ∧ 16 + 1 = 17 := ⟨by decide +kernel, rfl⟩
theorem dX9_hasText_17 : decode cX9_hasText 17 = .ok (.iload_n 2, 1) ∧ 17 + 1 = 18 := ⟨by decide +kernel, rfl⟩
theorem dX9_hasText_18 : decode cX9_hasText 18 = .ok (.aload_n 0, 1) ∧ 18 + 1 = 19 := ⟨by decide +kernel, rfl⟩
theorem dX9_hasText_19 : decode cX9_hasText 19 = .ok (.getfield 95, 3) ∧ 19 + 3 = 22 := ⟨by decide +kernel, rfl⟩
theorem dX9_hasText_22 : decode cX9_hasText 22 = .ok (.if_icmp .ge 28, 3) ∧ 22 + 3 = 25 ∧ ((22 : Nat) : Int) + (28) = ((50 : Nat) : Int) := ⟨by decide +kernel, rfl, rfl⟩
theorem dX9_hasText_25 : decode cX9_hasText 25 = .ok (.aload_n 0, 1) ∧ 25 + 1 = 26 := ⟨by decide +kernel, rfl⟩
theorem dX9_hasText_26 : decode cX9_hasText 26 = .ok (.iload_n 1, 1) ∧ 26 + 1 = 27 := ⟨by decide +kernel, rfl⟩
theorem dX9_hasText_27 : decode cX9_hasText 27 = .ok (.iconst 2, 1) ∧ 27 + 1 = 28 := ⟨by decide +kernel, rfl⟩
theorem dX9_hasText_28 : decode cX9_hasText 28 = .ok (.iload_n 2, 1) ∧ 28 + 1 = 29 := ⟨by decide +kernel, rfl⟩
theorem dX9_hasText_29 : decode cX9_hasText 29 = .ok (.iadd, 1) ∧ 29 + 1 = 30 := ⟨by decide +kernel, rfl⟩
theorem dX9_hasText_30 : decode cX9_hasText 30 = .ok (.invokevirtual 64, 3) ∧ 30 + 3 = 33 := ⟨by decide +kernel, rfl⟩
theorem dX9_hasText_33 : decode cX9_hasText 33 = .ok (.aload_n 0, 1) ∧ 33 + 1 = 34 := ⟨by decide +kernel, rfl⟩
theorem dX9_hasText_34 : decode cX9_hasText 34 = .ok (.getfield 41, 3) ∧ 34 + 3 = 37 := ⟨by decide +kernel, rfl⟩
theorem dX9_hasText_37 : decode cX9_hasText 37 = .ok (.iload_n 2, 1) ∧ 37 + 1 = 38 := ⟨by decide +kernel, rfl⟩
theorem dX9_hasText_38 : decode cX9_hasText 38 = .ok (.caload, 1) ∧ 38 + 1 = 39 := ⟨by decide +kernel, rfl⟩
theorem dX9_hasText_39 : decode cX9_hasText 39 = .ok (.if_icmp .eq 5, 3) ∧ 39 + 3 = 42 ∧ ((39 : Nat) : Int) + (5) = ((44 : Nat) : Int) := ⟨by decide +kernel, rfl, rfl⟩
theorem dX9_hasText_42 : decode cX9_hasText 42 = .ok (.iconst 0, 1) ∧ 42 + 1 = 43 := ⟨by decide +kernel, rfl⟩
theorem dX9_hasText_43 : decode cX9_hasText 43 = .ok (.ireturn, 1) ∧ 43 + 1 = 44 := ⟨by decide +kernel, rfl⟩
theorem dX9_hasText_44 : decode cX9_hasText 44 = .ok (.iinc 2 1, 3) ∧ 44 + 3 = 47 := ⟨by decide +kernel, rfl⟩
theorem dX9_hasText_47 : decode cX9_hasText 47 = .ok (.goto (-30), 3) ∧ 47 + 3 = 50 ∧ ((47 : Nat) : Int) + (-30) = ((17 : Nat) : Int) := ⟨by decide +kernel, rfl, rfl⟩
theorem dX9_hasText_50 : decode cX9_hasText 50 = .ok (.iconst 1, 1) ∧ 50 + 1 = 51 := ⟨by decide +kernel, rfl⟩
theorem dX9_hasText_51 : decode cX9_hasText 51 = .ok (.ireturn, 1) ∧ 51 + 1 = 52 := ⟨by decide +kernel, rfl⟩
theorem dX9_edit_0 : decode cX9_edit 0 = .ok (.aload_n 0, 1) ∧ 0 + 1 = 1 := ⟨by decide +kernel, rfl⟩
theorem dX9_edit_1 : decode cX9_edit 1 = .ok (.iload_n 1, 1) ∧ 1 + 1 = 2 := ⟨by decide +kernel, rfl⟩
theorem dX9_edit_2 : decode cX9_edit 2 = .ok (.invokevirtual 88, 3) ∧ 2 + 3 = 5 := ⟨by decide +kernel, rfl⟩
theorem dX9_edit_5 : decode cX9_edit 5 = .ok (.istore_n 2, 1) ∧ 5 + 1 = 6 := ⟨by decide +kernel, rfl⟩
theorem dX9_edit_6 : decode cX9_edit 6 = .ok (.iload_n 2, 1) ∧ 6 + 1 = 7 := ⟨by decide +kernel, rfl⟩
theorem dX9_edit_7 : decode cX9_edit 7 = .ok (.bipush (-6), 2) ∧ 7 + 2 = 9 := ⟨by decide +kernel, rfl⟩
theorem dX9_edit_9 : decode cX9_edit 9 = .ok (.if_icmp .ne 6, 3) ∧ 9 + 3 = 12 ∧ ((9 : Nat) : Int) + (6) = ((15 : Nat) : Int) := ⟨by decide +kernel, rfl, rfl⟩
theorem dX9_edit_12 : decode cX9_edit 12 = .ok (.bipush (-2), 2) ∧ 12 + 2 = 14 := ⟨by decide +kernel, rfl⟩
theorem dX9_edit_14 : decode cX9_edit 14 = .ok (.ireturn, 1) ∧ 14 + 1 = 15 := ⟨by decide +kernel, rfl⟩
theorem dX9_edit_15 : decode cX9_edit 15 = .ok (.aload_n 0, 1) ∧ 15 + 1 = 16 := ⟨by decide +kernel, rfl⟩
theorem dX9_edit_16 : decode cX9_edit 16 = .ok (.getfield 95, 3) ∧ 16 + 3 = 19 := ⟨by decide +kernel, rfl⟩
theorem dX9_edit_19 : decode cX9_edit 19 = .ok (.iconst 1, 1) ∧ 19 + 1 = 20 := ⟨by decide +kernel, rfl⟩
theorem dX9_edit_20 : decode cX9_edit 20 = .ok (.bipush 8, 2) ∧ 20 + 2 = 22 := ⟨by decide +kernel, rfl⟩
theorem dX9_edit_22 : decode cX9_edit 22 = .ok (.invokestatic 101, 3) ∧ 22 + 3 = 25 := ⟨by decide +kernel, rfl⟩
theorem dX9_edit_25 : decode cX9_edit 25 = .ok (.ifCond .ne 6, 3) ∧ 25 + 3 = 28 ∧ ((25 : Nat) : Int) + (6) = ((31 : Nat) : Int) := ⟨by decide +kernel, rfl, rfl⟩
theorem dX9_edit_28 : decode cX9_edit 28 = .ok (.bipush (-3), 2) ∧ 28 + 2 = 30 := ⟨by decide +kernel, rfl⟩
theorem dX9_edit_30 : decode cX9_edit 30 = .ok (.ireturn, 1) ∧ 30 + 1 = 31 := ⟨by decide +kernel, rfl⟩
theorem dX9_edit_31 : decode cX9_edit 31 = .ok (.aload_n 0, 1) ∧ 31 + 1 = 32 := ⟨by decide +kernel, rfl⟩
theorem dX9_edit_32 : decode cX9_edit 32 = .ok (.iload_n 2, 1) ∧ 32 + 1 = 33 := ⟨by decide +kernel, rfl⟩
theorem dX9_edit_33 : decode cX9_edit 33 = .ok (.iconst 0, 1) ∧ 33 + 1 = 34 := ⟨by decide +kernel, rfl⟩
theorem dX9_edit_34 : decode cX9_edit 34 = .ok (.invokevirtual 77, 3) ∧ 34 + 3 = 37 := ⟨by decide +kernel, rfl⟩
theorem dX9_edit_37 : decode cX9_edit 37 = .ok (.istore_n 3, 1) ∧ 37 + 1 = 38 := ⟨by decide +kernel, rfl⟩
theorem dX9_edit_38 : decode cX9_edit 38 = .ok (.aload_n 0, 1) ∧ 38 + 1 = 39 := ⟨by decide +kernel, rfl⟩
theorem dX9_edit_39 : decode cX9_edit 39 = .ok (.iload_n 3, 1) ∧ 39 + 1 = 40 := ⟨by decide +kernel, rfl⟩
theorem dX9_edit_40 : decode cX9_edit 40 = .ok (.invokevirtual 148, 3) ∧ 40 + 3 = 43 := ⟨by decide +kernel, rfl⟩
theorem dX9_edit_43 : decode cX9_edit 43 = .ok (.ifCond .eq 6, 3) ∧ 43 + 3 = 46 ∧ ((43 : Nat) : Int) + (6) = ((49 : Nat) : Int) := ⟨by decide +kernel, rfl, rfl⟩
theorem dX9_edit_46 : decode cX9_edit 46 = .ok (.bipush (-6), 2) ∧ 46 + 2 = 48 := ⟨by decide +kernel, rfl⟩
theorem dX9_edit_48 : decode cX9_edit 48 = .ok (.ireturn, 1) ∧ 48 + 1 = 49 := ⟨by decide +kernel, rfl⟩
theorem dX9_edit_49 : decode cX9_edit 49 = .ok (.aload_n 0, 1) ∧ 49 + 1 = 50 := ⟨by decide +kernel, rfl⟩
theorem dX9_edit_50 : decode cX9_edit 50 = .ok (.invokevirtual 105, 3) ∧ 50 + 3 = 53 := ⟨by decide +kernel, rfl⟩
theorem dX9_edit_53 : decode cX9_edit 53 = .ok (.aload_n 0, 1) ∧ 53 + 1 = 54 := ⟨by decide +kernel, rfl⟩
theorem dX9_edit_54 : decode cX9_edit 54 = .ok (.iload_n 3, 1) ∧ 54 + 1 = 55 := ⟨by decide +kernel, rfl⟩
theorem dX9_edit_55 : decode cX9_edit 55 = .ok (.invokevirtual 112, 3) ∧ 55 + 3 = 58 := ⟨by decide +kernel, rfl⟩
theorem dX9_edit_58 : decode cX9_edit 58 = .ok (.aload_n 0, 1) ∧ 58 + 1 = 59 := ⟨by decide +kernel, rfl⟩
theorem dX9_edit_59 : decode cX9_edit 59 = .ok (.invokevirtual 126, 3) ∧ 59 + 3 = 62 := ⟨by decide +kernel, rfl⟩
theorem dX9_edit_62 : decode cX9_edit 62 = .ok (.aload_n 0, 1) ∧ 62 + 1 = 63 := ⟨by decide +kernel, rfl⟩
theorem dX9_edit_63 : decode cX9_edit 63 = .ok (.iload_n 3, 1) ∧ 63 + 1 = 64 := ⟨by decide +kernel, rfl⟩
theorem dX9_edit_64 : decode cX9_edit 64 = .ok (.invokevirtual 139, 3) ∧ 64 + 3 = 67 := ⟨by decide +kernel, rfl⟩
theorem dX9_edit_67 : decode cX9_edit 67 = .ok (.ireturn, 1) ∧ 67 + 1 = 68 := ⟨by decide +kernel, rfl⟩
theorem dX9_mark_0 : decode cX9_mark 0 = .ok (.aload_n 0, 1) ∧ 0 + 1 = 1 := ⟨by decide +kernel, rfl⟩
theorem dX9_mark_1 : decode cX9_mark 1 = .ok (.iload_n 1, 1) ∧ 1 + 1 = 2 := ⟨by decide +kernel, rfl⟩
theorem dX9_mark_2 : decode cX9_mark 2 = .ok (.invokevirtual 88, 3) ∧ 2 + 3 = 5 := ⟨by decide +kernel, rfl⟩
theorem dX9_mark_5 : decode cX9_mark 5 = .ok (.istore_n 3, 1) ∧ 5 + 1 = 6 := ⟨by decide +kernel, rfl⟩
theorem dX9_mark_6 : decode cX9_mark 6 = .ok (.iload_n 3, 1) ∧ 6 + 1 = 7 := ⟨by decide +kernel, rfl⟩
theorem dX9_mark_7 : decode cX9_mark 7 = .ok (.bipush (-6), 2) ∧ 7 + 2 = 9 := ⟨by decide +kernel, rfl⟩
theorem dX9_mark_9 : decode cX9_mark 9 = .ok (.if_icmp .ne 6, 3) ∧ 9 + 3 = 12 ∧ ((9 : Nat) : Int) + (6) = ((15 : Nat) : Int) := ⟨by decide +kernel, rfl, rfl⟩
theorem dX9_mark_12 : decode cX9_mark 12 = .ok (.bipush (-2), 2) ∧ 12 + 2 = 14 := ⟨by decide +kernel, rfl⟩
theorem dX9_mark_14 : decode cX9_mark 14 = .ok (.ireturn, 1) ∧ 14 + 1 = 15 := ⟨by decide +kernel, rfl⟩
theorem dX9_mark_15 : decode cX9_mark 15 = .ok (.iload_n 2, 1) ∧ 15 + 1 = 16 := ⟨by decide +kernel, rfl⟩
theorem dX9_mark_16 : decode cX9_mark 16 = .ok (.iconst 0, 1) ∧ 16 + 1 = 17 := ⟨by decide +kernel, rfl⟩
theorem dX9_mark_17 : decode cX9_mark 17 = .ok (.iconst 4, 1) ∧ 17 + 1 = 18 := ⟨by decide +kernel, rfl⟩
theorem dX9_mark_18 : decode cX9_mark 18 = .ok (.invokestatic 101, 3) ∧ 18 + 3 = 21 := ⟨by decide +kernel, rfl⟩
theorem dX9_mark_21 : decode cX9_mark 21 = .ok (.ifCond .ne 6, 3) ∧ 21 + 3 = 24 ∧ ((21 : Nat) : Int) + (6) = ((27 : Nat) : Int) := ⟨by decide +kernel, rfl, rfl⟩
theorem dX9_mark_24 : decode cX9_mark 24 = .ok (.bipush (-3), 2) ∧ 24 + 2 = 26 := ⟨by decide +kernel, rfl⟩
theorem dX9_mark_26 : decode cX9_mark 26 = .ok (.ireturn, 1) ∧ 26 + 1 = 27 := ⟨by decide +kernel, rfl⟩
theorem dX9_mark_27 : decode cX9_mark 27 = .ok (.aload_n 0, 1) ∧ 27 + 1 = 28 := ⟨by decide +kernel, rfl⟩
theorem dX9_mark_28 : decode cX9_mark 28 = .ok (.invokevirtual 105, 3) ∧ 28 + 3 = 31 := ⟨by decide +kernel, rfl⟩
theorem dX9_mark_31 : decode cX9_mark 31 = .ok (.aload_n 0, 1) ∧ 31 + 1 = 32 := ⟨by decide +kernel, rfl⟩
theorem dX9_mark_32 : decode cX9_mark 32 = .ok (.iload_n 3, 1) ∧ 32 + 1 = 33 := ⟨by decide +kernel, rfl⟩
theorem dX9_mark_33 : decode cX9_mark 33 = .ok (.iconst 0, 1) ∧ 33 + 1 = 34 := ⟨by decide +kernel, rfl⟩
theorem dX9_mark_34 : decode cX9_mark 34 = .ok (.invokevirtual 77, 3) ∧ 34 + 3 = 37 := ⟨by decide +kernel, rfl⟩
theorem dX9_mark_37 : decode cX9_mark 37 = .ok (.istore 4, 2) ∧ 37 + 2 = 39 := ⟨by decide +kernel, rfl⟩
theorem dX9_mark_39 : decode cX9_mark 39 = .ok (.aload_n 0, 1) ∧ 39 + 1 = 40 := ⟨by decide +kernel, rfl⟩
theorem dX9_mark_40 : decode cX9_mark 40 = .ok (.iload 4, 2) ∧ 40 + 2 = 42 := ⟨by decide +kernel, rfl⟩
theorem dX9_mark_42 : decode cX9_mark 42 = .ok (.bipush 10, 2) ∧ 42 + 2 = 44 := ⟨by decide +kernel, rfl⟩
theorem dX9_mark_44 : decode cX9_mark 44 = .ok (.aload_n 0, 1) ∧ 44 + 1 = 45 := ⟨by decide +kernel, rfl⟩
theorem dX9_mark_45 : decode cX9_mark 45 = .ok (.iload 4, 2) ∧ 45 + 2 = 47 := ⟨by decide +kernel, rfl⟩
theorem dX9_mark_47 : decode cX9_mark 47 = .ok (.bipush 10, 2) ∧ 47 + 2 = 49 := ⟨by decide +kernel, rfl⟩
theorem dX9_mark_49 : decode cX9_mark 49 = .ok (.invokevirtual 64, 3) ∧ 49 + 3 = 52 := ⟨by decide +kernel, rfl⟩
theorem dX9_mark_52 : decode cX9_mark 52 = .ok (.iconst 1, 1) ∧ 52 + 1 = 53 := ⟨by decide +kernel, rfl⟩
theorem dX9_mark_53 : decode cX9_mark 53 = .ok (.iload_n 2, 1) ∧ 53 + 1 = 54 := ⟨by decide +kernel, rfl⟩
theorem dX9_mark_54 : decode cX9_mark 54 = .ok (.ishl, 1) ∧ 54 + 1 = 55 := ⟨by decide +kernel, rfl⟩
theorem dX9_mark_55 : decode cX9_mark 55 = .ok (.ixor, 1) ∧ 55 + 1 = 56 := ⟨by decide +kernel, rfl⟩
theorem dX9_mark_56 : decode cX9_mark 56 = .ok (.invokevirtual 91, 3) ∧ 56 + 3 = 59 := ⟨by decide +kernel, rfl⟩
theorem dX9_mark_59 : decode cX9_mark 59 = .ok (.aload_n 0, 1) ∧ 59 + 1 = 60 := ⟨by decide +kernel, rfl⟩
theorem dX9_mark_60 : decode cX9_mark 60 = .ok (.invokevirtual 126, 3) ∧ 60 + 3 = 63 := ⟨by decide +kernel, rfl⟩
theorem dX9_mark_63 : decode cX9_mark 63 = .ok (.aload_n 0, 1) ∧ 63 + 1 = 64 := ⟨by decide +kernel, rfl⟩
theorem dX9_mark_64 : decode cX9_mark 64 = .ok (.iload 4, 2) ∧ 64 + 2 = 66 := ⟨by decide +kernel, rfl⟩
theorem dX9_mark_66 : decode cX9_mark 66 = .ok (.bipush 10, 2) ∧ 66 + 2 = 68 := ⟨by decide +kernel, rfl⟩
theorem dX9_mark_68 : decode cX9_mark 68 = .ok (.invokevirtual 64, 3) ∧ 68 + 3 = 71 := ⟨by decide +kernel, rfl⟩
theorem dX9_mark_71 : decode cX9_mark 71 = .ok (.ireturn, 1) ∧ 71 + 1 = 72 := ⟨by decide +kernel, rfl⟩
theorem dX9_hasKids_0 : decode cX9_hasKids 0 = .ok (.aload_n 0, 1) ∧ 0 + 1 = 1 := ⟨by decide +kernel, rfl⟩
theorem dX9_hasKids_1 : decode cX9_hasKids 1 = .ok (.aload_n 0, 1) ∧ 1 + 1 = 2 := ⟨by decide +kernel, rfl⟩
theorem dX9_hasKids_2 : decode cX9_hasKids 2 = .ok (.iload_n 1, 1) ∧ 2 + 1 = 3 := ⟨by decide +kernel, rfl⟩
theorem dX9_hasKids_3 : decode cX9_hasKids 3 = .ok (.iconst 0, 1) ∧ 3 + 1 = 4 := ⟨by decide +kernel, rfl⟩
theorem dX9_hasKids_4 : decode cX9_hasKids 4 = .ok (.invokevirtual 77, 3) ∧ 4 + 3 = 7 := ⟨by decide +kernel, rfl⟩
theorem dX9_hasKids_7 : decode cX9_hasKids 7 = .ok (.bipush 11, 2) ∧ 7 + 2 = 9 := ⟨by decide +kernel, rfl⟩
theorem dX9_hasKids_9 : decode cX9_hasKids 9 = .ok (.invokevirtual 64, 3) ∧ 9 + 3 = 12 := ⟨by decide +kernel, rfl⟩
theorem dX9_hasKids_12 : decode cX9_hasKids 12 = .ok (.ifCond .le 7, 3) ∧ 12 + 3 = 15 ∧ ((12 : Nat) : Int) + (7) = ((19 : Nat) : Int) := ⟨by decide +kernel, rfl, rfl⟩
theorem dX9_hasKids_15 : decode cX9_hasKids 15 = .ok (.iconst 1, 1) ∧ 15 + 1 = 16 := ⟨by decide +kernel, rfl⟩
theorem dX9_hasKids_16 : decode cX9_hasKids 16 = .ok (.goto 4, 3) ∧ 16 + 3 = 19 ∧ ((16 : Nat) : Int) + (4) = ((20 : Nat) : Int) := ⟨by decide +kernel, rfl, rfl⟩
theorem dX9_hasKids_19 : decode cX9_hasKids 19 = .ok (.iconst 0, 1) ∧ 19 + 1 = 20 := ⟨by decide +kernel, rfl⟩
theorem dX9_hasKids_20 : decode cX9_hasKids 20 = .ok (.ireturn, 1) ∧ 20 + 1 = 21 := ⟨by decide +kernel, rfl⟩
theorem dX9_fold_0 : decode cX9_fold 0 = .ok (.aload_n 0, 1) ∧ 0 + 1 = 1 := ⟨by decide +kernel, rfl⟩
theorem dX9_fold_1 : decode cX9_fold 1 = .ok (.iload_n 1, 1) ∧ 1 + 1 = 2 := ⟨by decide +kernel, rfl⟩
theorem dX9_fold_2 : decode cX9_fold 2 = .ok (.invokevirtual 88, 3) ∧ 2 + 3 = 5 := ⟨by decide +kernel, rfl⟩
theorem dX9_fold_5 : decode cX9_fold 5 = .ok (.istore_n 3, 1) ∧ 5 + 1 = 6 := ⟨by decide +kernel, rfl⟩
theorem dX9_fold_6 : decode cX9_fold 6 = .ok (.iload_n 3, 1) ∧ 6 + 1 = 7 := ⟨by decide +kernel, rfl⟩
theorem dX9_fold_7 : decode cX9_fold 7 = .ok (.bipush (-6), 2) ∧ 7 + 2 = 9 := ⟨by decide +kernel, rfl⟩
theorem dX9_fold_9 : decode cX9_fold 9 = .ok (.if_icmp .ne 6, 3) ∧ 9 + 3 = 12 ∧ ((9 : Nat) : Int) + (6) = ((15 : Nat) : Int) := ⟨by decide +kernel, rfl, rfl⟩
theorem dX9_fold_12 : decode cX9_fold 12 = .ok (.bipush (-2), 2) ∧ 12 + 2 = 14 := ⟨by decide +kernel, rfl⟩
theorem dX9_fold_14 : decode cX9_fold 14 = .ok (.ireturn, 1) ∧ 14 + 1 = 15 := ⟨by decide +kernel, rfl⟩
theorem dX9_fold_15 : decode cX9_fold 15 = .ok (.aload_n 0, 1) ∧ 15 + 1 = 16 := ⟨by decide +kernel, rfl⟩
theorem dX9_fold_16 : decode cX9_fold 16 = .ok (.iload_n 3, 1) ∧ 16 + 1 = 17 := ⟨by decide +kernel, rfl⟩
theorem dX9_fold_17 : decode cX9_fold 17 = .ok (.invokevirtual 151, 3) ∧ 17 + 3 = 20 := ⟨by decide +kernel, rfl⟩
theorem dX9_fold_20 : decode cX9_fold 20 = .ok (.ifCond .ne 6, 3) ∧ 20 + 3 = 23 ∧ ((20 : Nat) : Int) + (6) = ((26 : Nat) : Int) := ⟨by decide +kernel, rfl, rfl⟩
theorem dX9_fold_23 : decode cX9_fold 23 = .ok (.bipush (-5), 2) ∧ 23 + 2 = 25 := ⟨by decide +kernel, rfl⟩
theorem dX9_fold_25 : decode cX9_fold 25 = .ok (.ireturn, 1) ∧ 25 + 1 = 26 := ⟨by decide +kernel, rfl⟩
theorem dX9_fold_26 : decode cX9_fold 26 = .ok (.iload_n 2, 1) ∧ 26 + 1 = 27 := ⟨by decide +kernel, rfl⟩
theorem dX9_fold_27 : decode cX9_fold 27 = .ok (.ifCond .eq 7, 3) ∧ 27 + 3 = 30 ∧ ((27 : Nat) : Int) + (7) = ((34 : Nat) : Int) := ⟨by decide +kernel, rfl, rfl⟩
theorem dX9_fold_30 : decode cX9_fold 30 = .ok (.iconst 1, 1) ∧ 30 + 1 = 31 := ⟨by decide +kernel, rfl⟩
theorem dX9_fold_31 : decode cX9_fold 31 = .ok (.goto 4, 3) ∧ 31 + 3 = 34 ∧ ((31 : Nat) : Int) + (4) = ((35 : Nat) : Int) := ⟨by decide +kernel, rfl, rfl⟩
theorem dX9_fold_34 : decode cX9_fold 34 = .ok (.iconst 0, 1) ∧ 34 + 1 = 35 := ⟨by decide +kernel, rfl⟩
theorem dX9_fold_35 : decode cX9_fold 35 = .ok (.istore 4, 2) ∧ 35 + 2 = 37 := ⟨by decide +kernel, rfl⟩
theorem dX9_fold_37 : decode cX9_fold 37 = .ok (.aload_n 0, 1) ∧ 37 + 1 = 38 := ⟨by decide +kernel, rfl⟩
theorem dX9_fold_38 : decode cX9_fold 38 = .ok (.iload_n 3, 1) ∧ 38 + 1 = 39 := ⟨by decide +kernel, rfl⟩
theorem dX9_fold_39 : decode cX9_fold 39 = .ok (.iconst 2, 1) ∧ 39 + 1 = 40 := ⟨by decide +kernel, rfl⟩
theorem dX9_fold_40 : decode cX9_fold 40 = .ok (.invokevirtual 77, 3) ∧ 40 + 3 = 43 := ⟨by decide +kernel, rfl⟩
theorem dX9_fold_43 : decode cX9_fold 43 = .ok (.iload 4, 2) ∧ 43 + 2 = 45 := ⟨by decide +kernel, rfl⟩
theorem dX9_fold_45 : decode cX9_fold 45 = .ok (.if_icmp .ne 6, 3) ∧ 45 + 3 = 48 ∧ ((45 : Nat) : Int) + (6) = ((51 : Nat) : Int) := ⟨by decide +kernel, rfl, rfl⟩
theorem dX9_fold_48 : decode cX9_fold 48 = .ok (.bipush (-6), 2) ∧ 48 + 2 = 50 := ⟨by decide +kernel, rfl⟩
theorem dX9_fold_50 : decode cX9_fold 50 = .ok (.ireturn, 1) ∧ 50 + 1 = 51 := ⟨by decide +kernel, rfl⟩
theorem dX9_fold_51 : decode cX9_fold 51 = .ok (.aload_n 0, 1) ∧ 51 + 1 = 52 := ⟨by decide +kernel, rfl⟩
theorem dX9_fold_52 : decode cX9_fold 52 = .ok (.invokevirtual 105, 3) ∧ 52 + 3 = 55 := ⟨by decide +kernel, rfl⟩
theorem dX9_fold_55 : decode cX9_fold 55 = .ok (.aload_n 0, 1) ∧ 55 + 1 = 56 := ⟨by decide +kernel, rfl⟩
theorem dX9_fold_56 : decode cX9_fold 56 = .ok (.getfield 7, 3) ∧ 56 + 3 = 59 := ⟨by decide +kernel, rfl⟩
theorem dX9_fold_59 : decode cX9_fold 59 = .ok (.sipush 2134, 3) ∧ 59 + 3 = 62 := ⟨by decide +kernel, rfl⟩
theorem dX9_fold_62 : decode cX9_fold 62 = .ok (.iconst 3, 1) ∧ 62 + 1 = 63 := ⟨by decide +kernel, rfl⟩
theorem dX9_fold_63 : decode cX9_fold 63 = .ok (.iload_n 3, 1) ∧ 63 + 1 = 64 := ⟨by decide +kernel, rfl⟩
theorem dX9_fold_64 : decode cX9_fold 64 = .ok (.imul, 1) ∧ 64 + 1 = 65 := ⟨by decide +kernel, rfl⟩
theorem dX9_fold_65 : decode cX9_fold 65 = .ok (.iadd, 1) ∧ 65 + 1 = 66 := ⟨by decide +kernel, rfl⟩
theorem dX9_fold_66 : decode cX9_fold 66 = .ok (.iconst 2, 1) ∧ 66 + 1 = 67 := ⟨by decide +kernel, rfl⟩
theorem dX9_fold_67 : decode cX9_fold 67 = .ok (.iadd, 1) ∧ 67 + 1 = 68 := ⟨by decide +kernel, rfl⟩
theorem dX9_fold_68 : decode cX9_fold 68 = .ok (.iload 4, 2) ∧ 68 + 2 = 70 := ⟨by decide +kernel, rfl⟩
theorem dX9_fold_70 : decode cX9_fold 70 = .ok (.iastore, 1) ∧ 70 + 1 = 71 := ⟨by decide +kernel, rfl⟩
theorem dX9_fold_71 : decode cX9_fold 71 = .ok (.aload_n 0, 1) ∧ 71 + 1 = 72 := ⟨by decide +kernel, rfl⟩
theorem dX9_fold_72 : decode cX9_fold 72 = .ok (.invokevirtual 126, 3) ∧ 72 + 3 = 75 := ⟨by decide +kernel, rfl⟩
theorem dX9_fold_75 : decode cX9_fold 75 = .ok (.aload_n 0, 1) ∧ 75 + 1 = 76 := ⟨by decide +kernel, rfl⟩
theorem dX9_fold_76 : decode cX9_fold 76 = .ok (.invokevirtual 154, 3) ∧ 76 + 3 = 79 := ⟨by decide +kernel, rfl⟩
theorem dX9_fold_79 : decode cX9_fold 79 = .ok (.ireturn, 1) ∧ 79 + 1 = 80 := ⟨by decide +kernel, rfl⟩
theorem dX9_foldLevel_0 : decode cX9_foldLevel 0 = .ok (.iload_n 1, 1) ∧ 0 + 1 = 1 := ⟨by decide +kernel, rfl⟩
theorem dX9_foldLevel_1 : decode cX9_foldLevel 1 = .ok (.iconst 1, 1) ∧ 1 + 1 = 2 := ⟨by decide +kernel, rfl⟩
theorem dX9_foldLevel_2 : decode cX9_foldLevel 2 = .ok (.bipush 40, 2) ∧ 2 + 2 = 4 := ⟨by decide +kernel, rfl⟩
theorem dX9_foldLevel_4 : decode cX9_foldLevel 4 = .ok (.invokestatic 101, 3) ∧ 4 + 3 = 7 := ⟨by decide +kernel, rfl⟩
theorem dX9_foldLevel_7 : decode cX9_foldLevel 7 = .ok (.ifCond .ne 6, 3) ∧ 7 + 3 = 10 ∧ ((7 : Nat) : Int) + (6) = ((13 : Nat) : Int) := ⟨by decide +kernel, rfl, rfl⟩
theorem dX9_foldLevel_10 : decode cX9_foldLevel 10 = .ok (.bipush (-3), 2) ∧ 10 + 2 = 12 := ⟨by decide +kernel, rfl⟩
theorem dX9_foldLevel_12 : decode cX9_foldLevel 12 = .ok (.ireturn, 1) ∧ 12 + 1 = 13 := ⟨by decide +kernel, rfl⟩
theorem dX9_foldLevel_13 : decode cX9_foldLevel 13 = .ok (.aload_n 0, 1) ∧ 13 + 1 = 14 := ⟨by decide +kernel, rfl⟩
theorem dX9_foldLevel_14 : decode cX9_foldLevel 14 = .ok (.invokevirtual 105, 3) ∧ 14 + 3 = 17 := ⟨by decide +kernel, rfl⟩
theorem dX9_foldLevel_17 : decode cX9_foldLevel 17 = .ok (.iconst 0, 1) ∧ 17 + 1 = 18 := ⟨by decide +kernel, rfl⟩
theorem dX9_foldLevel_18 : decode cX9_foldLevel 18 = .ok (.istore_n 2, 1) ∧ 18 + 1 = 19 := ⟨by decide +kernel, rfl⟩
theorem dX9_foldLevel_19 : decode cX9_foldLevel 19 = .ok (.iconst 0, 1) ∧ 19 + 1 = 20 := ⟨by decide +kernel, rfl⟩
theorem dX9_foldLevel_20 : decode cX9_foldLevel 20 = .ok (.istore_n 3, 1) ∧ 20 + 1 = 21 := ⟨by decide +kernel, rfl⟩
theorem dX9_foldLevel_21 : decode cX9_foldLevel 21 = .ok (.iload_n 3, 1) ∧ 21 + 1 = 22 := ⟨by decide +kernel, rfl⟩
theorem dX9_foldLevel_22 : decode cX9_foldLevel 22 = .ok (.aload_n 0, 1) ∧ 22 + 1 = 23 := ⟨by decide +kernel, rfl⟩
theorem dX9_foldLevel_23 : decode cX9_foldLevel 23 = .ok (.getfield 7, 3) ∧ 23 + 3 = 26 := ⟨by decide +kernel, rfl⟩
theorem dX9_foldLevel_26 : decode cX9_foldLevel 26 = .ok (.iconst 1, 1) ∧ 26 + 1 = 27 := ⟨by decide +kernel, rfl⟩
theorem dX9_foldLevel_27 : decode cX9_foldLevel 27 = .ok (.iaload, 1) ∧ 27 + 1 = 28 := ⟨by decide +kernel, rfl⟩
theorem dX9_foldLevel_28 : decode cX9_foldLevel 28 = .ok (.if_icmp .ge 90, 3) ∧ 28 + 3 = 31 ∧ ((28 : Nat) : Int) + (90) = ((118 : Nat) : Int) := ⟨by decide +kernel, rfl, rfl⟩
theorem dX9_foldLevel_31 : decode cX9_foldLevel 31 = .ok (.aload_n 0, 1) ∧ 31 + 1 = 32 := ⟨by decide +kernel, rfl⟩
theorem dX9_foldLevel_32 : decode cX9_foldLevel 32 = .ok (.iload_n 3, 1) ∧ 32 + 1 = 33 := ⟨by decide +kernel, rfl⟩
theorem dX9_foldLevel_33 : decode cX9_foldLevel 33 = .ok (.iconst 1, 1) ∧ 33 + 1 = 34 := ⟨by decide +kernel, rfl⟩
theorem dX9_foldLevel_34 : decode cX9_foldLevel 34 = .ok (.invokevirtual 77, 3) ∧ 34 + 3 = 37 := ⟨by decide +kernel, rfl⟩
theorem dX9_foldLevel_37 : decode cX9_foldLevel 37 = .ok (.iload_n 1, 1) ∧ 37 + 1 = 38 := ⟨by decide +kernel, rfl⟩
theorem dX9_foldLevel_38 : decode cX9_foldLevel 38 = .ok (.if_icmp .ge 7, 3) ∧ 38 + 3 = 41 ∧ ((38 : Nat) : Int) + (7) = ((45 : Nat) : Int) := ⟨by decide +kernel, rfl, rfl⟩
theorem dX9_foldLevel_41 : decode cX9_foldLevel 41 = .ok (.iconst 0, 1) ∧ 41 + 1 = 42 := ⟨by decide +kernel, rfl⟩
theorem dX9_foldLevel_42 : decode cX9_foldLevel 42 = .ok (.goto 31, 3) ∧ 42 + 3 = 45 ∧ ((42 : Nat) : Int) + (31) = ((73 : Nat) : Int) := ⟨by decide +kernel, rfl, rfl⟩
theorem dX9_foldLevel_45 : decode cX9_foldLevel 45 = .ok (.aload_n 0, 1) ∧ 45 + 1 = 46 := ⟨by decide +kernel, rfl⟩
theorem dX9_foldLevel_46 : decode cX9_foldLevel 46 = .ok (.iload_n 3, 1) ∧ 46 + 1 = 47 := ⟨by decide +kernel, rfl⟩
theorem dX9_foldLevel_47 : decode cX9_foldLevel 47 = .ok (.iconst 1, 1) ∧ 47 + 1 = 48 := ⟨by decide +kernel, rfl⟩
theorem dX9_foldLevel_48 : decode cX9_foldLevel 48 = .ok (.invokevirtual 77, 3) ∧ 48 + 3 = 51 := ⟨by decide +kernel, rfl⟩
theorem dX9_foldLevel_51 : decode cX9_foldLevel 51 = .ok (.iload_n 1, 1) ∧ 51 + 1 = 52 := ⟨by decide +kernel, rfl⟩
theorem dX9_foldLevel_52 : decode cX9_foldLevel 52 = .ok (.if_icmp .ne 15, 3) ∧ 52 + 3 = 55 ∧ ((52 : Nat) : Int) + (15) = ((67 : Nat) : Int) := ⟨by decide +kernel, rfl, rfl⟩
theorem dX9_foldLevel_55 : decode cX9_foldLevel 55 = .ok (.aload_n 0, 1) ∧ 55 + 1 = 56 := ⟨by decide +kernel, rfl⟩
theorem dX9_foldLevel_56 : decode cX9_foldLevel 56 = .ok (.iload_n 3, 1) ∧ 56 + 1 = 57 := ⟨by decide +kernel, rfl⟩
theorem dX9_foldLevel_57 : decode cX9_foldLevel 57 = .ok (.invokevirtual 151, 3) ∧ 57 + 3 = 60 := ⟨by decide +kernel, rfl⟩
theorem dX9_foldLevel_60 : decode cX9_foldLevel 60 = .ok (.ifCond .eq 7, 3) ∧ 60 + 3 = 63 ∧ ((60 : Nat) : Int) + (7) = ((67 : Nat) : Int) := ⟨by decide +kernel, rfl, rfl⟩
theorem dX9_foldLevel_63 : decode cX9_foldLevel 63 = .ok (.iconst 1, 1) ∧ 63 + 1 = 64 := ⟨by decide +kernel, rfl⟩
theorem dX9_foldLevel_64 : decode cX9_foldLevel 64 = .ok (.goto 9, 3) ∧ 64 + 3 = 67 ∧ ((64 : Nat) : Int) + (9) = ((73 : Nat) : Int) := ⟨by decide +kernel, rfl, rfl⟩
theorem dX9_foldLevel_67 : decode cX9_foldLevel 67 = .ok (.aload_n 0, 1) ∧ 67 + 1 = 68 := ⟨by decide +kernel, rfl⟩
theorem dX9_foldLevel_68 : decode cX9_foldLevel 68 = .ok (.iload_n 3, 1) ∧ 68 + 1 = 69 := ⟨by decide +kernel, rfl⟩
theorem dX9_foldLevel_69 : decode cX9_foldLevel 69 = .ok (.iconst 2, 1) ∧ 69 + 1 = 70 := ⟨by decide +kernel, rfl⟩
theorem dX9_foldLevel_70 : decode cX9_foldLevel 70 = .ok (.invokevirtual 77, 3) ∧ 70 + 3 = 73 := ⟨by decide +kernel, rfl⟩
theorem dX9_foldLevel_73 : decode cX9_foldLevel 73 = .ok (.istore 4, 2) ∧ 73 + 2 = 75 := ⟨by decide +kernel, rfl⟩
theorem dX9_foldLevel_75 : decode cX9_foldLevel 75 = .ok (.iload_n 2, 1) ∧ 75 + 1 = 76 := ⟨by decide +kernel, rfl⟩
theorem dX9_foldLevel_76 : decode cX9_foldLevel 76 = .ok (.ifCond .ne 14, 3) ∧ 76 + 3 = 79 ∧ ((76 : Nat) : Int) + (14) = ((90 : Nat) : Int) := ⟨by decide +kernel, rfl, rfl⟩
theorem dX9_foldLevel_79 : decode cX9_foldLevel 79 = .ok (.iload 4, 2) ∧ 79 + 2 = 81 := ⟨by decide +kernel, rfl⟩
theorem dX9_foldLevel_81 : decode cX9_foldLevel 81 = .ok (.aload_n 0, 1) ∧ 81 + 1 = 82 := ⟨by decide +kernel, rfl⟩
theorem dX9_foldLevel_82 : decode cX9_foldLevel 82 = .ok (.iload_n 3, 1) ∧ 82 + 1 = 83 := ⟨by decide +kernel, rfl⟩
theorem dX9_foldLevel_83 : decode cX9_foldLevel 83 = .ok (.iconst 2, 1) ∧ 83 + 1 = 84 := ⟨by decide +kernel, rfl⟩
theorem dX9_foldLevel_84 : decode cX9_foldLevel 84 = .ok (.invokevirtual 77, 3) ∧ 84 + 3 = 87 := ⟨by decide +kernel, rfl⟩
theorem dX9_foldLevel_87 : decode cX9_foldLevel 87 = .ok (.if_icmp .eq 7, 3) ∧ 87 + 3 = 90 ∧ ((87 : Nat) : Int) + (7) = ((94 : Nat) : Int) := ⟨by decide +kernel, rfl, rfl⟩
theorem dX9_foldLevel_90 : decode cX9_foldLevel 90 = .ok (.iconst 1, 1) ∧ 90 + 1 = 91 := ⟨by decide +kernel, rfl⟩
theorem dX9_foldLevel_91 : decode cX9_foldLevel 91 = .ok (.goto 4, 3) ∧ 91 + 3 = 94 ∧ ((91 : Nat) : Int) + (4) = ((95 : Nat) : Int) := ⟨by decide +kernel, rfl, rfl⟩
theorem dX9_foldLevel_94 : decode cX9_foldLevel 94 = .ok (.iconst 0, 1) ∧ 94 + 1 = 95 := ⟨by decide +kernel, rfl⟩
theorem dX9_foldLevel_95 : decode cX9_foldLevel 95 = .ok (.istore_n 2, 1) ∧ 95 + 1 = 96 := ⟨by decide +kernel, rfl⟩
theorem dX9_foldLevel_96 : decode cX9_foldLevel 96 = .ok (.aload_n 0, 1) ∧ 96 + 1 = 97 := ⟨by decide +kernel, rfl⟩
theorem dX9_foldLevel_97 : decode cX9_foldLevel 97 = .ok (.getfield 7, 3) ∧ 97 + 3 = 100 := ⟨by decide +kernel, rfl⟩
theorem dX9_foldLevel_100 : decode cX9_foldLevel 100 = .ok (.sipush 2134, 3) ∧ 100 + 3 = 103 := ⟨by decide +kernel, rfl⟩
theorem dX9_foldLevel_103 : decode cX9_foldLevel 103 = .ok (.iconst 3, 1) ∧ 103 + 1 = 104 := ⟨by decide +kernel, rfl⟩
theorem dX9_foldLevel_104 : decode cX9_foldLevel 104 = .ok (.iload_n 3, 1) ∧ 104 + 1 = 105 := ⟨by decide +kernel, rfl⟩
theorem dX9_foldLevel_105 : decode cX9_foldLevel 105 = .ok (.imul, 1) ∧ 105 + 1 = 106 := ⟨by decide +kernel, rfl⟩
theorem dX9_foldLevel_106 : decode cX9_foldLevel 106 = .ok (.iadd, 1) ∧ 106 + 1 = 107 := ⟨by decide +kernel, rfl⟩
theorem dX9_foldLevel_107 : decode cX9_foldLevel 107 = .ok (.iconst 2, 1) ∧ 107 + 1 = 108 := ⟨by decide +kernel, rfl⟩
theorem dX9_foldLevel_108 : decode cX9_foldLevel 108 = .ok (.iadd, 1) ∧ 108 + 1 = 109 := ⟨by decide +kernel, rfl⟩
theorem dX9_foldLevel_109 : decode cX9_foldLevel 109 = .ok (.iload 4, 2) ∧ 109 + 2 = 111 := ⟨by decide +kernel, rfl⟩
theorem dX9_foldLevel_111 : decode cX9_foldLevel 111 = .ok (.iastore, 1) ∧ 111 + 1 = 112 := ⟨by decide +kernel, rfl⟩
theorem dX9_foldLevel_112 : decode cX9_foldLevel 112 = .ok (.iinc 3 1, 3) ∧ 112 + 3 = 115 := ⟨by decide +kernel, rfl⟩
theorem dX9_foldLevel_115 : decode cX9_foldLevel 115 = .ok (.goto (-94), 3) ∧ 115 + 3 = 118 ∧ ((115 : Nat) : Int) + (-94) = ((21 : Nat) : Int) := ⟨by decide +kernel, rfl, rfl⟩
theorem dX9_foldLevel_118 : decode cX9_foldLevel 118 = .ok (.iload_n 2, 1) ∧ 118 + 1 = 119 := ⟨by decide +kernel, rfl⟩
theorem dX9_foldLevel_119 : decode cX9_foldLevel 119 = .ok (.ifCond .ne 6, 3) ∧ 119 + 3 = 122 ∧ ((119 : Nat) : Int) + (6) = ((125 : Nat) : Int) := ⟨by decide +kernel, rfl, rfl⟩
theorem dX9_foldLevel_122 : decode cX9_foldLevel 122 = .ok (.bipush (-6), 2) ∧ 122 + 2 = 124 := ⟨by decide +kernel, rfl⟩
theorem dX9_foldLevel_124 : decode cX9_foldLevel 124 = .ok (.ireturn, 1) ∧ 124 + 1 = 125 := ⟨by decide +kernel, rfl⟩
theorem dX9_foldLevel_125 : decode cX9_foldLevel 125 = .ok (.aload_n 0, 1) ∧ 125 + 1 = 126 := ⟨by decide +kernel, rfl⟩
theorem dX9_foldLevel_126 : decode cX9_foldLevel 126 = .ok (.invokevirtual 126, 3) ∧ 126 + 3 = 129 := ⟨by decide +kernel, rfl⟩
theorem dX9_foldLevel_129 : decode cX9_foldLevel 129 = .ok (.aload_n 0, 1) ∧ 129 + 1 = 130 := ⟨by decide +kernel, rfl⟩
theorem dX9_foldLevel_130 : decode cX9_foldLevel 130 = .ok (.invokevirtual 154, 3) ∧ 130 + 3 = 133 := ⟨by decide +kernel, rfl⟩
theorem dX9_foldLevel_133 : decode cX9_foldLevel 133 = .ok (.ireturn, 1) ∧ 133 + 1 = 134 := ⟨by decide +kernel, rfl⟩
theorem dX9_isNode_0 : decode cX9_isNode 0 = .ok (.iload_n 1, 1) ∧ 0 + 1 = 1 := ⟨by decide +kernel, rfl⟩
theorem dX9_isNode_1 : decode cX9_isNode 1 = .ok (.iconst 1, 1) ∧ 1 + 1 = 2 := ⟨by decide +kernel, rfl⟩
theorem dX9_isNode_2 : decode cX9_isNode 2 = .ok (.aload_n 0, 1) ∧ 2 + 1 = 3 := ⟨by decide +kernel, rfl⟩
theorem dX9_isNode_3 : decode cX9_isNode 3 = .ok (.getfield 7, 3) ∧ 3 + 3 = 6 := ⟨by decide +kernel, rfl⟩
theorem dX9_isNode_6 : decode cX9_isNode 6 = .ok (.iconst 0, 1) ∧ 6 + 1 = 7 := ⟨by decide +kernel, rfl⟩
theorem dX9_isNode_7 : decode cX9_isNode 7 = .ok (.iaload, 1) ∧ 7 + 1 = 8 := ⟨by decide +kernel, rfl⟩
theorem dX9_isNode_8 : decode cX9_isNode 8 = .ok (.invokestatic 101, 3) ∧ 8 + 3 = 11 := ⟨by decide +kernel, rfl⟩
theorem dX9_isNode_11 : decode cX9_isNode 11 = .ok (.ifCond .eq 17, 3) ∧ 11 + 3 = 14 ∧ ((11 : Nat) : Int) + (17) = ((28 : Nat) : Int) := ⟨by decide +kernel, rfl, rfl⟩
theorem dX9_isNode_14 : decode cX9_isNode 14 = .ok (.aload_n 0, 1) ∧ 14 + 1 = 15 := ⟨by decide +kernel, rfl⟩
theorem dX9_isNode_15 : decode cX9_isNode 15 = .ok (.iload_n 1, 1) ∧ 15 + 1 = 16 := ⟨by decide +kernel, rfl⟩
theorem dX9_isNode_16 : decode cX9_isNode 16 = .ok (.iconst 0, 1) ∧ 16 + 1 = 17 := ⟨by decide +kernel, rfl⟩
theorem dX9_isNode_17 : decode cX9_isNode 17 = .ok (.invokevirtual 64, 3) ∧ 17 + 3 = 20 := ⟨by decide +kernel, rfl⟩
theorem dX9_isNode_20 : decode cX9_isNode 20 = .ok (.iconst 1, 1) ∧ 20 + 1 = 21 := ⟨by decide +kernel, rfl⟩
theorem dX9_isNode_21 : decode cX9_isNode 21 = .ok (.if_icmp .ne 7, 3) ∧ 21 + 3 = 24 ∧ ((21 : Nat) : Int) + (7) = ((28 : Nat) : Int) := ⟨by decide +kernel, rfl, rfl⟩
theorem dX9_isNode_24 : decode cX9_isNode 24 = .ok (.iconst 1, 1) ∧ 24 + 1 = 25 := ⟨by decide +kernel, rfl⟩
theorem dX9_isNode_25 : decode cX9_isNode 25 = .ok (.goto 4, 3) ∧ 25 + 3 = 28 ∧ ((25 : Nat) : Int) + (4) = ((29 : Nat) : Int) := ⟨by decide +kernel, rfl, rfl⟩
theorem dX9_isNode_28 : decode cX9_isNode 28 = .ok (.iconst 0, 1) ∧ 28 + 1 = 29 := ⟨by decide +kernel, rfl⟩
theorem dX9_isNode_29 : decode cX9_isNode 29 = .ok (.ireturn, 1) ∧ 29 + 1 = 30 := ⟨by decide +kernel, rfl⟩
theorem dX9_firstPlace_0 : decode cX9_firstPlace 0 = .ok (.iconst 0, 1) ∧ 0 + 1 = 1 := ⟨by decide +kernel, rfl⟩
theorem dX9_firstPlace_1 : decode cX9_firstPlace 1 = .ok (.istore_n 2, 1) ∧ 1 + 1 = 2 := ⟨by decide +kernel, rfl⟩
theorem dX9_firstPlace_2 : decode cX9_firstPlace 2 = .ok (.aload_n 0, 1) ∧ 2 + 1 = 3 := ⟨by decide +kernel, rfl⟩
theorem dX9_firstPlace_3 : decode cX9_firstPlace 3 = .ok (.iload_n 2, 1) ∧ 3 + 1 = 4 := ⟨by decide +kernel, rfl⟩
theorem dX9_firstPlace_4 : decode cX9_firstPlace 4 = .ok (.iconst 0, 1) ∧ 4 + 1 = 5 := ⟨by decide +kernel, rfl⟩
theorem dX9_firstPlace_5 : decode cX9_firstPlace 5 = .ok (.invokevirtual 77, 3) ∧ 5 + 3 = 8 := ⟨by decide +kernel, rfl⟩
theorem dX9_firstPlace_8 : decode cX9_firstPlace 8 = .ok (.iload_n 1, 1) ∧ 8 + 1 = 9 := ⟨by decide +kernel, rfl⟩
theorem dX9_firstPlace_9 : decode cX9_firstPlace 9 = .ok (.if_icmp .eq 9, 3) ∧ 9 + 3 = 12 ∧ ((9 : Nat) : Int) + (9) = ((18 : Nat) : Int) := ⟨by decide +kernel, rfl, rfl⟩
theorem dX9_firstPlace_12 : decode cX9_firstPlace 12 = .ok (.iinc 2 1, 3) ∧ 12 + 3 = 15 := ⟨by decide +kernel, rfl⟩
theorem dX9_firstPlace_15 : decode cX9_firstPlace 15 = .ok (.goto (-13), 3) ∧ 15 + 3 = 18 ∧ ((15 : Nat) : Int) + (-13) = ((2 : Nat) : Int) := ⟨by decide +kernel, rfl, rfl⟩
theorem dX9_firstPlace_18 : decode cX9_firstPlace 18 = .ok (.iload_n 2, 1) ∧ 18 + 1 = 19 := ⟨by decide +kernel, rfl⟩
theorem dX9_firstPlace_19 : decode cX9_firstPlace 19 = .ok (.ireturn, 1) ∧ 19 + 1 = 20 := ⟨by decide +kernel, rfl⟩
theorem dX9_show_0 : decode cX9_show 0 = .ok (.aload_n 0, 1) ∧ 0 + 1 = 1 := ⟨by decide +kernel, rfl⟩
theorem dX9_show_1 : decode cX9_show 1 = .ok (.iload_n 1, 1) ∧ 1 + 1 = 2 := ⟨by decide +kernel, rfl⟩
theorem dX9_show_2 : decode cX9_show 2 = .ok (.invokevirtual 158, 3) ∧ 2 + 3 = 5 := ⟨by decide +kernel, rfl⟩
theorem dX9_show_5 : decode cX9_show 5 = .ok (.ifCond .ne 6, 3) ∧ 5 + 3 = 8 ∧ ((5 : Nat) : Int) + (6) = ((11 : Nat) : Int) := ⟨by decide +kernel, rfl, rfl⟩
theorem dX9_show_8 : decode cX9_show 8 = .ok (.bipush (-2), 2) ∧ 8 + 2 = 10 := ⟨by decide +kernel, rfl⟩
theorem dX9_show_10 : decode cX9_show 10 = .ok (.ireturn, 1) ∧ 10 + 1 = 11 := ⟨by decide +kernel, rfl⟩
theorem dX9_show_11 : decode cX9_show 11 = .ok (.aload_n 0, 1) ∧ 11 + 1 = 12 := ⟨by decide +kernel, rfl⟩
theorem dX9_show_12 : decode cX9_show 12 = .ok (.iload_n 1, 1) ∧ 12 + 1 = 13 := ⟨by decide +kernel, rfl⟩
theorem dX9_show_13 : decode cX9_show 13 = .ok (.invokevirtual 161, 3) ∧ 13 + 3 = 16 := ⟨by decide +kernel, rfl⟩
theorem dX9_show_16 : decode cX9_show 16 = .ok (.istore_n 2, 1) ∧ 16 + 1 = 17 := ⟨by decide +kernel, rfl⟩
theorem dX9_show_17 : decode cX9_show 17 = .ok (.aload_n 0, 1) ∧ 17 + 1 = 18 := ⟨by decide +kernel, rfl⟩
theorem dX9_show_18 : decode cX9_show 18 = .ok (.iload_n 2, 1) ∧ 18 + 1 = 19 := ⟨by decide +kernel, rfl⟩
theorem dX9_show_19 : decode cX9_show 19 = .ok (.invokevirtual 80, 3) ∧ 19 + 3 = 22 := ⟨by decide +kernel, rfl⟩
theorem dX9_show_22 : decode cX9_show 22 = .ok (.ifCond .eq 6, 3) ∧ 22 + 3 = 25 ∧ ((22 : Nat) : Int) + (6) = ((28 : Nat) : Int) := ⟨by decide +kernel, rfl, rfl⟩
theorem dX9_show_25 : decode cX9_show 25 = .ok (.bipush (-6), 2) ∧ 25 + 2 = 27 := ⟨by decide +kernel, rfl⟩
theorem dX9_show_27 : decode cX9_show 27 = .ok (.ireturn, 1) ∧ 27 + 1 = 28 := ⟨by decide +kernel, rfl⟩
theorem dX9_show_28 : decode cX9_show 28 = .ok (.aload_n 0, 1) ∧ 28 + 1 = 29 := ⟨by decide +kernel, rfl⟩
theorem dX9_show_29 : decode cX9_show 29 = .ok (.invokevirtual 105, 3) ∧ 29 + 3 = 32 := ⟨by decide +kernel, rfl⟩
theorem dX9_show_32 : decode cX9_show 32 = .ok (.aload_n 0, 1) ∧ 32 + 1 = 33 := ⟨by decide +kernel, rfl⟩
theorem dX9_show_33 : decode cX9_show 33 = .ok (.iload_n 2, 1) ∧ 33 + 1 = 34 := ⟨by decide +kernel, rfl⟩
theorem dX9_show_34 : decode cX9_show 34 = .ok (.invokevirtual 84, 3) ∧ 34 + 3 = 37 := ⟨by decide +kernel, rfl⟩
theorem dX9_show_37 : decode cX9_show 37 = .ok (.istore_n 3, 1) ∧ 37 + 1 = 38 := ⟨by decide +kernel, rfl⟩
theorem dX9_show_38 : decode cX9_show 38 = .ok (.iload_n 3, 1) ∧ 38 + 1 = 39 := ⟨by decide +kernel, rfl⟩
theorem dX9_show_39 : decode cX9_show 39 = .ok (.ifCond .lt 27, 3) ∧ 39 + 3 = 42 ∧ ((39 : Nat) : Int) + (27) = ((66 : Nat) : Int) := ⟨by decide +kernel, rfl, rfl⟩
theorem dX9_show_42 : decode cX9_show 42 = .ok (.aload_n 0, 1) ∧ 42 + 1 = 43 := ⟨by decide +kernel, rfl⟩
theorem dX9_show_43 : decode cX9_show 43 = .ok (.getfield 7, 3) ∧ 43 + 3 = 46 := ⟨by decide +kernel, rfl⟩
theorem dX9_show_46 : decode cX9_show 46 = .ok (.sipush 2134, 3) ∧ 46 + 3 = 49 := ⟨by decide +kernel, rfl⟩
theorem dX9_show_49 : decode cX9_show 49 = .ok (.iconst 3, 1) ∧ 49 + 1 = 50 := ⟨by decide +kernel, rfl⟩
theorem dX9_show_50 : decode cX9_show 50 = .ok (.iload_n 3, 1) ∧ 50 + 1 = 51 := ⟨by decide +kernel, rfl⟩
theorem dX9_show_51 : decode cX9_show 51 = .ok (.imul, 1) ∧ 51 + 1 = 52 := ⟨by decide +kernel, rfl⟩
theorem dX9_show_52 : decode cX9_show 52 = .ok (.iadd, 1) ∧ 52 + 1 = 53 := ⟨by decide +kernel, rfl⟩
theorem dX9_show_53 : decode cX9_show 53 = .ok (.iconst 2, 1) ∧ 53 + 1 = 54 := ⟨by decide +kernel, rfl⟩
theorem dX9_show_54 : decode cX9_show 54 = .ok (.iadd, 1) ∧ 54 + 1 = 55 := ⟨by decide +kernel, rfl⟩
theorem dX9_show_55 : decode cX9_show 55 = .ok (.iconst 0, 1) ∧ 55 + 1 = 56 := ⟨by decide +kernel, rfl⟩
theorem dX9_show_56 : decode cX9_show 56 = .ok (.iastore, 1) ∧ 56 + 1 = 57 := ⟨by decide +kernel, rfl⟩
theorem dX9_show_57 : decode cX9_show 57 = .ok (.aload_n 0, 1) ∧ 57 + 1 = 58 := ⟨by decide +kernel, rfl⟩
theorem dX9_show_58 : decode cX9_show 58 = .ok (.iload_n 3, 1) ∧ 58 + 1 = 59 := ⟨by decide +kernel, rfl⟩
theorem dX9_show_59 : decode cX9_show 59 = .ok (.invokevirtual 84, 3) ∧ 59 + 3 = 62 := ⟨by decide +kernel, rfl⟩
theorem dX9_show_62 : decode cX9_show 62 = .ok (.istore_n 3, 1) ∧ 62 + 1 = 63 := ⟨by decide +kernel, rfl⟩
theorem dX9_show_63 : decode cX9_show 63 = .ok (.goto (-25), 3) ∧ 63 + 3 = 66 ∧ ((63 : Nat) : Int) + (-25) = ((38 : Nat) : Int) := ⟨by decide +kernel, rfl, rfl⟩
theorem dX9_show_66 : decode cX9_show 66 = .ok (.aload_n 0, 1) ∧ 66 + 1 = 67 := ⟨by decide +kernel, rfl⟩
theorem dX9_show_67 : decode cX9_show 67 = .ok (.invokevirtual 126, 3) ∧ 67 + 3 = 70 := ⟨by decide +kernel, rfl⟩
theorem dX9_show_70 : decode cX9_show 70 = .ok (.aload_n 0, 1) ∧ 70 + 1 = 71 := ⟨by decide +kernel, rfl⟩
theorem dX9_show_71 : decode cX9_show 71 = .ok (.iload_n 2, 1) ∧ 71 + 1 = 72 := ⟨by decide +kernel, rfl⟩
theorem dX9_show_72 : decode cX9_show 72 = .ok (.invokevirtual 164, 3) ∧ 72 + 3 = 75 := ⟨by decide +kernel, rfl⟩
theorem dX9_show_75 : decode cX9_show 75 = .ok (.ireturn, 1) ∧ 75 + 1 = 76 := ⟨by decide +kernel, rfl⟩
theorem dX9_type_0 : decode cX9_type 0 = .ok (.aload_n 0, 1) ∧ 0 + 1 = 1 := ⟨by decide +kernel, rfl⟩
theorem dX9_type_1 : decode cX9_type 1 = .ok (.getfield 95, 3) ∧ 1 + 3 = 4 := ⟨by decide +kernel, rfl⟩
theorem dX9_type_4 : decode cX9_type 4 = .ok (.bipush 60, 2) ∧ 4 + 2 = 6 := ⟨by decide +kernel, rfl⟩
theorem dX9_type_6 : decode cX9_type 6 = .ok (.if_icmp .ne 6, 3) ∧ 6 + 3 = 9 ∧ ((6 : Nat) : Int) + (6) = ((12 : Nat) : Int) := ⟨by decide +kernel, rfl, rfl⟩
theorem dX9_type_9 : decode cX9_type 9 = .ok (.bipush (-4), 2) ∧ 9 + 2 = 11 := ⟨by decide +kernel, rfl⟩
theorem dX9_type_11 : decode cX9_type 11 = .ok (.ireturn, 1) ∧ 11 + 1 = 12 := ⟨by decide +kernel, rfl⟩
theorem dX9_type_12 : decode cX9_type 12 = .ok (.aload_n 0, 1) ∧ 12 + 1 = 13 := ⟨by decide +kernel, rfl⟩
theorem dX9_type_13 : decode cX9_type 13 = .ok (.getfield 41, 3) ∧ 13 + 3 = 16 := ⟨by decide +kernel, rfl⟩
theorem dX9_type_16 : decode cX9_type 16 = .ok (.aload_n 0, 1) ∧ 16 + 1 = 17 := ⟨by decide +kernel, rfl⟩
theorem dX9_type_17 : decode cX9_type 17 = .ok (.getfield 95, 3) ∧ 17 + 3 = 20 := ⟨by decide +kernel, rfl⟩
theorem dX9_type_20 : decode cX9_type 20 = .ok (.iload_n 1, 1) ∧ 20 + 1 = 21 := ⟨by decide +kernel, rfl⟩
theorem dX9_type_21 : decode cX9_type 21 = .ok (.castore, 1) ∧ 21 + 1 = 22 := ⟨by decide +kernel, rfl⟩
theorem dX9_type_22 : decode cX9_type 22 = .ok (.aload_n 0, 1) ∧ 22 + 1 = 23 := ⟨by decide +kernel, rfl⟩
theorem dX9_type_23 : decode cX9_type 23 = .ok (.dup, 1) ∧ 23 + 1 = 24 := ⟨by decide +kernel, rfl⟩
theorem dX9_type_24 : decode cX9_type 24 = .ok (.getfield 95, 3) ∧ 24 + 3 = 27 := ⟨by decide +kernel, rfl⟩
theorem dX9_type_27 : decode cX9_type 27 = .ok (.iconst 1, 1) ∧ 27 + 1 = 28 := ⟨by decide +kernel, rfl⟩
theorem dX9_type_28 : decode cX9_type 28 = .ok (.iadd, 1) ∧ 28 + 1 = 29 := ⟨by decide +kernel, rfl⟩
theorem dX9_type_29 : decode cX9_type 29 = .ok (.putfield 95, 3) ∧ 29 + 3 = 32 := ⟨by decide +kernel, rfl⟩
theorem dX9_type_32 : decode cX9_type 32 = .ok (.aload_n 0, 1) ∧ 32 + 1 = 33 := ⟨by decide +kernel, rfl⟩
theorem dX9_type_33 : decode cX9_type 33 = .ok (.getfield 95, 3) ∧ 33 + 3 = 36 := ⟨by decide +kernel, rfl⟩
theorem dX9_type_36 : decode cX9_type 36 = .ok (.ireturn, 1) ∧ 36 + 1 = 37 := ⟨by decide +kernel, rfl⟩
theorem dX9_clearText_0 : decode cX9_clearText 0 = .ok (.aload_n 0, 1) ∧ 0 + 1 = 1 := ⟨by decide +kernel, rfl⟩
theorem dX9_clearText_1 : decode cX9_clearText 1 = .ok (.getfield 95, 3) ∧ 1 + 3 = 4 := ⟨by decide +kernel, rfl⟩
theorem dX9_clearText_4 : decode cX9_clearText 4 = .ok (.istore_n 1, 1) ∧ 4 + 1 = 5 := ⟨by decide +kernel, rfl⟩
theorem dX9_clearText_5 : decode cX9_clearText 5 = .ok (.aload_n 0, 1) ∧ 5 + 1 = 6 := ⟨by decide +kernel, rfl⟩
theorem dX9_clearText_6 : decode cX9_clearText 6 = .ok (.iconst 0, 1) ∧ 6 + 1 = 7 := ⟨by decide +kernel, rfl⟩
theorem dX9_clearText_7 : decode cX9_clearText 7 = .ok (.putfield 95, 3) ∧ 7 + 3 = 10 := ⟨by decide +kernel, rfl⟩
theorem dX9_clearText_10 : decode cX9_clearText 10 = .ok (.iload_n 1, 1) ∧ 10 + 1 = 11 := ⟨by decide +kernel, rfl⟩
theorem dX9_clearText_11 : decode cX9_clearText 11 = .ok (.ireturn, 1) ∧ 11 + 1 = 12 := ⟨by decide +kernel, rfl⟩
theorem dX9_stands_0 : decode cX9_stands 0 = .ok (.iconst 0, 1) ∧ 0 + 1 = 1 := ⟨by decide +kernel, rfl⟩
theorem dX9_stands_1 : decode cX9_stands 1 = .ok (.istore_n 3, 1) ∧ 1 + 1 = 2 := ⟨by decide +kernel, rfl⟩
theorem dX9_stands_2 : decode cX9_stands 2 = .ok (.iload_n 3, 1) ∧ 2 + 1 = 3 := ⟨by decide +kernel, rfl⟩
theorem dX9_stands_3 : decode cX9_stands 3 = .ok (.aload_n 0, 1) ∧ 3 + 1 = 4 := ⟨by decide +kernel, rfl⟩
theorem dX9_stands_4 : decode cX9_stands 4 = .ok (.getfield 51, 3) ∧ 4 + 3 = 7 := ⟨by decide +kernel, rfl⟩
theorem dX9_stands_7 : decode cX9_stands 7 = .ok (.iload_n 1, 1) ∧ 7 + 1 = 8 := ⟨by decide +kernel, rfl⟩
theorem dX9_stands_8 : decode cX9_stands 8 = .ok (.iaload, 1) ∧ 8 + 1 = 9 := ⟨by decide +kernel, rfl⟩
theorem dX9_stands_9 : decode cX9_stands 9 = .ok (.if_icmp .ge 26, 3) ∧ 9 + 3 = 12 ∧ ((9 : Nat) : Int) + (26) = ((35 : Nat) : Int) := ⟨by decide +kernel, rfl, rfl⟩
theorem dX9_stands_12 : decode cX9_stands 12 = .ok (.aload_n 0, 1) ∧ 12 + 1 = 13 := ⟨by decide +kernel, rfl⟩
theorem dX9_stands_13 : decode cX9_stands 13 = .ok (.getfield 54, 3) ∧ 13 + 3 = 16 := ⟨by decide +kernel, rfl⟩
theorem dX9_stands_16 : decode cX9_stands 16 = .ok (.bipush 28, 2) ∧ 16 + 2 = 18 := ⟨by decide +kernel, rfl⟩
theorem dX9_stands_18 : decode cX9_stands 18 = .ok (.iload_n 1, 1) ∧ 18 + 1 = 19 := ⟨by decide +kernel, rfl⟩
theorem dX9_stands_19 : decode cX9_stands 19 = .ok (.imul, 1) ∧ 19 + 1 = 20 := ⟨by decide +kernel, rfl⟩
theorem dX9_stands_20 : decode cX9_stands 20 = .ok (.iload_n 3, 1) ∧ 20 + 1 = 21 := ⟨by decide +kernel, rfl⟩
theorem dX9_stands_21 : decode cX9_stands 21 = .ok (.iadd, 1) ∧ 21 + 1 = 22 := ⟨by decide +kernel, rfl⟩
theorem dX9_stands_22 : decode cX9_stands 22 = .ok (.iaload, 1) ∧ 22 + 1 = 23 := ⟨by decide +kernel, rfl⟩
theorem dX9_stands_23 : decode cX9_stands 23 = .ok (.iload_n 2, 1) ∧ 23 + 1 = 24 := ⟨by decide +kernel, rfl⟩
theorem dX9_stands_24 : decode cX9_stands 24 = .ok (.if_icmp .ne 5, 3) ∧ 24 + 3 = 27 ∧ ((24 : Nat) : Int) + (5) = ((29 : Nat) : Int) := ⟨by decide +kernel, rfl, rfl⟩
theorem dX9_stands_27 : decode cX9_stands 27 = .ok (.iconst 1, 1) ∧ 27 + 1 = 28 := ⟨by decide +kernel, rfl⟩
theorem dX9_stands_28 : decode cX9_stands 28 = .ok (.ireturn, 1) ∧ 28 + 1 = 29 := ⟨by decide +kernel, rfl⟩
theorem dX9_stands_29 : decode cX9_stands 29 = .ok (.iinc 3 1, 3) ∧ 29 + 3 = 32 := ⟨by decide +kernel, rfl⟩
theorem dX9_stands_32 : decode cX9_stands 32 = .ok (.goto (-30), 3) ∧ 32 + 3 = 35 ∧ ((32 : Nat) : Int) + (-30) = ((2 : Nat) : Int) := ⟨by decide +kernel, rfl, rfl⟩
theorem dX9_stands_35 : decode cX9_stands 35 = .ok (.iconst 0, 1) ∧ 35 + 1 = 36 := ⟨by decide +kernel, rfl⟩
theorem dX9_stands_36 : decode cX9_stands 36 = .ok (.ireturn, 1) ∧ 36 + 1 = 37 := ⟨by decide +kernel, rfl⟩
theorem dX9_isOpen_0 : decode cX9_isOpen 0 = .ok (.iconst 1, 1) ∧ 0 + 1 = 1 := ⟨by decide +kernel, rfl⟩
theorem dX9_isOpen_1 : decode cX9_isOpen 1 = .ok (.istore_n 3, 1) ∧ 1 + 1 = 2 := ⟨by decide +kernel, rfl⟩
theorem dX9_isOpen_2 : decode cX9_isOpen 2 = .ok (.iload_n 3, 1) ∧ 2 + 1 = 3 := ⟨by decide +kernel, rfl⟩
theorem dX9_isOpen_3 : decode cX9_isOpen 3 = .ok (.iload_n 2, 1) ∧ 3 + 1 = 4 := ⟨by decide +kernel, rfl⟩
theorem dX9_isOpen_4 : decode cX9_isOpen 4 = .ok (.if_icmp .gt 21, 3) ∧ 4 + 3 = 7 ∧ ((4 : Nat) : Int) + (21) = ((25 : Nat) : Int) := ⟨by decide +kernel, rfl, rfl⟩
theorem dX9_isOpen_7 : decode cX9_isOpen 7 = .ok (.aload_n 0, 1) ∧ 7 + 1 = 8 := ⟨by decide +kernel, rfl⟩
theorem dX9_isOpen_8 : decode cX9_isOpen 8 = .ok (.getfield 57, 3) ∧ 8 + 3 = 11 := ⟨by decide +kernel, rfl⟩
theorem dX9_isOpen_11 : decode cX9_isOpen 11 = .ok (.iload_n 3, 1) ∧ 11 + 1 = 12 := ⟨by decide +kernel, rfl⟩
theorem dX9_isOpen_12 : decode cX9_isOpen 12 = .ok (.iaload, 1) ∧ 12 + 1 = 13 := ⟨by decide +kernel, rfl⟩
theorem dX9_isOpen_13 : decode cX9_isOpen 13 = .ok (.iload_n 1, 1) ∧ 13 + 1 = 14 := ⟨by decide +kernel, rfl⟩
theorem dX9_isOpen_14 : decode cX9_isOpen 14 = .ok (.if_icmp .ne 5, 3) ∧ 14 + 3 = 17 ∧ ((14 : Nat) : Int) + (5) = ((19 : Nat) : Int) := ⟨by decide +kernel, rfl, rfl⟩
theorem dX9_isOpen_17 : decode cX9_isOpen 17 = .ok (.iconst 1, 1) ∧ 17 + 1 = 18 := ⟨by decide +kernel, rfl⟩
theorem dX9_isOpen_18 : decode cX9_isOpen 18 = .ok (.ireturn, 1) ∧ 18 + 1 = 19 := ⟨by decide +kernel, rfl⟩
theorem dX9_isOpen_19 : decode cX9_isOpen 19 = .ok (.iinc 3 1, 3) ∧ 19 + 3 = 22 := ⟨by decide +kernel, rfl⟩
theorem dX9_isOpen_22 : decode cX9_isOpen 22 = .ok (.goto (-20), 3) ∧ 22 + 3 = 25 ∧ ((22 : Nat) : Int) + (-20) = ((2 : Nat) : Int) := ⟨by decide +kernel, rfl, rfl⟩
theorem dX9_isOpen_25 : decode cX9_isOpen 25 = .ok (.iconst 0, 1) ∧ 25 + 1 = 26 := ⟨by decide +kernel, rfl⟩
theorem dX9_isOpen_26 : decode cX9_isOpen 26 = .ok (.ireturn, 1) ∧ 26 + 1 = 27 := ⟨by decide +kernel, rfl⟩
theorem dX9_readsFault_0 : decode cX9_readsFault 0 = .ok (.iconst 0, 1) ∧ 0 + 1 = 1 := ⟨by decide +kernel, rfl⟩
theorem dX9_readsFault_1 : decode cX9_readsFault 1 = .ok (.istore_n 1, 1) ∧ 1 + 1 = 2 := ⟨by decide +kernel, rfl⟩
theorem dX9_readsFault_2 : decode cX9_readsFault 2 = .ok (.iload_n 1, 1) ∧ 2 + 1 = 3 := ⟨by decide +kernel, rfl⟩
theorem dX9_readsFault_3 : decode cX9_readsFault 3 = .ok (.bipush 26, 2) ∧ 3 + 2 = 5 := ⟨by decide +kernel, rfl⟩
theorem dX9_readsFault_5 : decode cX9_readsFault 5 = .ok (.if_icmp .ge 16, 3) ∧ 5 + 3 = 8 ∧ ((5 : Nat) : Int) + (16) = ((21 : Nat) : Int) := ⟨by decide +kernel, rfl, rfl⟩
theorem dX9_readsFault_8 : decode cX9_readsFault 8 = .ok (.aload_n 0, 1) ∧ 8 + 1 = 9 := ⟨by decide +kernel, rfl⟩
theorem dX9_readsFault_9 : decode cX9_readsFault 9 = .ok (.getfield 45, 3) ∧ 9 + 3 = 12 := ⟨by decide +kernel, rfl⟩
theorem dX9_readsFault_12 : decode cX9_readsFault 12 = .ok (.iload_n 1, 1) ∧ 12 + 1 = 13 := ⟨by decide +kernel, rfl⟩
theorem dX9_readsFault_13 : decode cX9_readsFault 13 = .ok (.iconst 0, 1) ∧ 13 + 1 = 14 := ⟨by decide +kernel, rfl⟩
theorem dX9_readsFault_14 : decode cX9_readsFault 14 = .ok (.iastore, 1) ∧ 14 + 1 = 15 := ⟨by decide +kernel, rfl⟩
theorem dX9_readsFault_15 : decode cX9_readsFault 15 = .ok (.iinc 1 1, 3) ∧ 15 + 3 = 18 := ⟨by decide +kernel, rfl⟩
theorem dX9_readsFault_18 : decode cX9_readsFault 18 = .ok (.goto (-16), 3) ∧ 18 + 3 = 21 ∧ ((18 : Nat) : Int) + (-16) = ((2 : Nat) : Int) := ⟨by decide +kernel, rfl, rfl⟩
theorem dX9_readsFault_21 : decode cX9_readsFault 21 = .ok (.aload_n 0, 1) ∧ 21 + 1 = 22 := ⟨by decide +kernel, rfl⟩
theorem dX9_readsFault_22 : decode cX9_readsFault 22 = .ok (.iconst 0, 1) ∧ 22 + 1 = 23 := ⟨by decide +kernel, rfl⟩
theorem dX9_readsFault_23 : decode cX9_readsFault 23 = .ok (.putfield 167, 3) ∧ 23 + 3 = 26 := ⟨by decide +kernel, rfl⟩
theorem dX9_readsFault_26 : decode cX9_readsFault 26 = .ok (.aload_n 0, 1) ∧ 26 + 1 = 27 := ⟨by decide +kernel, rfl⟩
theorem dX9_readsFault_27 : decode cX9_readsFault 27 = .ok (.getfield 51, 3) ∧ 27 + 3 = 30 := ⟨by decide +kernel, rfl⟩
theorem dX9_readsFault_30 : decode cX9_readsFault 30 = .ok (.iconst 0, 1) ∧ 30 + 1 = 31 := ⟨by decide +kernel, rfl⟩
theorem dX9_readsFault_31 : decode cX9_readsFault 31 = .ok (.iconst 0, 1) ∧ 31 + 1 = 32 := ⟨by decide +kernel, rfl⟩
theorem dX9_readsFault_32 : decode cX9_readsFault 32 = .ok (.iastore, 1) ∧ 32 + 1 = 33 := ⟨by decide +kernel, rfl⟩
theorem dX9_readsFault_33 : decode cX9_readsFault 33 = .ok (.iconst 0, 1) ∧ 33 + 1 = 34 := ⟨by decide +kernel, rfl⟩
theorem dX9_readsFault_34 : decode cX9_readsFault 34 = .ok (.istore_n 1, 1) ∧ 34 + 1 = 35 := ⟨by decide +kernel, rfl⟩
theorem dX9_readsFault_35 : decode cX9_readsFault 35 = .ok (.aload_n 0, 1) ∧ 35 + 1 = 36 := ⟨by decide +kernel, rfl⟩
theorem dX9_readsFault_36 : decode cX9_readsFault 36 = .ok (.getfield 57, 3) ∧ 36 + 3 = 39 := ⟨by decide +kernel, rfl⟩
theorem dX9_readsFault_39 : decode cX9_readsFault 39 = .ok (.iconst 0, 1) ∧ 39 + 1 = 40 := ⟨by decide +kernel, rfl⟩
theorem dX9_readsFault_40 : decode cX9_readsFault 40 = .ok (.iconst 0, 1) ∧ 40 + 1 = 41 := ⟨by decide +kernel, rfl⟩
theorem dX9_readsFault_41 : decode cX9_readsFault 41 = .ok (.iastore, 1) ∧ 41 + 1 = 42 := ⟨by decide +kernel, rfl⟩
theorem dX9_readsFault_42 : decode cX9_readsFault 42 = .ok (.iconst 0, 1) ∧ 42 + 1 = 43 := ⟨by decide +kernel, rfl⟩
theorem dX9_readsFault_43 : decode cX9_readsFault 43 = .ok (.istore_n 2, 1) ∧ 43 + 1 = 44 := ⟨by decide +kernel, rfl⟩
theorem dX9_readsFault_44 : decode cX9_readsFault 44 = .ok (.iconst 0, 1) ∧ 44 + 1 = 45 := ⟨by decide +kernel, rfl⟩
theorem dX9_readsFault_45 : decode cX9_readsFault 45 = .ok (.istore_n 3, 1) ∧ 45 + 1 = 46 := ⟨by decide +kernel, rfl⟩
theorem dX9_readsFault_46 : decode cX9_readsFault 46 = .ok (.iload_n 3, 1) ∧ 46 + 1 = 47 := ⟨by decide +kernel, rfl⟩
theorem dX9_readsFault_47 : decode cX9_readsFault 47 = .ok (.aload_n 0, 1) ∧ 47 + 1 = 48 := ⟨by decide +kernel, rfl⟩
theorem dX9_readsFault_48 : decode cX9_readsFault 48 = .ok (.getfield 95, 3) ∧ 48 + 3 = 51 := ⟨by decide +kernel, rfl⟩
theorem dX9_readsFault_51 : decode cX9_readsFault 51 = .ok (.if_icmp .ge 245, 3) ∧ 51 + 3 = 54 ∧ ((51 : Nat) : Int) + (245) = ((296 : Nat) : Int) := ⟨by decide +kernel, rfl, rfl⟩
theorem dX9_readsFault_54 : decode cX9_readsFault 54 = .ok (.aload_n 0, 1) ∧ 54 + 1 = 55 := ⟨by decide +kernel, rfl⟩
theorem dX9_readsFault_55 : decode cX9_readsFault 55 = .ok (.getfield 41, 3) ∧ 55 + 3 = 58 := ⟨by decide +kernel, rfl⟩
theorem dX9_readsFault_58 : decode cX9_readsFault 58 = .ok (.iload_n 3, 1) ∧ 58 + 1 = 59 := ⟨by decide +kernel, rfl⟩
theorem dX9_readsFault_59 : decode cX9_readsFault 59 = .ok (.caload, 1) ∧ 59 + 1 = 60 := ⟨by decide +kernel, rfl⟩
theorem dX9_readsFault_60 : decode cX9_readsFault 60 = .ok (.istore 4, 2) ∧ 60 + 2 = 62 := ⟨by decide +kernel, rfl⟩
theorem dX9_readsFault_62 : decode cX9_readsFault 62 = .ok (.iload_n 2, 1) ∧ 62 + 1 = 63 := ⟨by decide +kernel, rfl⟩
theorem dX9_readsFault_63 : decode cX9_readsFault 63 = .ok (.ifCond .ne 164, 3) ∧ 63 + 3 = 66 ∧ ((63 : Nat) : Int) + (164) = ((227 : Nat) : Int) := ⟨by decide +kernel, rfl, rfl⟩
theorem dX9_readsFault_66 : decode cX9_readsFault 66 = .ok (.iload 4, 2) ∧ 66 + 2 = 68 := ⟨by decide +kernel, rfl⟩
theorem dX9_readsFault_68 : decode cX9_readsFault 68 = .ok (.bipush 97, 2) ∧ 68 + 2 = 70 := ⟨by decide +kernel, rfl⟩
theorem dX9_readsFault_70 : decode cX9_readsFault 70 = .ok (.bipush 122, 2) ∧ 70 + 2 = 72 := ⟨by decide +kernel, rfl⟩
theorem dX9_readsFault_72 : decode cX9_readsFault 72 = .ok (.invokestatic 101, 3) ∧ 72 + 3 = 75 := ⟨by decide +kernel, rfl⟩
theorem dX9_readsFault_75 : decode cX9_readsFault 75 = .ok (.ifCond .ne 5, 3) ∧ 75 + 3 = 78 ∧ ((75 : Nat) : Int) + (5) = ((80 : Nat) : Int) := ⟨by decide +kernel, rfl, rfl⟩
theorem dX9_readsFault_78 : decode cX9_readsFault 78 = .ok (.iload_n 3, 1) ∧ 78 + 1 = 79 := ⟨by decide +kernel, rfl⟩
theorem dX9_readsFault_79 : decode cX9_readsFault 79 = .ok (.ireturn, 1) ∧ 79 + 1 = 80 := ⟨by decide +kernel, rfl⟩
theorem dX9_readsFault_80 : decode cX9_readsFault 80 = .ok (.aload_n 0, 1) ∧ 80 + 1 = 81 := ⟨by decide +kernel, rfl⟩
theorem dX9_readsFault_81 : decode cX9_readsFault 81 = .ok (.getfield 45, 3) ∧ 81 + 3 = 84 := ⟨by decide +kernel, rfl⟩
theorem dX9_readsFault_84 : decode cX9_readsFault 84 = .ok (.iload 4, 2) ∧ 84 + 2 = 86 := ⟨by decide +kernel, rfl⟩
theorem dX9_readsFault_86 : decode cX9_readsFault 86 = .ok (.bipush 97, 2) ∧ 86 + 2 = 88 := ⟨by decide +kernel, rfl⟩
theorem dX9_readsFault_88 : decode cX9_readsFault 88 = .ok (.isub, 1) ∧ 88 + 1 = 89 := ⟨by decide +kernel, rfl⟩
theorem dX9_readsFault_89 : decode cX9_readsFault 89 = .ok (.iaload, 1) ∧ 89 + 1 = 90 := ⟨by decide +kernel, rfl⟩
theorem dX9_readsFault_90 : decode cX9_readsFault 90 = .ok (.istore 5, 2) ∧ 90 + 2 = 92 := ⟨by decide +kernel, rfl⟩
theorem dX9_readsFault_92 : decode cX9_readsFault 92 = .ok (.iload 5, 2) ∧ 92 + 2 = 94 := ⟨by decide +kernel, rfl⟩
theorem dX9_readsFault_94 : decode cX9_readsFault 94 = .ok (.ifCond .ne 7, 3) ∧ 94 + 3 = 97 ∧ ((94 : Nat) : Int) + (7) = ((101 : Nat) : Int) := ⟨by decide +kernel, rfl, rfl⟩
theorem dX9_readsFault_97 : decode cX9_readsFault 97 = .ok (.iconst 1, 1) ∧ 97 + 1 = 98 := ⟨by decide +kernel, rfl⟩
theorem dX9_readsFault_98 : decode cX9_readsFault 98 = .ok (.goto 4, 3) ∧ 98 + 3 = 101 ∧ ((98 : Nat) : Int) + (4) = ((102 : Nat) : Int) := ⟨by decide +kernel, rfl, rfl⟩
theorem dX9_readsFault_101 : decode cX9_readsFault 101 = .ok (.iconst 2, 1) ∧ 101 + 1 = 102 := ⟨by decide +kernel, rfl⟩
theorem dX9_readsFault_102 : decode cX9_readsFault 102 = .ok (.istore_n 2, 1) ∧ 102 + 1 = 103 := ⟨by decide +kernel, rfl⟩
theorem dX9_readsFault_103 : decode cX9_readsFault 103 = .ok (.iload 5, 2) ∧ 103 + 2 = 105 := ⟨by decide +kernel, rfl⟩
theorem dX9_readsFault_105 : decode cX9_readsFault 105 = .ok (.ifCond .le 30, 3) ∧ 105 + 3 = 108 ∧ ((105 : Nat) : Int) + (30) = ((135 : Nat) : Int) := ⟨by decide +kernel, rfl, rfl⟩
theorem dX9_readsFault_108 : decode cX9_readsFault 108 = .ok (.aload_n 0, 1) ∧ 108 + 1 = 109 := ⟨by decide +kernel, rfl⟩
theorem dX9_readsFault_109 : decode cX9_readsFault 109 = .ok (.iload 5, 2) ∧ 109 + 2 = 111 := ⟨by decide +kernel, rfl⟩
theorem dX9_readsFault_111 : decode cX9_readsFault 111 = .ok (.iload_n 1, 1) ∧ 111 + 1 = 112 := ⟨by decide +kernel, rfl⟩
theorem dX9_readsFault_112 : decode cX9_readsFault 112 = .ok (.invokevirtual 170, 3) ∧ 112 + 3 = 115 := ⟨by decide +kernel, rfl⟩
theorem dX9_readsFault_115 : decode cX9_readsFault 115 = .ok (.ifCond .ne 18, 3) ∧ 115 + 3 = 118 ∧ ((115 : Nat) : Int) + (18) = ((133 : Nat) : Int) := ⟨by decide +kernel, rfl, rfl⟩
theorem dX9_readsFault_118 : decode cX9_readsFault 118 = .ok (.aload_n 0, 1) ∧ 118 + 1 = 119 := ⟨by decide +kernel, rfl⟩
theorem dX9_readsFault_119 : decode cX9_readsFault 119 = .ok (.aload_n 0, 1) ∧ 119 + 1 = 120 := ⟨by decide +kernel, rfl⟩
theorem dX9_readsFault_120 : decode cX9_readsFault 120 = .ok (.getfield 57, 3) ∧ 120 + 3 = 123 := ⟨by decide +kernel, rfl⟩
theorem dX9_readsFault_123 : decode cX9_readsFault 123 = .ok (.iload_n 1, 1) ∧ 123 + 1 = 124 := ⟨by decide +kernel, rfl⟩
theorem dX9_readsFault_124 : decode cX9_readsFault 124 = .ok (.iaload, 1) ∧ 124 + 1 = 125 := ⟨by decide +kernel, rfl⟩
theorem dX9_readsFault_125 : decode cX9_readsFault 125 = .ok (.iload 5, 2) ∧ 125 + 2 = 127 := ⟨by decide +kernel, rfl⟩
theorem dX9_readsFault_127 : decode cX9_readsFault 127 = .ok (.invokevirtual 173, 3) ∧ 127 + 3 = 130 := ⟨by decide +kernel, rfl⟩
theorem dX9_readsFault_130 : decode cX9_readsFault 130 = .ok (.ifCond .eq 5, 3) ∧ 130 + 3 = 133 ∧ ((130 : Nat) : Int) + (5) = ((135 : Nat) : Int) := ⟨by decide +kernel, rfl, rfl⟩
theorem dX9_readsFault_133 : decode cX9_readsFault 133 = .ok (.iload_n 3, 1) ∧ 133 + 1 = 134 := ⟨by decide +kernel, rfl⟩
theorem dX9_readsFault_134 : decode cX9_readsFault 134 = .ok (.ireturn, 1) ∧ 134 + 1 = 135 := ⟨by decide +kernel, rfl⟩
theorem dX9_readsFault_135 : decode cX9_readsFault 135 = .ok (.iload 5, 2) ∧ 135 + 2 = 137 := ⟨by decide +kernel, rfl⟩
theorem dX9_readsFault_137 : decode cX9_readsFault 137 = .ok (.ifCond .ne 48, 3) ∧ 137 + 3 = 140 ∧ ((137 : Nat) : Int) + (48) = ((185 : Nat) : Int) := ⟨by decide +kernel, rfl, rfl⟩
theorem dX9_readsFault_140 : decode cX9_readsFault 140 = .ok (.aload_n 0, 1) ∧ 140 + 1 = 141 := ⟨by decide +kernel, rfl⟩
theorem dX9_readsFault_141 : decode cX9_readsFault 141 = .ok (.dup, 1) ∧ 141 + 1 = 142 := ⟨by decide +kernel, rfl⟩
theorem dX9_readsFault_142 : decode cX9_readsFault 142 = .ok (.getfield 167, 3) ∧ 142 + 3 = 145 := ⟨by decide +kernel, rfl⟩
theorem dX9_readsFault_145 : decode cX9_readsFault 145 = .ok (.iconst 1, 1) ∧ 145 + 1 = 146 := ⟨by decide +kernel, rfl⟩
theorem dX9_readsFault_146 : decode cX9_readsFault 146 = .ok (.iadd, 1) ∧ 146 + 1 = 147 := ⟨by decide +kernel, rfl⟩
theorem dX9_readsFault_147 : decode cX9_readsFault 147 = .ok (.putfield 167, 3) ∧ 147 + 3 = 150 := ⟨by decide +kernel, rfl⟩
theorem dX9_readsFault_150 : decode cX9_readsFault 150 = .ok (.aload_n 0, 1) ∧ 150 + 1 = 151 := ⟨by decide +kernel, rfl⟩
theorem dX9_readsFault_151 : decode cX9_readsFault 151 = .ok (.getfield 167, 3) ∧ 151 + 3 = 154 := ⟨by decide +kernel, rfl⟩
theorem dX9_readsFault_154 : decode cX9_readsFault 154 = .ok (.istore 5, 2) ∧ 154 + 2 = 156 := ⟨by decide +kernel, rfl⟩
theorem dX9_readsFault_156 : decode cX9_readsFault 156 = .ok (.aload_n 0, 1) ∧ 156 + 1 = 157 := ⟨by decide +kernel, rfl⟩
theorem dX9_readsFault_157 : decode cX9_readsFault 157 = .ok (.getfield 45, 3) ∧ 157 + 3 = 160 := ⟨by decide +kernel, rfl⟩
theorem dX9_readsFault_160 : decode cX9_readsFault 160 = .ok (.iload 4, 2) ∧ 160 + 2 = 162 := ⟨by decide +kernel, rfl⟩
theorem dX9_readsFault_162 : decode cX9_readsFault 162 = .ok (.bipush 97, 2) ∧ 162 + 2 = 164 := ⟨by decide +kernel, rfl⟩
theorem dX9_readsFault_164 : decode cX9_readsFault 164 = .ok (.isub, 1) ∧ 164 + 1 = 165 := ⟨by decide +kernel, rfl⟩
theorem dX9_readsFault_165 : decode cX9_readsFault 165 = .ok (.iload 5, 2) ∧ 165 + 2 = 167 := ⟨by decide +kernel, rfl⟩
theorem dX9_readsFault_167 : decode cX9_readsFault 167 = .ok (.iastore, 1) ∧ 167 + 1 = 168 := ⟨by decide +kernel, rfl⟩
theorem dX9_readsFault_168 : decode cX9_readsFault 168 = .ok (.aload_n 0, 1) ∧ 168 + 1 = 169 := ⟨by decide +kernel, rfl⟩
theorem dX9_readsFault_169 : decode cX9_readsFault 169 = .ok (.getfield 48, 3) ∧ 169 + 3 = 172 := ⟨by decide +kernel, rfl⟩
theorem dX9_readsFault_172 : decode cX9_readsFault 172 = .ok (.iload 5, 2) ∧ 172 + 2 = 174 := ⟨by decide +kernel, rfl⟩
theorem dX9_readsFault_174 : decode cX9_readsFault 174 = .ok (.iload 4, 2) ∧ 174 + 2 = 176 := ⟨by decide +kernel, rfl⟩
theorem dX9_readsFault_176 : decode cX9_readsFault 176 = .ok (.iastore, 1) ∧ 176 + 1 = 177 := ⟨by decide +kernel, rfl⟩
theorem dX9_readsFault_177 : decode cX9_readsFault 177 = .ok (.aload_n 0, 1) ∧ 177 + 1 = 178 := ⟨by decide +kernel, rfl⟩
theorem dX9_readsFault_178 : decode cX9_readsFault 178 = .ok (.getfield 51, 3) ∧ 178 + 3 = 181 := ⟨by decide +kernel, rfl⟩
theorem dX9_readsFault_181 : decode cX9_readsFault 181 = .ok (.iload 5, 2) ∧ 181 + 2 = 183 := ⟨by decide +kernel, rfl⟩
theorem dX9_readsFault_183 : decode cX9_readsFault 183 = .ok (.iconst 0, 1) ∧ 183 + 1 = 184 := ⟨by decide +kernel, rfl⟩
theorem dX9_readsFault_184 : decode cX9_readsFault 184 = .ok (.iastore, 1) ∧ 184 + 1 = 185 := ⟨by decide +kernel, rfl⟩
theorem dX9_readsFault_185 : decode cX9_readsFault 185 = .ok (.aload_n 0, 1) ∧ 185 + 1 = 186 := ⟨by decide +kernel, rfl⟩
theorem dX9_readsFault_186 : decode cX9_readsFault 186 = .ok (.getfield 57, 3) ∧ 186 + 3 = 189 := ⟨by decide +kernel, rfl⟩
theorem dX9_readsFault_189 : decode cX9_readsFault 189 = .ok (.iload_n 1, 1) ∧ 189 + 1 = 190 := ⟨by decide +kernel, rfl⟩
theorem dX9_readsFault_190 : decode cX9_readsFault 190 = .ok (.iaload, 1) ∧ 190 + 1 = 191 := ⟨by decide +kernel, rfl⟩
theorem dX9_readsFault_191 : decode cX9_readsFault 191 = .ok (.istore 6, 2) ∧ 191 + 2 = 193 := ⟨by decide +kernel, rfl⟩
theorem dX9_readsFault_193 : decode cX9_readsFault 193 = .ok (.aload_n 0, 1) ∧ 193 + 1 = 194 := ⟨by decide +kernel, rfl⟩
theorem dX9_readsFault_194 : decode cX9_readsFault 194 = .ok (.getfield 54, 3) ∧ 194 + 3 = 197 := ⟨by decide +kernel, rfl⟩
theorem dX9_readsFault_197 : decode cX9_readsFault 197 = .ok (.bipush 28, 2) ∧ 197 + 2 = 199 := ⟨by decide +kernel, rfl⟩
theorem dX9_readsFault_199 : decode cX9_readsFault 199 = .ok (.iload 6, 2) ∧ 199 + 2 = 201 := ⟨by decide +kernel, rfl⟩
theorem dX9_readsFault_201 : decode cX9_readsFault 201 = .ok (.imul, 1) ∧ 201 + 1 = 202 := ⟨by decide +kernel, rfl⟩
theorem dX9_readsFault_202 : decode cX9_readsFault 202 = .ok (.aload_n 0, 1) ∧ 202 + 1 = 203 := ⟨by decide +kernel, rfl⟩
theorem dX9_readsFault_203 : decode cX9_readsFault 203 = .ok (.getfield 51, 3) ∧ 203 + 3 = 206 := ⟨by decide +kernel, rfl⟩
theorem dX9_readsFault_206 : decode cX9_readsFault 206 = .ok (.iload 6, 2) ∧ 206 + 2 = 208 := ⟨by decide +kernel, rfl⟩
theorem dX9_readsFault_208 : decode cX9_readsFault 208 = .ok (.iaload, 1) ∧ 208 + 1 = 209 := ⟨by decide +kernel, rfl⟩
theorem dX9_readsFault_209 : decode cX9_readsFault 209 = .ok (.iadd, 1) ∧ 209 + 1 = 210 := ⟨by decide +kernel, rfl⟩
theorem dX9_readsFault_210 : decode cX9_readsFault 210 = .ok (.iload 5, 2) ∧ 210 + 2 = 212 := ⟨by decide +kernel, rfl⟩
theorem dX9_readsFault_212 : decode cX9_readsFault 212 = .ok (.iastore, 1) ∧ 212 + 1 = 213 := ⟨by decide +kernel, rfl⟩
theorem dX9_readsFault_213 : decode cX9_readsFault 213 = .ok (.aload_n 0, 1) ∧ 213 + 1 = 214 := ⟨by decide +kernel, rfl⟩
theorem dX9_readsFault_214 : decode cX9_readsFault 214 = .ok (.getfield 51, 3) ∧ 214 + 3 = 217 := ⟨by decide +kernel, rfl⟩
theorem dX9_readsFault_217 : decode cX9_readsFault 217 = .ok (.iload 6, 2) ∧ 217 + 2 = 219 := ⟨by decide +kernel, rfl⟩
theorem dX9_readsFault_219 : decode cX9_readsFault 219 = .ok (.dup2, 1) ∧ 219 + 1 = 220 := ⟨by decide +kernel, rfl⟩
theorem dX9_readsFault_220 : decode cX9_readsFault 220 = .ok (.iaload, 1) ∧ 220 + 1 = 221 := ⟨by decide +kernel, rfl⟩
theorem dX9_readsFault_221 : decode cX9_readsFault 221 = .ok (.iconst 1, 1) ∧ 221 + 1 = 222 := ⟨by decide +kernel, rfl⟩
theorem dX9_readsFault_222 : decode cX9_readsFault 222 = .ok (.iadd, 1) ∧ 222 + 1 = 223 := ⟨by decide +kernel, rfl⟩
theorem dX9_readsFault_223 : decode cX9_readsFault 223 = .ok (.iastore, 1) ∧ 223 + 1 = 224 := ⟨by decide +kernel, rfl⟩
theorem dX9_readsFault_224 : decode cX9_readsFault 224 = .ok (.goto 66, 3) ∧ 224 + 3 = 227 ∧ ((224 : Nat) : Int) + (66) = ((290 : Nat) : Int) := ⟨by decide +kernel, rfl, rfl⟩
theorem dX9_readsFault_227 : decode cX9_readsFault 227 = .ok (.iload 4, 2) ∧ 227 + 2 = 229 := ⟨by decide +kernel, rfl⟩
theorem dX9_readsFault_229 : decode cX9_readsFault 229 = .ok (.bipush 44, 2) ∧ 229 + 2 = 231 := ⟨by decide +kernel, rfl⟩
theorem dX9_readsFault_231 : decode cX9_readsFault 231 = .ok (.if_icmp .ne 8, 3) ∧ 231 + 3 = 234 ∧ ((231 : Nat) : Int) + (8) = ((239 : Nat) : Int) := ⟨by decide +kernel, rfl, rfl⟩
theorem dX9_readsFault_234 : decode cX9_readsFault 234 = .ok (.iconst 0, 1) ∧ 234 + 1 = 235 := ⟨by decide +kernel, rfl⟩
theorem dX9_readsFault_235 : decode cX9_readsFault 235 = .ok (.istore_n 2, 1) ∧ 235 + 1 = 236 := ⟨by decide +kernel, rfl⟩
theorem dX9_readsFault_236 : decode cX9_readsFault 236 = .ok (.goto 54, 3) ∧ 236 + 3 = 239 ∧ ((236 : Nat) : Int) + (54) = ((290 : Nat) : Int) := ⟨by decide +kernel, rfl, rfl⟩
theorem dX9_readsFault_239 : decode cX9_readsFault 239 = .ok (.iload 4, 2) ∧ 239 + 2 = 241 := ⟨by decide +kernel, rfl⟩
theorem dX9_readsFault_241 : decode cX9_readsFault 241 = .ok (.bipush 40, 2) ∧ 241 + 2 = 243 := ⟨by decide +kernel, rfl⟩
theorem dX9_readsFault_243 : decode cX9_readsFault 243 = .ok (.if_icmp .ne 26, 3) ∧ 243 + 3 = 246 ∧ ((243 : Nat) : Int) + (26) = ((269 : Nat) : Int) := ⟨by decide +kernel, rfl, rfl⟩
theorem dX9_readsFault_246 : decode cX9_readsFault 246 = .ok (.iload_n 2, 1) ∧ 246 + 1 = 247 := ⟨by decide +kernel, rfl⟩
theorem dX9_readsFault_247 : decode cX9_readsFault 247 = .ok (.iconst 1, 1) ∧ 247 + 1 = 248 := ⟨by decide +kernel, rfl⟩
theorem dX9_readsFault_248 : decode cX9_readsFault 248 = .ok (.if_icmp .ne 21, 3) ∧ 248 + 3 = 251 ∧ ((248 : Nat) : Int) + (21) = ((269 : Nat) : Int) := ⟨by decide +kernel, rfl, rfl⟩
theorem dX9_readsFault_251 : decode cX9_readsFault 251 = .ok (.iinc 1 1, 3) ∧ 251 + 3 = 254 := ⟨by decide +kernel, rfl⟩
theorem dX9_readsFault_254 : decode cX9_readsFault 254 = .ok (.aload_n 0, 1) ∧ 254 + 1 = 255 := ⟨by decide +kernel, rfl⟩
theorem dX9_readsFault_255 : decode cX9_readsFault 255 = .ok (.getfield 57, 3) ∧ 255 + 3 = 258 := ⟨by decide +kernel, rfl⟩
theorem dX9_readsFault_258 : decode cX9_readsFault 258 = .ok (.iload_n 1, 1) ∧ 258 + 1 = 259 := ⟨by decide +kernel, rfl⟩
theorem dX9_readsFault_259 : decode cX9_readsFault 259 = .ok (.aload_n 0, 1) ∧ 259 + 1 = 260 := ⟨by decide +kernel, rfl⟩
theorem dX9_readsFault_260 : decode cX9_readsFault 260 = .ok (.getfield 167, 3) ∧ 260 + 3 = 263 := ⟨by decide +kernel, rfl⟩
theorem dX9_readsFault_263 : decode cX9_readsFault 263 = .ok (.iastore, 1) ∧ 263 + 1 = 264 := ⟨by decide +kernel, rfl⟩
theorem dX9_readsFault_264 : decode cX9_readsFault 264 = .ok (.iconst 0, 1) ∧ 264 + 1 = 265 := ⟨by decide +kernel, rfl⟩
theorem dX9_readsFault_265 : decode cX9_readsFault 265 = .ok (.istore_n 2, 1) ∧ 265 + 1 = 266 := ⟨by decide +kernel, rfl⟩
theorem dX9_readsFault_266 : decode cX9_readsFault 266 = .ok (.goto 24, 3) ∧ 266 + 3 = 269 ∧ ((266 : Nat) : Int) + (24) = ((290 : Nat) : Int) := ⟨by decide +kernel, rfl, rfl⟩
theorem dX9_readsFault_269 : decode cX9_readsFault 269 = .ok (.iload 4, 2) ∧ 269 + 2 = 271 := ⟨by decide +kernel, rfl⟩
theorem dX9_readsFault_271 : decode cX9_readsFault 271 = .ok (.bipush 41, 2) ∧ 271 + 2 = 273 := ⟨by decide +kernel, rfl⟩
theorem dX9_readsFault_273 : decode cX9_readsFault 273 = .ok (.if_icmp .ne 15, 3) ∧ 273 + 3 = 276 ∧ ((273 : Nat) : Int) + (15) = ((288 : Nat) : Int) := ⟨by decide +kernel, rfl, rfl⟩
theorem dX9_readsFault_276 : decode cX9_readsFault 276 = .ok (.iload_n 1, 1) ∧ 276 + 1 = 277 := ⟨by decide +kernel, rfl⟩
theorem dX9_readsFault_277 : decode cX9_readsFault 277 = .ok (.ifCond .le 11, 3) ∧ 277 + 3 = 280 ∧ ((277 : Nat) : Int) + (11) = ((288 : Nat) : Int) := ⟨by decide +kernel, rfl, rfl⟩
theorem dX9_readsFault_280 : decode cX9_readsFault 280 = .ok (.iinc 1 (-1), 3) ∧ 280 + 3 = 283 := ⟨by decide +kernel, rfl⟩
theorem dX9_readsFault_283 : decode cX9_readsFault 283 = .ok (.iconst 2, 1) ∧ 283 + 1 = 284 := ⟨by decide +kernel, rfl⟩
theorem dX9_readsFault_284 : decode cX9_readsFault 284 = .ok (.istore_n 2, 1) ∧ 284 + 1 = 285 := ⟨by decide +kernel, rfl⟩
theorem dX9_readsFault_285 : decode cX9_readsFault 285 = .ok (.goto 5, 3) ∧ 285 + 3 = 288 ∧ ((285 : Nat) : Int) + (5) = ((290 : Nat) : Int) := ⟨by decide +kernel, rfl, rfl⟩
theorem dX9_readsFault_288 : decode cX9_readsFault 288 = .ok (.iload_n 3, 1) ∧ 288 + 1 = 289 := ⟨by decide +kernel, rfl⟩
theorem dX9_readsFault_289 : decode cX9_readsFault 289 = .ok (.ireturn, 1) ∧ 289 + 1 = 290 := ⟨by decide +kernel, rfl⟩
theorem dX9_readsFault_290 : decode cX9_readsFault 290 = .ok (.iinc 3 1, 3) ∧ 290 + 3 = 293 := ⟨by decide +kernel, rfl⟩
theorem dX9_readsFault_293 : decode cX9_readsFault 293 = .ok (.goto (-247), 3) ∧ 293 + 3 = 296 ∧ ((293 : Nat) : Int) + (-247) = ((46 : Nat) : Int) := ⟨by decide +kernel, rfl, rfl⟩
theorem dX9_readsFault_296 : decode cX9_readsFault 296 = .ok (.iload_n 2, 1) ∧ 296 + 1 = 297 := ⟨by decide +kernel, rfl⟩
theorem dX9_readsFault_297 : decode cX9_readsFault 297 = .ok (.ifCond .eq 7, 3) ∧ 297 + 3 = 300 ∧ ((297 : Nat) : Int) + (7) = ((304 : Nat) : Int) := ⟨by decide +kernel, rfl, rfl⟩
theorem dX9_readsFault_300 : decode cX9_readsFault 300 = .ok (.iload_n 1, 1) ∧ 300 + 1 = 301 := ⟨by decide +kernel, rfl⟩
theorem dX9_readsFault_301 : decode cX9_readsFault 301 = .ok (.ifCond .le 10, 3) ∧ 301 + 3 = 304 ∧ ((301 : Nat) : Int) + (10) = ((311 : Nat) : Int) := ⟨by decide +kernel, rfl, rfl⟩
theorem dX9_readsFault_304 : decode cX9_readsFault 304 = .ok (.aload_n 0, 1) ∧ 304 + 1 = 305 := ⟨by decide +kernel, rfl⟩
theorem dX9_readsFault_305 : decode cX9_readsFault 305 = .ok (.getfield 95, 3) ∧ 305 + 3 = 308 := ⟨by decide +kernel, rfl⟩
theorem dX9_readsFault_308 : decode cX9_readsFault 308 = .ok (.goto 5, 3) ∧ 308 + 3 = 311 ∧ ((308 : Nat) : Int) + (5) = ((313 : Nat) : Int) := ⟨by decide +kernel, rfl, rfl⟩
theorem dX9_readsFault_311 : decode cX9_readsFault 311 = .ok (.bipush (-6), 2) ∧ 311 + 2 = 313 := ⟨by decide +kernel, rfl⟩
theorem dX9_readsFault_313 : decode cX9_readsFault 313 = .ok (.ireturn, 1) ∧ 313 + 1 = 314 := ⟨by decide +kernel, rfl⟩
theorem dX9_readOutline_0 : decode cX9_readOutline 0 = .ok (.aload_n 0, 1) ∧ 0 + 1 = 1 := ⟨by decide +kernel, rfl⟩
theorem dX9_readOutline_1 : decode cX9_readOutline 1 = .ok (.invokevirtual 176, 3) ∧ 1 + 3 = 4 := ⟨by decide +kernel, rfl⟩
theorem dX9_readOutline_4 : decode cX9_readOutline 4 = .ok (.istore_n 1, 1) ∧ 4 + 1 = 5 := ⟨by decide +kernel, rfl⟩
theorem dX9_readOutline_5 : decode cX9_readOutline 5 = .ok (.iload_n 1, 1) ∧ 5 + 1 = 6 := ⟨by decide +kernel, rfl⟩
theorem dX9_readOutline_6 : decode cX9_readOutline 6 = .ok (.bipush (-6), 2) ∧ 6 + 2 = 8 := ⟨by decide +kernel, rfl⟩
theorem dX9_readOutline_8 : decode cX9_readOutline 8 = .ok (.if_icmp .eq 8, 3) ∧ 8 + 3 = 11 ∧ ((8 : Nat) : Int) + (8) = ((16 : Nat) : Int) := ⟨by decide +kernel, rfl, rfl⟩
theorem dX9_readOutline_11 : decode cX9_readOutline 11 = .ok (.bipush (-100), 2) ∧ 11 + 2 = 13 := ⟨by decide +kernel, rfl⟩
theorem dX9_readOutline_13 : decode cX9_readOutline 13 = .ok (.iload_n 1, 1) ∧ 13 + 1 = 14 := ⟨by decide +kernel, rfl⟩
theorem dX9_readOutline_14 : decode cX9_readOutline 14 = .ok (.isub, 1) ∧ 14 + 1 = 15 := ⟨by decide +kernel, rfl⟩
theorem dX9_readOutline_15 : decode cX9_readOutline 15 = .ok (.ireturn, 1) ∧ 15 + 1 = 16 := ⟨by decide +kernel, rfl⟩
theorem dX9_readOutline_16 : decode cX9_readOutline 16 = .ok (.aload_n 0, 1) ∧ 16 + 1 = 17 := ⟨by decide +kernel, rfl⟩
theorem dX9_readOutline_17 : decode cX9_readOutline 17 = .ok (.invokevirtual 105, 3) ∧ 17 + 3 = 20 := ⟨by decide +kernel, rfl⟩
theorem dX9_readOutline_20 : decode cX9_readOutline 20 = .ok (.iconst 0, 1) ∧ 20 + 1 = 21 := ⟨by decide +kernel, rfl⟩
theorem dX9_readOutline_21 : decode cX9_readOutline 21 = .ok (.istore_n 2, 1) ∧ 21 + 1 = 22 := ⟨by decide +kernel, rfl⟩
theorem dX9_readOutline_22 : decode cX9_readOutline 22 = .ok (.iload_n 2, 1) ∧ 22 + 1 = 23 := ⟨by decide +kernel, rfl⟩
theorem dX9_readOutline_23 : decode cX9_readOutline 23 = .ok (.bipush 40, 2) ∧ 23 + 2 = 25 := ⟨by decide +kernel, rfl⟩
theorem dX9_readOutline_25 : decode cX9_readOutline 25 = .ok (.if_icmp .gt 30, 3) ∧ 25 + 3 = 28 ∧ ((25 : Nat) : Int) + (30) = ((55 : Nat) : Int) := ⟨by decide +kernel, rfl, rfl⟩
theorem dX9_readOutline_28 : decode cX9_readOutline 28 = .ok (.iconst 0, 1) ∧ 28 + 1 = 29 := ⟨by decide +kernel, rfl⟩
theorem dX9_readOutline_29 : decode cX9_readOutline 29 = .ok (.istore_n 3, 1) ∧ 29 + 1 = 30 := ⟨by decide +kernel, rfl⟩
theorem dX9_readOutline_30 : decode cX9_readOutline 30 = .ok (.iload_n 3, 1) ∧ 30 + 1 = 31 := ⟨by decide +kernel, rfl⟩
theorem dX9_readOutline_31 : decode cX9_readOutline 31 = .ok (.bipush 52, 2) ∧ 31 + 2 = 33 := ⟨by decide +kernel, rfl⟩
theorem dX9_readOutline_33 : decode cX9_readOutline 33 = .ok (.if_icmp .ge 16, 3) ∧ 33 + 3 = 36 ∧ ((33 : Nat) : Int) + (16) = ((49 : Nat) : Int) := ⟨by decide +kernel, rfl, rfl⟩
theorem dX9_readOutline_36 : decode cX9_readOutline 36 = .ok (.aload_n 0, 1) ∧ 36 + 1 = 37 := ⟨by decide +kernel, rfl⟩
theorem dX9_readOutline_37 : decode cX9_readOutline 37 = .ok (.iload_n 2, 1) ∧ 37 + 1 = 38 := ⟨by decide +kernel, rfl⟩
theorem dX9_readOutline_38 : decode cX9_readOutline 38 = .ok (.iload_n 3, 1) ∧ 38 + 1 = 39 := ⟨by decide +kernel, rfl⟩
theorem dX9_readOutline_39 : decode cX9_readOutline 39 = .ok (.iconst 0, 1) ∧ 39 + 1 = 40 := ⟨by decide +kernel, rfl⟩
theorem dX9_readOutline_40 : decode cX9_readOutline 40 = .ok (.invokevirtual 91, 3) ∧ 40 + 3 = 43 := ⟨by decide +kernel, rfl⟩
theorem dX9_readOutline_43 : decode cX9_readOutline 43 = .ok (.iinc 3 1, 3) ∧ 43 + 3 = 46 := ⟨by decide +kernel, rfl⟩
theorem dX9_readOutline_46 : decode cX9_readOutline 46 = .ok (.goto (-16), 3) ∧ 46 + 3 = 49 ∧ ((46 : Nat) : Int) + (-16) = ((30 : Nat) : Int) := ⟨by decide +kernel, rfl, rfl⟩
theorem dX9_readOutline_49 : decode cX9_readOutline 49 = .ok (.iinc 2 1, 3) ∧ 49 + 3 = 52 := ⟨by decide +kernel, rfl⟩
theorem dX9_readOutline_52 : decode cX9_readOutline 52 = .ok (.goto (-30), 3) ∧ 52 + 3 = 55 ∧ ((52 : Nat) : Int) + (-30) = ((22 : Nat) : Int) := ⟨by decide +kernel, rfl, rfl⟩
theorem dX9_readOutline_55 : decode cX9_readOutline 55 = .ok (.aload_n 0, 1) ∧ 55 + 1 = 56 := ⟨by decide +kernel, rfl⟩
theorem dX9_readOutline_56 : decode cX9_readOutline 56 = .ok (.iconst 0, 1) ∧ 56 + 1 = 57 := ⟨by decide +kernel, rfl⟩
theorem dX9_readOutline_57 : decode cX9_readOutline 57 = .ok (.iconst 0, 1) ∧ 57 + 1 = 58 := ⟨by decide +kernel, rfl⟩
theorem dX9_readOutline_58 : decode cX9_readOutline 58 = .ok (.iconst 1, 1) ∧ 58 + 1 = 59 := ⟨by decide +kernel, rfl⟩
theorem dX9_readOutline_59 : decode cX9_readOutline 59 = .ok (.invokevirtual 91, 3) ∧ 59 + 3 = 62 := ⟨by decide +kernel, rfl⟩
theorem dX9_readOutline_62 : decode cX9_readOutline 62 = .ok (.aload_n 0, 1) ∧ 62 + 1 = 63 := ⟨by decide +kernel, rfl⟩
theorem dX9_readOutline_63 : decode cX9_readOutline 63 = .ok (.getfield 7, 3) ∧ 63 + 3 = 66 := ⟨by decide +kernel, rfl⟩
theorem dX9_readOutline_66 : decode cX9_readOutline 66 = .ok (.iconst 0, 1) ∧ 66 + 1 = 67 := ⟨by decide +kernel, rfl⟩
theorem dX9_readOutline_67 : decode cX9_readOutline 67 = .ok (.aload_n 0, 1) ∧ 67 + 1 = 68 := ⟨by decide +kernel, rfl⟩
theorem dX9_readOutline_68 : decode cX9_readOutline 68 = .ok (.getfield 167, 3) ∧ 68 + 3 = 71 := ⟨by decide +kernel, rfl⟩
theorem dX9_readOutline_71 : decode cX9_readOutline 71 = .ok (.iastore, 1) ∧ 71 + 1 = 72 := ⟨by decide +kernel, rfl⟩
theorem dX9_readOutline_72 : decode cX9_readOutline 72 = .ok (.iconst 0, 1) ∧ 72 + 1 = 73 := ⟨by decide +kernel, rfl⟩
theorem dX9_readOutline_73 : decode cX9_readOutline 73 = .ok (.istore_n 2, 1) ∧ 73 + 1 = 74 := ⟨by decide +kernel, rfl⟩
theorem dX9_readOutline_74 : decode cX9_readOutline 74 = .ok (.iload_n 2, 1) ∧ 74 + 1 = 75 := ⟨by decide +kernel, rfl⟩
theorem dX9_readOutline_75 : decode cX9_readOutline 75 = .ok (.aload_n 0, 1) ∧ 75 + 1 = 76 := ⟨by decide +kernel, rfl⟩
theorem dX9_readOutline_76 : decode cX9_readOutline 76 = .ok (.getfield 167, 3) ∧ 76 + 3 = 79 := ⟨by decide +kernel, rfl⟩
theorem dX9_readOutline_79 : decode cX9_readOutline 79 = .ok (.if_icmp .gt 73, 3) ∧ 79 + 3 = 82 ∧ ((79 : Nat) : Int) + (73) = ((152 : Nat) : Int) := ⟨by decide +kernel, rfl, rfl⟩
theorem dX9_readOutline_82 : decode cX9_readOutline 82 = .ok (.aload_n 0, 1) ∧ 82 + 1 = 83 := ⟨by decide +kernel, rfl⟩
theorem dX9_readOutline_83 : decode cX9_readOutline 83 = .ok (.iload_n 2, 1) ∧ 83 + 1 = 84 := ⟨by decide +kernel, rfl⟩
theorem dX9_readOutline_84 : decode cX9_readOutline 84 = .ok (.iconst 0, 1) ∧ 84 + 1 = 85 := ⟨by decide +kernel, rfl⟩
theorem dX9_readOutline_85 : decode cX9_readOutline 85 = .ok (.iconst 1, 1) ∧ 85 + 1 = 86 := ⟨by decide +kernel, rfl⟩
theorem dX9_readOutline_86 : decode cX9_readOutline 86 = .ok (.invokevirtual 91, 3) ∧ 86 + 3 = 89 := ⟨by decide +kernel, rfl⟩
theorem dX9_readOutline_89 : decode cX9_readOutline 89 = .ok (.iload_n 2, 1) ∧ 89 + 1 = 90 := ⟨by decide +kernel, rfl⟩
theorem dX9_readOutline_90 : decode cX9_readOutline 90 = .ok (.ifCond .le 22, 3) ∧ 90 + 3 = 93 ∧ ((90 : Nat) : Int) + (22) = ((112 : Nat) : Int) := ⟨by decide +kernel, rfl, rfl⟩
theorem dX9_readOutline_93 : decode cX9_readOutline 93 = .ok (.aload_n 0, 1) ∧ 93 + 1 = 94 := ⟨by decide +kernel, rfl⟩
theorem dX9_readOutline_94 : decode cX9_readOutline 94 = .ok (.iload_n 2, 1) ∧ 94 + 1 = 95 := ⟨by decide +kernel, rfl⟩
theorem dX9_readOutline_95 : decode cX9_readOutline 95 = .ok (.iconst 1, 1) ∧ 95 + 1 = 96 := ⟨by decide +kernel, rfl⟩
theorem dX9_readOutline_96 : decode cX9_readOutline 96 = .ok (.iconst 1, 1) ∧ 96 + 1 = 97 := ⟨by decide +kernel, rfl⟩
theorem dX9_readOutline_97 : decode cX9_readOutline 97 = .ok (.invokevirtual 91, 3) ∧ 97 + 3 = 100 := ⟨by decide +kernel, rfl⟩
theorem dX9_readOutline_100 : decode cX9_readOutline 100 = .ok (.aload_n 0, 1) ∧ 100 + 1 = 101 := ⟨by decide +kernel, rfl⟩
theorem dX9_readOutline_101 : decode cX9_readOutline 101 = .ok (.iload_n 2, 1) ∧ 101 + 1 = 102 := ⟨by decide +kernel, rfl⟩
theorem dX9_readOutline_102 : decode cX9_readOutline 102 = .ok (.iconst 2, 1) ∧ 102 + 1 = 103 := ⟨by decide +kernel, rfl⟩
theorem dX9_readOutline_103 : decode cX9_readOutline 103 = .ok (.aload_n 0, 1) ∧ 103 + 1 = 104 := ⟨by decide +kernel, rfl⟩
theorem dX9_readOutline_104 : decode cX9_readOutline 104 = .ok (.getfield 48, 3) ∧ 104 + 3 = 107 := ⟨by decide +kernel, rfl⟩
theorem dX9_readOutline_107 : decode cX9_readOutline 107 = .ok (.iload_n 2, 1) ∧ 107 + 1 = 108 := ⟨by decide +kernel, rfl⟩
theorem dX9_readOutline_108 : decode cX9_readOutline 108 = .ok (.iaload, 1) ∧ 108 + 1 = 109 := ⟨by decide +kernel, rfl⟩
theorem dX9_readOutline_109 : decode cX9_readOutline 109 = .ok (.invokevirtual 91, 3) ∧ 109 + 3 = 112 := ⟨by decide +kernel, rfl⟩
theorem dX9_readOutline_112 : decode cX9_readOutline 112 = .ok (.iconst 0, 1) ∧ 112 + 1 = 113 := ⟨by decide +kernel, rfl⟩
theorem dX9_readOutline_113 : decode cX9_readOutline 113 = .ok (.istore_n 3, 1) ∧ 113 + 1 = 114 := ⟨by decide +kernel, rfl⟩
theorem dX9_readOutline_114 : decode cX9_readOutline 114 = .ok (.iload_n 3, 1) ∧ 114 + 1 = 115 := ⟨by decide +kernel, rfl⟩
theorem dX9_readOutline_115 : decode cX9_readOutline 115 = .ok (.aload_n 0, 1) ∧ 115 + 1 = 116 := ⟨by decide +kernel, rfl⟩
theorem dX9_readOutline_116 : decode cX9_readOutline 116 = .ok (.getfield 51, 3) ∧ 116 + 3 = 119 := ⟨by decide +kernel, rfl⟩
theorem dX9_readOutline_119 : decode cX9_readOutline 119 = .ok (.iload_n 2, 1) ∧ 119 + 1 = 120 := ⟨by decide +kernel, rfl⟩
theorem dX9_readOutline_120 : decode cX9_readOutline 120 = .ok (.iaload, 1) ∧ 120 + 1 = 121 := ⟨by decide +kernel, rfl⟩
theorem dX9_readOutline_121 : decode cX9_readOutline 121 = .ok (.if_icmp .ge 25, 3) ∧ 121 + 3 = 124 ∧ ((121 : Nat) : Int) + (25) = ((146 : Nat) : Int) := ⟨by decide +kernel, rfl, rfl⟩
theorem dX9_readOutline_124 : decode cX9_readOutline 124 = .ok (.aload_n 0, 1) ∧ 124 + 1 = 125 := ⟨by decide +kernel, rfl⟩
theorem dX9_readOutline_125 : decode cX9_readOutline 125 = .ok (.iload_n 2, 1) ∧ 125 + 1 = 126 := ⟨by decide +kernel, rfl⟩
theorem dX9_readOutline_126 : decode cX9_readOutline 126 = .ok (.aload_n 0, 1) ∧ 126 + 1 = 127 := ⟨by decide +kernel, rfl⟩
theorem dX9_readOutline_127 : decode cX9_readOutline 127 = .ok (.getfield 54, 3) ∧ 127 + 3 = 130 := ⟨by decide +kernel, rfl⟩
theorem dX9_readOutline_130 : decode cX9_readOutline 130 = .ok (.bipush 28, 2) ∧ 130 + 2 = 132 := ⟨by decide +kernel, rfl⟩
theorem dX9_readOutline_132 : decode cX9_readOutline 132 = .ok (.iload_n 2, 1) ∧ 132 + 1 = 133 := ⟨by decide +kernel, rfl⟩
theorem dX9_readOutline_133 : decode cX9_readOutline 133 = .ok (.imul, 1) ∧ 133 + 1 = 134 := ⟨by decide +kernel, rfl⟩
theorem dX9_readOutline_134 : decode cX9_readOutline 134 = .ok (.iload_n 3, 1) ∧ 134 + 1 = 135 := ⟨by decide +kernel, rfl⟩
theorem dX9_readOutline_135 : decode cX9_readOutline 135 = .ok (.iadd, 1) ∧ 135 + 1 = 136 := ⟨by decide +kernel, rfl⟩
theorem dX9_readOutline_136 : decode cX9_readOutline 136 = .ok (.iaload, 1) ∧ 136 + 1 = 137 := ⟨by decide +kernel, rfl⟩
theorem dX9_readOutline_137 : decode cX9_readOutline 137 = .ok (.invokevirtual 115, 3) ∧ 137 + 3 = 140 := ⟨by decide +kernel, rfl⟩
theorem dX9_readOutline_140 : decode cX9_readOutline 140 = .ok (.iinc 3 1, 3) ∧ 140 + 3 = 143 := ⟨by decide +kernel, rfl⟩
theorem dX9_readOutline_143 : decode cX9_readOutline 143 = .ok (.goto (-29), 3) ∧ 143 + 3 = 146 ∧ ((143 : Nat) : Int) + (-29) = ((114 : Nat) : Int) := ⟨by decide +kernel, rfl, rfl⟩
theorem dX9_readOutline_146 : decode cX9_readOutline 146 = .ok (.iinc 2 1, 3) ∧ 146 + 3 = 149 := ⟨by decide +kernel, rfl⟩
theorem dX9_readOutline_149 : decode cX9_readOutline 149 = .ok (.goto (-75), 3) ∧ 149 + 3 = 152 ∧ ((149 : Nat) : Int) + (-75) = ((74 : Nat) : Int) := ⟨by decide +kernel, rfl, rfl⟩
theorem dX9_readOutline_152 : decode cX9_readOutline 152 = .ok (.aload_n 0, 1) ∧ 152 + 1 = 153 := ⟨by decide +kernel, rfl⟩
theorem dX9_readOutline_153 : decode cX9_readOutline 153 = .ok (.invokevirtual 119, 3) ∧ 153 + 3 = 156 := ⟨by decide +kernel, rfl⟩
theorem dX9_readOutline_156 : decode cX9_readOutline 156 = .ok (.ifCond .ne 10, 3) ∧ 156 + 3 = 159 ∧ ((156 : Nat) : Int) + (10) = ((166 : Nat) : Int) := ⟨by decide +kernel, rfl, rfl⟩
theorem dX9_readOutline_159 : decode cX9_readOutline 159 = .ok (.aload_n 0, 1) ∧ 159 + 1 = 160 := ⟨by decide +kernel, rfl⟩
theorem dX9_readOutline_160 : decode cX9_readOutline 160 = .ok (.invokevirtual 123, 3) ∧ 160 + 3 = 163 := ⟨by decide +kernel, rfl⟩
theorem dX9_readOutline_163 : decode cX9_readOutline 163 = .ok (.bipush (-4), 2) ∧ 163 + 2 = 165 := ⟨by decide +kernel, rfl⟩
theorem dX9_readOutline_165 : decode cX9_readOutline 165 = .ok (.ireturn, 1) ∧ 165 + 1 = 166 := ⟨by decide +kernel, rfl⟩
theorem dX9_readOutline_166 : decode cX9_readOutline 166 = .ok (.aload_n 0, 1) ∧ 166 + 1 = 167 := ⟨by decide +kernel, rfl⟩
theorem dX9_readOutline_167 : decode cX9_readOutline 167 = .ok (.invokevirtual 126, 3) ∧ 167 + 3 = 170 := ⟨by decide +kernel, rfl⟩
theorem dX9_readOutline_170 : decode cX9_readOutline 170 = .ok (.iconst 0, 1) ∧ 170 + 1 = 171 := ⟨by decide +kernel, rfl⟩
theorem dX9_readOutline_171 : decode cX9_readOutline 171 = .ok (.istore_n 2, 1) ∧ 171 + 1 = 172 := ⟨by decide +kernel, rfl⟩
theorem dX9_readOutline_172 : decode cX9_readOutline 172 = .ok (.iload_n 2, 1) ∧ 172 + 1 = 173 := ⟨by decide +kernel, rfl⟩
theorem dX9_readOutline_173 : decode cX9_readOutline 173 = .ok (.aload_n 0, 1) ∧ 173 + 1 = 174 := ⟨by decide +kernel, rfl⟩
theorem dX9_readOutline_174 : decode cX9_readOutline 174 = .ok (.getfield 7, 3) ∧ 174 + 3 = 177 := ⟨by decide +kernel, rfl⟩
theorem dX9_readOutline_177 : decode cX9_readOutline 177 = .ok (.iconst 1, 1) ∧ 177 + 1 = 178 := ⟨by decide +kernel, rfl⟩
theorem dX9_readOutline_178 : decode cX9_readOutline 178 = .ok (.iaload, 1) ∧ 178 + 1 = 179 := ⟨by decide +kernel, rfl⟩
theorem dX9_readOutline_179 : decode cX9_readOutline 179 = .ok (.if_icmp .ge 24, 3) ∧ 179 + 3 = 182 ∧ ((179 : Nat) : Int) + (24) = ((203 : Nat) : Int) := ⟨by decide +kernel, rfl, rfl⟩
theorem dX9_readOutline_182 : decode cX9_readOutline 182 = .ok (.aload_n 0, 1) ∧ 182 + 1 = 183 := ⟨by decide +kernel, rfl⟩
theorem dX9_readOutline_183 : decode cX9_readOutline 183 = .ok (.getfield 7, 3) ∧ 183 + 3 = 186 := ⟨by decide +kernel, rfl⟩
theorem dX9_readOutline_186 : decode cX9_readOutline 186 = .ok (.sipush 2134, 3) ∧ 186 + 3 = 189 := ⟨by decide +kernel, rfl⟩
theorem dX9_readOutline_189 : decode cX9_readOutline 189 = .ok (.iconst 3, 1) ∧ 189 + 1 = 190 := ⟨by decide +kernel, rfl⟩
theorem dX9_readOutline_190 : decode cX9_readOutline 190 = .ok (.iload_n 2, 1) ∧ 190 + 1 = 191 := ⟨by decide +kernel, rfl⟩
theorem dX9_readOutline_191 : decode cX9_readOutline 191 = .ok (.imul, 1) ∧ 191 + 1 = 192 := ⟨by decide +kernel, rfl⟩
theorem dX9_readOutline_192 : decode cX9_readOutline 192 = .ok (.iadd, 1) ∧ 192 + 1 = 193 := ⟨by decide +kernel, rfl⟩
theorem dX9_readOutline_193 : decode cX9_readOutline 193 = .ok (.iconst 2, 1) ∧ 193 + 1 = 194 := ⟨by decide +kernel, rfl⟩
theorem dX9_readOutline_194 : decode cX9_readOutline 194 = .ok (.iadd, 1) ∧ 194 + 1 = 195 := ⟨by decide +kernel, rfl⟩
theorem dX9_readOutline_195 : decode cX9_readOutline 195 = .ok (.iconst 0, 1) ∧ 195 + 1 = 196 := ⟨by decide +kernel, rfl⟩
theorem dX9_readOutline_196 : decode cX9_readOutline 196 = .ok (.iastore, 1) ∧ 196 + 1 = 197 := ⟨by decide +kernel, rfl⟩
theorem dX9_readOutline_197 : decode cX9_readOutline 197 = .ok (.iinc 2 1, 3) ∧ 197 + 3 = 200 := ⟨by decide +kernel, rfl⟩
theorem dX9_readOutline_200 : decode cX9_readOutline 200 = .ok (.goto (-28), 3) ∧ 200 + 3 = 203 ∧ ((200 : Nat) : Int) + (-28) = ((172 : Nat) : Int) := ⟨by decide +kernel, rfl, rfl⟩
theorem dX9_readOutline_203 : decode cX9_readOutline 203 = .ok (.aload_n 0, 1) ∧ 203 + 1 = 204 := ⟨by decide +kernel, rfl⟩
theorem dX9_readOutline_204 : decode cX9_readOutline 204 = .ok (.getfield 7, 3) ∧ 204 + 3 = 207 := ⟨by decide +kernel, rfl⟩
theorem dX9_readOutline_207 : decode cX9_readOutline 207 = .ok (.iconst 1, 1) ∧ 207 + 1 = 208 := ⟨by decide +kernel, rfl⟩
theorem dX9_readOutline_208 : decode cX9_readOutline 208 = .ok (.iaload, 1) ∧ 208 + 1 = 209 := ⟨by decide +kernel, rfl⟩
theorem dX9_readOutline_209 : decode cX9_readOutline 209 = .ok (.ireturn, 1) ∧ 209 + 1 = 210 := ⟨by decide +kernel, rfl⟩
theorem dX9_undo_0 : decode cX9_undo 0 = .ok (.aload_n 0, 1) ∧ 0 + 1 = 1 := ⟨by decide +kernel, rfl⟩
theorem dX9_undo_1 : decode cX9_undo 1 = .ok (.getfield 60, 3) ∧ 1 + 3 = 4 := ⟨by decide +kernel, rfl⟩
theorem dX9_undo_4 : decode cX9_undo 4 = .ok (.ifCond .ne 6, 3) ∧ 4 + 3 = 7 ∧ ((4 : Nat) : Int) + (6) = ((10 : Nat) : Int) := ⟨by decide +kernel, rfl, rfl⟩
theorem dX9_undo_7 : decode cX9_undo 7 = .ok (.bipush (-6), 2) ∧ 7 + 2 = 9 := ⟨by decide +kernel, rfl⟩
theorem dX9_undo_9 : decode cX9_undo 9 = .ok (.ireturn, 1) ∧ 9 + 1 = 10 := ⟨by decide +kernel, rfl⟩
theorem dX9_undo_10 : decode cX9_undo 10 = .ok (.aload_n 0, 1) ∧ 10 + 1 = 11 := ⟨by decide +kernel, rfl⟩
theorem dX9_undo_11 : decode cX9_undo 11 = .ok (.dup, 1) ∧ 11 + 1 = 12 := ⟨by decide +kernel, rfl⟩
theorem dX9_undo_12 : decode cX9_undo 12 = .ok (.getfield 60, 3) ∧ 12 + 3 = 15 := ⟨by decide +kernel, rfl⟩
theorem dX9_undo_15 : decode cX9_undo 15 = .ok (.iconst 1, 1) ∧ 15 + 1 = 16 := ⟨by decide +kernel, rfl⟩
theorem dX9_undo_16 : decode cX9_undo 16 = .ok (.isub, 1) ∧ 16 + 1 = 17 := ⟨by decide +kernel, rfl⟩
theorem dX9_undo_17 : decode cX9_undo 17 = .ok (.putfield 60, 3) ∧ 17 + 3 = 20 := ⟨by decide +kernel, rfl⟩
theorem dX9_undo_20 : decode cX9_undo 20 = .ok (.iconst 0, 1) ∧ 20 + 1 = 21 := ⟨by decide +kernel, rfl⟩
theorem dX9_undo_21 : decode cX9_undo 21 = .ok (.istore_n 1, 1) ∧ 21 + 1 = 22 := ⟨by decide +kernel, rfl⟩
theorem dX9_undo_22 : decode cX9_undo 22 = .ok (.iload_n 1, 1) ∧ 22 + 1 = 23 := ⟨by decide +kernel, rfl⟩
theorem dX9_undo_23 : decode cX9_undo 23 = .ok (.sipush 2494, 3) ∧ 23 + 3 = 26 := ⟨by decide +kernel, rfl⟩
theorem dX9_undo_26 : decode cX9_undo 26 = .ok (.if_icmp .ge 30, 3) ∧ 26 + 3 = 29 ∧ ((26 : Nat) : Int) + (30) = ((56 : Nat) : Int) := ⟨by decide +kernel, rfl, rfl⟩
theorem dX9_undo_29 : decode cX9_undo 29 = .ok (.aload_n 0, 1) ∧ 29 + 1 = 30 := ⟨by decide +kernel, rfl⟩
theorem dX9_undo_30 : decode cX9_undo 30 = .ok (.getfield 7, 3) ∧ 30 + 3 = 33 := ⟨by decide +kernel, rfl⟩
theorem dX9_undo_33 : decode cX9_undo 33 = .ok (.iload_n 1, 1) ∧ 33 + 1 = 34 := ⟨by decide +kernel, rfl⟩
theorem dX9_undo_34 : decode cX9_undo 34 = .ok (.aload_n 0, 1) ∧ 34 + 1 = 35 := ⟨by decide +kernel, rfl⟩
theorem dX9_undo_35 : decode cX9_undo 35 = .ok (.getfield 13, 3) ∧ 35 + 3 = 38 := ⟨by decide +kernel, rfl⟩
theorem dX9_undo_38 : decode cX9_undo 38 = .ok (.sipush 2494, 3) ∧ 38 + 3 = 41 := ⟨by decide +kernel, rfl⟩
theorem dX9_undo_41 : decode cX9_undo 41 = .ok (.aload_n 0, 1) ∧ 41 + 1 = 42 := ⟨by decide +kernel, rfl⟩
theorem dX9_undo_42 : decode cX9_undo 42 = .ok (.getfield 60, 3) ∧ 42 + 3 = 45 := ⟨by decide +kernel, rfl⟩
theorem dX9_undo_45 : decode cX9_undo 45 = .ok (.imul, 1) ∧ 45 + 1 = 46 := ⟨by decide +kernel, rfl⟩
theorem dX9_undo_46 : decode cX9_undo 46 = .ok (.iload_n 1, 1) ∧ 46 + 1 = 47 := ⟨by decide +kernel, rfl⟩
theorem dX9_undo_47 : decode cX9_undo 47 = .ok (.iadd, 1) ∧ 47 + 1 = 48 := ⟨by decide +kernel, rfl⟩
theorem dX9_undo_48 : decode cX9_undo 48 = .ok (.iaload, 1) ∧ 48 + 1 = 49 := ⟨by decide +kernel, rfl⟩
theorem dX9_undo_49 : decode cX9_undo 49 = .ok (.iastore, 1) ∧ 49 + 1 = 50 := ⟨by decide +kernel, rfl⟩
theorem dX9_undo_50 : decode cX9_undo 50 = .ok (.iinc 1 1, 3) ∧ 50 + 3 = 53 := ⟨by decide +kernel, rfl⟩
theorem dX9_undo_53 : decode cX9_undo 53 = .ok (.goto (-31), 3) ∧ 53 + 3 = 56 ∧ ((53 : Nat) : Int) + (-31) = ((22 : Nat) : Int) := ⟨by decide +kernel, rfl, rfl⟩
theorem dX9_undo_56 : decode cX9_undo 56 = .ok (.aload_n 0, 1) ∧ 56 + 1 = 57 := ⟨by decide +kernel, rfl⟩
theorem dX9_undo_57 : decode cX9_undo 57 = .ok (.getfield 60, 3) ∧ 57 + 3 = 60 := ⟨by decide +kernel, rfl⟩
theorem dX9_undo_60 : decode cX9_undo 60 = .ok (.ireturn, 1) ∧ 60 + 1 = 61 := ⟨by decide +kernel, rfl⟩
theorem dX9_keep_0 : decode cX9_keep 0 = .ok (.iconst 0, 1) ∧ 0 + 1 = 1 := ⟨by decide +kernel, rfl⟩
theorem dX9_keep_1 : decode cX9_keep 1 = .ok (.istore_n 1, 1) ∧ 1 + 1 = 2 := ⟨by decide +kernel, rfl⟩
theorem dX9_keep_2 : decode cX9_keep 2 = .ok (.iload_n 1, 1) ∧ 2 + 1 = 3 := ⟨by decide +kernel, rfl⟩
theorem dX9_keep_3 : decode cX9_keep 3 = .ok (.sipush 2494, 3) ∧ 3 + 3 = 6 := ⟨by decide +kernel, rfl⟩
theorem dX9_keep_6 : decode cX9_keep 6 = .ok (.if_icmp .ge 21, 3) ∧ 6 + 3 = 9 ∧ ((6 : Nat) : Int) + (21) = ((27 : Nat) : Int) := ⟨by decide +kernel, rfl, rfl⟩
theorem dX9_keep_9 : decode cX9_keep 9 = .ok (.aload_n 0, 1) ∧ 9 + 1 = 10 := ⟨by decide +kernel, rfl⟩
theorem dX9_keep_10 : decode cX9_keep 10 = .ok (.getfield 16, 3) ∧ 10 + 3 = 13 := ⟨by decide +kernel, rfl⟩
theorem dX9_keep_13 : decode cX9_keep 13 = .ok (.iload_n 1, 1) ∧ 13 + 1 = 14 := ⟨by decide +kernel, rfl⟩
theorem dX9_keep_14 : decode cX9_keep 14 = .ok (.aload_n 0, 1) ∧ 14 + 1 = 15 := ⟨by decide +kernel, rfl⟩
theorem dX9_keep_15 : decode cX9_keep 15 = .ok (.getfield 7, 3) ∧ 15 + 3 = 18 := ⟨by decide +kernel, rfl⟩
theorem dX9_keep_18 : decode cX9_keep 18 = .ok (.iload_n 1, 1) ∧ 18 + 1 = 19 := ⟨by decide +kernel, rfl⟩
theorem dX9_keep_19 : decode cX9_keep 19 = .ok (.iaload, 1) ∧ 19 + 1 = 20 := ⟨by decide +kernel, rfl⟩
theorem dX9_keep_20 : decode cX9_keep 20 = .ok (.iastore, 1) ∧ 20 + 1 = 21 := ⟨by decide +kernel, rfl⟩
theorem dX9_keep_21 : decode cX9_keep 21 = .ok (.iinc 1 1, 3) ∧ 21 + 3 = 24 := ⟨by decide +kernel, rfl⟩
theorem dX9_keep_24 : decode cX9_keep 24 = .ok (.goto (-22), 3) ∧ 24 + 3 = 27 ∧ ((24 : Nat) : Int) + (-22) = ((2 : Nat) : Int) := ⟨by decide +kernel, rfl, rfl⟩
theorem dX9_keep_27 : decode cX9_keep 27 = .ok (.aload_n 0, 1) ∧ 27 + 1 = 28 := ⟨by decide +kernel, rfl⟩
theorem dX9_keep_28 : decode cX9_keep 28 = .ok (.iconst 1, 1) ∧ 28 + 1 = 29 := ⟨by decide +kernel, rfl⟩
theorem dX9_keep_29 : decode cX9_keep 29 = .ok (.putfield 179, 3) ∧ 29 + 3 = 32 := ⟨by decide +kernel, rfl⟩
theorem dX9_keep_32 : decode cX9_keep 32 = .ok (.aload_n 0, 1) ∧ 32 + 1 = 33 := ⟨by decide +kernel, rfl⟩
theorem dX9_keep_33 : decode cX9_keep 33 = .ok (.invokevirtual 154, 3) ∧ 33 + 3 = 36 := ⟨by decide +kernel, rfl⟩
theorem dX9_keep_36 : decode cX9_keep 36 = .ok (.ireturn, 1) ∧ 36 + 1 = 37 := ⟨by decide +kernel, rfl⟩
theorem dX9_restore_0 : decode cX9_restore 0 = .ok (.aload_n 0, 1) ∧ 0 + 1 = 1 := ⟨by decide +kernel, rfl⟩
theorem dX9_restore_1 : decode cX9_restore 1 = .ok (.getfield 179, 3) ∧ 1 + 3 = 4 := ⟨by decide +kernel, rfl⟩
theorem dX9_restore_4 : decode cX9_restore 4 = .ok (.ifCond .ne 6, 3) ∧ 4 + 3 = 7 ∧ ((4 : Nat) : Int) + (6) = ((10 : Nat) : Int) := ⟨by decide +kernel, rfl, rfl⟩
theorem dX9_restore_7 : decode cX9_restore 7 = .ok (.bipush (-6), 2) ∧ 7 + 2 = 9 := ⟨by decide +kernel, rfl⟩
theorem dX9_restore_9 : decode cX9_restore 9 = .ok (.ireturn, 1) ∧ 9 + 1 = 10 := ⟨by decide +kernel, rfl⟩
theorem dX9_restore_10 : decode cX9_restore 10 = .ok (.aload_n 0, 1) ∧ 10 + 1 = 11 := ⟨by decide +kernel, rfl⟩
theorem dX9_restore_11 : decode cX9_restore 11 = .ok (.invokevirtual 105, 3) ∧ 11 + 3 = 14 := ⟨by decide +kernel, rfl⟩
theorem dX9_restore_14 : decode cX9_restore 14 = .ok (.aload_n 0, 1) ∧ 14 + 1 = 15 := ⟨by decide +kernel, rfl⟩
theorem dX9_restore_15 : decode cX9_restore 15 = .ok (.invokevirtual 126, 3) ∧ 15 + 3 = 18 := ⟨by decide +kernel, rfl⟩
theorem dX9_restore_18 : decode cX9_restore 18 = .ok (.iconst 0, 1) ∧ 18 + 1 = 19 := ⟨by decide +kernel, rfl⟩
theorem dX9_restore_19 : decode cX9_restore 19 = .ok (.istore_n 1, 1) ∧ 19 + 1 = 20 := ⟨by decide +kernel, rfl⟩
theorem dX9_restore_20 : decode cX9_restore 20 = .ok (.iload_n 1, 1) ∧ 20 + 1 = 21 := ⟨by decide +kernel, rfl⟩
theorem dX9_restore_21 : decode cX9_restore 21 = .ok (.sipush 2494, 3) ∧ 21 + 3 = 24 := ⟨by decide +kernel, rfl⟩
theorem dX9_restore_24 : decode cX9_restore 24 = .ok (.if_icmp .ge 21, 3) ∧ 24 + 3 = 27 ∧ ((24 : Nat) : Int) + (21) = ((45 : Nat) : Int) := ⟨by decide +kernel, rfl, rfl⟩
theorem dX9_restore_27 : decode cX9_restore 27 = .ok (.aload_n 0, 1) ∧ 27 + 1 = 28 := ⟨by decide +kernel, rfl⟩
theorem dX9_restore_28 : decode cX9_restore 28 = .ok (.getfield 7, 3) ∧ 28 + 3 = 31 := ⟨by decide +kernel, rfl⟩
theorem dX9_restore_31 : decode cX9_restore 31 = .ok (.iload_n 1, 1) ∧ 31 + 1 = 32 := ⟨by decide +kernel, rfl⟩
theorem dX9_restore_32 : decode cX9_restore 32 = .ok (.aload_n 0, 1) ∧ 32 + 1 = 33 := ⟨by decide +kernel, rfl⟩
theorem dX9_restore_33 : decode cX9_restore 33 = .ok (.getfield 16, 3) ∧ 33 + 3 = 36 := ⟨by decide +kernel, rfl⟩
theorem dX9_restore_36 : decode cX9_restore 36 = .ok (.iload_n 1, 1) ∧ 36 + 1 = 37 := ⟨by decide +kernel, rfl⟩
theorem dX9_restore_37 : decode cX9_restore 37 = .ok (.iaload, 1) ∧ 37 + 1 = 38 := ⟨by decide +kernel, rfl⟩
theorem dX9_restore_38 : decode cX9_restore 38 = .ok (.iastore, 1) ∧ 38 + 1 = 39 := ⟨by decide +kernel, rfl⟩
theorem dX9_restore_39 : decode cX9_restore 39 = .ok (.iinc 1 1, 3) ∧ 39 + 3 = 42 := ⟨by decide +kernel, rfl⟩
theorem dX9_restore_42 : decode cX9_restore 42 = .ok (.goto (-22), 3) ∧ 42 + 3 = 45 ∧ ((42 : Nat) : Int) + (-22) = ((20 : Nat) : Int) := ⟨by decide +kernel, rfl, rfl⟩
theorem dX9_restore_45 : decode cX9_restore 45 = .ok (.aload_n 0, 1) ∧ 45 + 1 = 46 := ⟨by decide +kernel, rfl⟩
theorem dX9_restore_46 : decode cX9_restore 46 = .ok (.invokevirtual 154, 3) ∧ 46 + 3 = 49 := ⟨by decide +kernel, rfl⟩
theorem dX9_restore_49 : decode cX9_restore 49 = .ok (.ireturn, 1) ∧ 49 + 1 = 50 := ⟨by decide +kernel, rfl⟩
theorem dX9_rowsWithin_0 : decode cX9_rowsWithin 0 = .ok (.iconst 0, 1) ∧ 0 + 1 = 1 := ⟨by decide +kernel, rfl⟩
theorem dX9_rowsWithin_1 : decode cX9_rowsWithin 1 = .ok (.istore_n 2, 1) ∧ 1 + 1 = 2 := ⟨by decide +kernel, rfl⟩
theorem dX9_rowsWithin_2 : decode cX9_rowsWithin 2 = .ok (.iload_n 1, 1) ∧ 2 + 1 = 3 := ⟨by decide +kernel, rfl⟩
theorem dX9_rowsWithin_3 : decode cX9_rowsWithin 3 = .ok (.iconst 1, 1) ∧ 3 + 1 = 4 := ⟨by decide +kernel, rfl⟩
theorem dX9_rowsWithin_4 : decode cX9_rowsWithin 4 = .ok (.iadd, 1) ∧ 4 + 1 = 5 := ⟨by decide +kernel, rfl⟩
theorem dX9_rowsWithin_5 : decode cX9_rowsWithin 5 = .ok (.istore_n 3, 1) ∧ 5 + 1 = 6 := ⟨by decide +kernel, rfl⟩
theorem dX9_rowsWithin_6 : decode cX9_rowsWithin 6 = .ok (.iload_n 3, 1) ∧ 6 + 1 = 7 := ⟨by decide +kernel, rfl⟩
theorem dX9_rowsWithin_7 : decode cX9_rowsWithin 7 = .ok (.aload_n 0, 1) ∧ 7 + 1 = 8 := ⟨by decide +kernel, rfl⟩
theorem dX9_rowsWithin_8 : decode cX9_rowsWithin 8 = .ok (.getfield 7, 3) ∧ 8 + 3 = 11 := ⟨by decide +kernel, rfl⟩
theorem dX9_rowsWithin_11 : decode cX9_rowsWithin 11 = .ok (.iconst 1, 1) ∧ 11 + 1 = 12 := ⟨by decide +kernel, rfl⟩
theorem dX9_rowsWithin_12 : decode cX9_rowsWithin 12 = .ok (.iaload, 1) ∧ 12 + 1 = 13 := ⟨by decide +kernel, rfl⟩
theorem dX9_rowsWithin_13 : decode cX9_rowsWithin 13 = .ok (.if_icmp .ge 40, 3) ∧ 13 + 3 = 16 ∧ ((13 : Nat) : Int) + (40) = ((53 : Nat) : Int) := ⟨by decide +kernel, rfl, rfl⟩
theorem dX9_rowsWithin_16 : decode cX9_rowsWithin 16 = .ok (.aload_n 0, 1) ∧ 16 + 1 = 17 := ⟨by decide +kernel, rfl⟩
theorem dX9_rowsWithin_17 : decode cX9_rowsWithin 17 = .ok (.iload_n 3, 1) ∧ 17 + 1 = 18 := ⟨by decide +kernel, rfl⟩
theorem dX9_rowsWithin_18 : decode cX9_rowsWithin 18 = .ok (.iconst 1, 1) ∧ 18 + 1 = 19 := ⟨by decide +kernel, rfl⟩
theorem dX9_rowsWithin_19 : decode cX9_rowsWithin 19 = .ok (.invokevirtual 77, 3) ∧ 19 + 3 = 22 := ⟨by decide +kernel, rfl⟩
theorem dX9_rowsWithin_22 : decode cX9_rowsWithin 22 = .ok (.aload_n 0, 1) ∧ 22 + 1 = 23 := ⟨by decide +kernel, rfl⟩
theorem dX9_rowsWithin_23 : decode cX9_rowsWithin 23 = .ok (.iload_n 1, 1) ∧ 23 + 1 = 24 := ⟨by decide +kernel, rfl⟩
theorem dX9_rowsWithin_24 : decode cX9_rowsWithin 24 = .ok (.iconst 1, 1) ∧ 24 + 1 = 25 := ⟨by decide +kernel, rfl⟩
theorem dX9_rowsWithin_25 : decode cX9_rowsWithin 25 = .ok (.invokevirtual 77, 3) ∧ 25 + 3 = 28 := ⟨by decide +kernel, rfl⟩
theorem dX9_rowsWithin_28 : decode cX9_rowsWithin 28 = .ok (.if_icmp .le 25, 3) ∧ 28 + 3 = 31 ∧ ((28 : Nat) : Int) + (25) = ((53 : Nat) : Int) := ⟨by decide +kernel, rfl, rfl⟩
theorem dX9_rowsWithin_31 : decode cX9_rowsWithin 31 = .ok (.iload_n 2, 1) ∧ 31 + 1 = 32 := ⟨by decide +kernel, rfl⟩
theorem dX9_rowsWithin_32 : decode cX9_rowsWithin 32 = .ok (.aload_n 0, 1) ∧ 32 + 1 = 33 := ⟨by decide +kernel, rfl⟩
theorem dX9_rowsWithin_33 : decode cX9_rowsWithin 33 = .ok (.iload_n 3, 1) ∧ 33 + 1 = 34 := ⟨by decide +kernel, rfl⟩
theorem dX9_rowsWithin_34 : decode cX9_rowsWithin 34 = .ok (.invokevirtual 80, 3) ∧ 34 + 3 = 37 := ⟨by decide +kernel, rfl⟩
theorem dX9_rowsWithin_37 : decode cX9_rowsWithin 37 = .ok (.ifCond .eq 7, 3) ∧ 37 + 3 = 40 ∧ ((37 : Nat) : Int) + (7) = ((44 : Nat) : Int) := ⟨by decide +kernel, rfl, rfl⟩
theorem dX9_rowsWithin_40 : decode cX9_rowsWithin 40 = .ok (.iconst 1, 1) ∧ 40 + 1 = 41 := ⟨by decide +kernel, rfl⟩
theorem dX9_rowsWithin_41 : decode cX9_rowsWithin 41 = .ok (.goto 4, 3) ∧ 41 + 3 = 44 ∧ ((41 : Nat) : Int) + (4) = ((45 : Nat) : Int) := ⟨by decide +kernel, rfl, rfl⟩
theorem dX9_rowsWithin_44 : decode cX9_rowsWithin 44 = .ok (.iconst 0, 1) ∧ 44 + 1 = 45 := ⟨by decide +kernel, rfl⟩
theorem dX9_rowsWithin_45 : decode cX9_rowsWithin 45 = .ok (.iadd, 1) ∧ 45 + 1 = 46 := ⟨by decide +kernel, rfl⟩
theorem dX9_rowsWithin_46 : decode cX9_rowsWithin 46 = .ok (.istore_n 2, 1) ∧ 46 + 1 = 47 := ⟨by decide +kernel, rfl⟩
theorem dX9_rowsWithin_47 : decode cX9_rowsWithin 47 = .ok (.iinc 3 1, 3) ∧ 47 + 3 = 50 := ⟨by decide +kernel, rfl⟩
theorem dX9_rowsWithin_50 : decode cX9_rowsWithin 50 = .ok (.goto (-44), 3) ∧ 50 + 3 = 53 ∧ ((50 : Nat) : Int) + (-44) = ((6 : Nat) : Int) := ⟨by decide +kernel, rfl, rfl⟩
theorem dX9_rowsWithin_53 : decode cX9_rowsWithin 53 = .ok (.iload_n 2, 1) ∧ 53 + 1 = 54 := ⟨by decide +kernel, rfl⟩
theorem dX9_rowsWithin_54 : decode cX9_rowsWithin 54 = .ok (.ireturn, 1) ∧ 54 + 1 = 55 := ⟨by decide +kernel, rfl⟩
theorem dX9_row_0 : decode cX9_row 0 = .ok (.aload_n 0, 1) ∧ 0 + 1 = 1 := ⟨by decide +kernel, rfl⟩
theorem dX9_row_1 : decode cX9_row 1 = .ok (.iload_n 1, 1) ∧ 1 + 1 = 2 := ⟨by decide +kernel, rfl⟩
theorem dX9_row_2 : decode cX9_row 2 = .ok (.invokevirtual 88, 3) ∧ 2 + 3 = 5 := ⟨by decide +kernel, rfl⟩
theorem dX9_row_5 : decode cX9_row 5 = .ok (.istore_n 3, 1) ∧ 5 + 1 = 6 := ⟨by decide +kernel, rfl⟩
theorem dX9_row_6 : decode cX9_row 6 = .ok (.iload_n 3, 1) ∧ 6 + 1 = 7 := ⟨by decide +kernel, rfl⟩
theorem dX9_row_7 : decode cX9_row 7 = .ok (.bipush (-6), 2) ∧ 7 + 2 = 9 := ⟨by decide +kernel, rfl⟩
theorem dX9_row_9 : decode cX9_row 9 = .ok (.if_icmp .ne 6, 3) ∧ 9 + 3 = 12 ∧ ((9 : Nat) : Int) + (6) = ((15 : Nat) : Int) := ⟨by decide +kernel, rfl, rfl⟩
theorem dX9_row_12 : decode cX9_row 12 = .ok (.bipush (-2), 2) ∧ 12 + 2 = 14 := ⟨by decide +kernel, rfl⟩
theorem dX9_row_14 : decode cX9_row 14 = .ok (.ireturn, 1) ∧ 14 + 1 = 15 := ⟨by decide +kernel, rfl⟩
theorem dX9_row_15 : decode cX9_row 15 = .ok (.aload_n 0, 1) ∧ 15 + 1 = 16 := ⟨by decide +kernel, rfl⟩
theorem dX9_row_16 : decode cX9_row 16 = .ok (.iload_n 3, 1) ∧ 16 + 1 = 17 := ⟨by decide +kernel, rfl⟩
theorem dX9_row_17 : decode cX9_row 17 = .ok (.iconst 0, 1) ∧ 17 + 1 = 18 := ⟨by decide +kernel, rfl⟩
theorem dX9_row_18 : decode cX9_row 18 = .ok (.invokevirtual 77, 3) ∧ 18 + 3 = 21 := ⟨by decide +kernel, rfl⟩
theorem dX9_row_21 : decode cX9_row 21 = .ok (.istore 4, 2) ∧ 21 + 2 = 23 := ⟨by decide +kernel, rfl⟩
theorem dX9_row_23 : decode cX9_row 23 = .ok (.iload_n 2, 1) ∧ 23 + 1 = 24 := ⟨by decide +kernel, rfl⟩
theorem dX9_row_24 : decode cX9_row 24 = .ok (.tableswitch 134 0 8 #[52, 55, 62, 74, 83, 90, 99, 106, 128], 52) ∧ 24 + 52 = 76 := ⟨by decide +kernel, rfl⟩
theorem dX9_row_76 : decode cX9_row 76 = .ok (.iload 4, 2) ∧ 76 + 2 = 78 := ⟨by decide +kernel, rfl⟩
theorem dX9_row_78 : decode cX9_row 78 = .ok (.ireturn, 1) ∧ 78 + 1 = 79 := ⟨by decide +kernel, rfl⟩
theorem dX9_row_79 : decode cX9_row 79 = .ok (.aload_n 0, 1) ∧ 79 + 1 = 80 := ⟨by decide +kernel, rfl⟩
theorem dX9_row_80 : decode cX9_row 80 = .ok (.iload_n 3, 1) ∧ 80 + 1 = 81 := ⟨by decide +kernel, rfl⟩
theorem dX9_row_81 : decode cX9_row 81 = .ok (.iconst 1, 1) ∧ 81 + 1 = 82 := ⟨by decide +kernel, rfl⟩
theorem dX9_row_82 : decode cX9_row 82 = .ok (.invokevirtual 77, 3) ∧ 82 + 3 = 85 := ⟨by decide +kernel, rfl⟩
theorem dX9_row_85 : decode cX9_row 85 = .ok (.ireturn, 1) ∧ 85 + 1 = 86 := ⟨by decide +kernel, rfl⟩
theorem dX9_row_86 : decode cX9_row 86 = .ok (.aload_n 0, 1) ∧ 86 + 1 = 87 := ⟨by decide +kernel, rfl⟩
theorem dX9_row_87 : decode cX9_row 87 = .ok (.aload_n 0, 1) ∧ 87 + 1 = 88 := ⟨by decide +kernel, rfl⟩
theorem dX9_row_88 : decode cX9_row 88 = .ok (.iload_n 3, 1) ∧ 88 + 1 = 89 := ⟨by decide +kernel, rfl⟩
theorem dX9_row_89 : decode cX9_row 89 = .ok (.invokevirtual 142, 3) ∧ 89 + 3 = 92 := ⟨by decide +kernel, rfl⟩
theorem dX9_row_92 : decode cX9_row 92 = .ok (.iload 4, 2) ∧ 92 + 2 = 94 := ⟨by decide +kernel, rfl⟩
theorem dX9_row_94 : decode cX9_row 94 = .ok (.invokevirtual 132, 3) ∧ 94 + 3 = 97 := ⟨by decide +kernel, rfl⟩
theorem dX9_row_97 : decode cX9_row 97 = .ok (.ireturn, 1) ∧ 97 + 1 = 98 := ⟨by decide +kernel, rfl⟩
theorem dX9_row_98 : decode cX9_row 98 = .ok (.aload_n 0, 1) ∧ 98 + 1 = 99 := ⟨by decide +kernel, rfl⟩
theorem dX9_row_99 : decode cX9_row 99 = .ok (.iload 4, 2) ∧ 99 + 2 = 101 := ⟨by decide +kernel, rfl⟩
theorem dX9_row_101 : decode cX9_row 101 = .ok (.bipush 11, 2) ∧ 101 + 2 = 103 := ⟨by decide +kernel, rfl⟩
theorem dX9_row_103 : decode cX9_row 103 = .ok (.invokevirtual 64, 3) ∧ 103 + 3 = 106 := ⟨by decide +kernel, rfl⟩
theorem dX9_row_106 : decode cX9_row 106 = .ok (.ireturn, 1) ∧ 106 + 1 = 107 := ⟨by decide +kernel, rfl⟩
theorem dX9_row_107 : decode cX9_row 107 = .ok (.aload_n 0, 1) ∧ 107 + 1 = 108 := ⟨by decide +kernel, rfl⟩
theorem dX9_row_108 : decode cX9_row 108 = .ok (.iload_n 3, 1) ∧ 108 + 1 = 109 := ⟨by decide +kernel, rfl⟩
theorem dX9_row_109 : decode cX9_row 109 = .ok (.iconst 2, 1) ∧ 109 + 1 = 110 := ⟨by decide +kernel, rfl⟩
theorem dX9_row_110 : decode cX9_row 110 = .ok (.invokevirtual 77, 3) ∧ 110 + 3 = 113 := ⟨by decide +kernel, rfl⟩
theorem dX9_row_113 : decode cX9_row 113 = .ok (.ireturn, 1) ∧ 113 + 1 = 114 := ⟨by decide +kernel, rfl⟩
theorem dX9_row_114 : decode cX9_row 114 = .ok (.aload_n 0, 1) ∧ 114 + 1 = 115 := ⟨by decide +kernel, rfl⟩
theorem dX9_row_115 : decode cX9_row 115 = .ok (.iload 4, 2) ∧ 115 + 2 = 117 := ⟨by decide +kernel, rfl⟩
theorem dX9_row_117 : decode cX9_row 117 = .ok (.bipush 10, 2) ∧ 117 + 2 = 119 := ⟨by decide +kernel, rfl⟩
theorem dX9_row_119 : decode cX9_row 119 = .ok (.invokevirtual 64, 3) ∧ 119 + 3 = 122 := ⟨by decide +kernel, rfl⟩
theorem dX9_row_122 : decode cX9_row 122 = .ok (.ireturn, 1) ∧ 122 + 1 = 123 := ⟨by decide +kernel, rfl⟩
theorem dX9_row_123 : decode cX9_row 123 = .ok (.aload_n 0, 1) ∧ 123 + 1 = 124 := ⟨by decide +kernel, rfl⟩
theorem dX9_row_124 : decode cX9_row 124 = .ok (.iload 4, 2) ∧ 124 + 2 = 126 := ⟨by decide +kernel, rfl⟩
theorem dX9_row_126 : decode cX9_row 126 = .ok (.invokevirtual 139, 3) ∧ 126 + 3 = 129 := ⟨by decide +kernel, rfl⟩
theorem dX9_row_129 : decode cX9_row 129 = .ok (.ireturn, 1) ∧ 129 + 1 = 130 := ⟨by decide +kernel, rfl⟩
theorem dX9_row_130 : decode cX9_row 130 = .ok (.aload_n 0, 1) ∧ 130 + 1 = 131 := ⟨by decide +kernel, rfl⟩
theorem dX9_row_131 : decode cX9_row 131 = .ok (.iload_n 3, 1) ∧ 131 + 1 = 132 := ⟨by decide +kernel, rfl⟩
theorem dX9_row_132 : decode cX9_row 132 = .ok (.invokevirtual 84, 3) ∧ 132 + 3 = 135 := ⟨by decide +kernel, rfl⟩
theorem dX9_row_135 : decode cX9_row 135 = .ok (.ifCond .ge 7, 3) ∧ 135 + 3 = 138 ∧ ((135 : Nat) : Int) + (7) = ((142 : Nat) : Int) := ⟨by decide +kernel, rfl, rfl⟩
theorem dX9_row_138 : decode cX9_row 138 = .ok (.iconst (-1), 1) ∧ 138 + 1 = 139 := ⟨by decide +kernel, rfl⟩
theorem dX9_row_139 : decode cX9_row 139 = .ok (.goto 12, 3) ∧ 139 + 3 = 142 ∧ ((139 : Nat) : Int) + (12) = ((151 : Nat) : Int) := ⟨by decide +kernel, rfl, rfl⟩
theorem dX9_row_142 : decode cX9_row 142 = .ok (.aload_n 0, 1) ∧ 142 + 1 = 143 := ⟨by decide +kernel, rfl⟩
theorem dX9_row_143 : decode cX9_row 143 = .ok (.aload_n 0, 1) ∧ 143 + 1 = 144 := ⟨by decide +kernel, rfl⟩
theorem dX9_row_144 : decode cX9_row 144 = .ok (.iload_n 3, 1) ∧ 144 + 1 = 145 := ⟨by decide +kernel, rfl⟩
theorem dX9_row_145 : decode cX9_row 145 = .ok (.invokevirtual 84, 3) ∧ 145 + 3 = 148 := ⟨by decide +kernel, rfl⟩
theorem dX9_row_148 : decode cX9_row 148 = .ok (.invokevirtual 164, 3) ∧ 148 + 3 = 151 := ⟨by decide +kernel, rfl⟩
theorem dX9_row_151 : decode cX9_row 151 = .ok (.ireturn, 1) ∧ 151 + 1 = 152 := ⟨by decide +kernel, rfl⟩
theorem dX9_row_152 : decode cX9_row 152 = .ok (.aload_n 0, 1) ∧ 152 + 1 = 153 := ⟨by decide +kernel, rfl⟩
theorem dX9_row_153 : decode cX9_row 153 = .ok (.iload_n 3, 1) ∧ 153 + 1 = 154 := ⟨by decide +kernel, rfl⟩
theorem dX9_row_154 : decode cX9_row 154 = .ok (.invokevirtual 183, 3) ∧ 154 + 3 = 157 := ⟨by decide +kernel, rfl⟩
theorem dX9_row_157 : decode cX9_row 157 = .ok (.ireturn, 1) ∧ 157 + 1 = 158 := ⟨by decide +kernel, rfl⟩
theorem dX9_row_158 : decode cX9_row 158 = .ok (.bipush (-3), 2) ∧ 158 + 2 = 160 := ⟨by decide +kernel, rfl⟩
theorem dX9_row_160 : decode cX9_row 160 = .ok (.ireturn, 1) ∧ 160 + 1 = 161 := ⟨by decide +kernel, rfl⟩
theorem dX9_number_0 : decode cX9_number 0 = .ok (.aload_n 0, 1) ∧ 0 + 1 = 1 := ⟨by decide +kernel, rfl⟩
theorem dX9_number_1 : decode cX9_number 1 = .ok (.iload_n 1, 1) ∧ 1 + 1 = 2 := ⟨by decide +kernel, rfl⟩
theorem dX9_number_2 : decode cX9_number 2 = .ok (.invokevirtual 88, 3) ∧ 2 + 3 = 5 := ⟨by decide +kernel, rfl⟩
theorem dX9_number_5 : decode cX9_number 5 = .ok (.istore_n 3, 1) ∧ 5 + 1 = 6 := ⟨by decide +kernel, rfl⟩
theorem dX9_number_6 : decode cX9_number 6 = .ok (.iload_n 3, 1) ∧ 6 + 1 = 7 := ⟨by decide +kernel, rfl⟩
theorem dX9_number_7 : decode cX9_number 7 = .ok (.bipush (-6), 2) ∧ 7 + 2 = 9 := ⟨by decide +kernel, rfl⟩
theorem dX9_number_9 : decode cX9_number 9 = .ok (.if_icmp .ne 6, 3) ∧ 9 + 3 = 12 ∧ ((9 : Nat) : Int) + (6) = ((15 : Nat) : Int) := ⟨by decide +kernel, rfl, rfl⟩
theorem dX9_number_12 : decode cX9_number 12 = .ok (.bipush (-2), 2) ∧ 12 + 2 = 14 := ⟨by decide +kernel, rfl⟩
theorem dX9_number_14 : decode cX9_number 14 = .ok (.ireturn, 1) ∧ 14 + 1 = 15 := ⟨by decide +kernel, rfl⟩
theorem dX9_number_15 : decode cX9_number 15 = .ok (.iload_n 2, 1) ∧ 15 + 1 = 16 := ⟨by decide +kernel, rfl⟩
theorem dX9_number_16 : decode cX9_number 16 = .ok (.iconst 1, 1) ∧ 16 + 1 = 17 := ⟨by decide +kernel, rfl⟩
theorem dX9_number_17 : decode cX9_number 17 = .ok (.if_icmp .ge 6, 3) ∧ 17 + 3 = 20 ∧ ((17 : Nat) : Int) + (6) = ((23 : Nat) : Int) := ⟨by decide +kernel, rfl, rfl⟩
theorem dX9_number_20 : decode cX9_number 20 = .ok (.bipush (-3), 2) ∧ 20 + 2 = 22 := ⟨by decide +kernel, rfl⟩
theorem dX9_number_22 : decode cX9_number 22 = .ok (.ireturn, 1) ∧ 22 + 1 = 23 := ⟨by decide +kernel, rfl⟩
theorem dX9_number_23 : decode cX9_number 23 = .ok (.iload_n 2, 1) ∧ 23 + 1 = 24 := ⟨by decide +kernel, rfl⟩
theorem dX9_number_24 : decode cX9_number 24 = .ok (.aload_n 0, 1) ∧ 24 + 1 = 25 := ⟨by decide +kernel, rfl⟩
theorem dX9_number_25 : decode cX9_number 25 = .ok (.iload_n 3, 1) ∧ 25 + 1 = 26 := ⟨by decide +kernel, rfl⟩
theorem dX9_number_26 : decode cX9_number 26 = .ok (.iconst 1, 1) ∧ 26 + 1 = 27 := ⟨by decide +kernel, rfl⟩
theorem dX9_number_27 : decode cX9_number 27 = .ok (.invokevirtual 77, 3) ∧ 27 + 3 = 30 := ⟨by decide +kernel, rfl⟩
theorem dX9_number_30 : decode cX9_number 30 = .ok (.if_icmp .le 6, 3) ∧ 30 + 3 = 33 ∧ ((30 : Nat) : Int) + (6) = ((36 : Nat) : Int) := ⟨by decide +kernel, rfl, rfl⟩
theorem dX9_number_33 : decode cX9_number 33 = .ok (.bipush (-6), 2) ∧ 33 + 2 = 35 := ⟨by decide +kernel, rfl⟩
theorem dX9_number_35 : decode cX9_number 35 = .ok (.ireturn, 1) ∧ 35 + 1 = 36 := ⟨by decide +kernel, rfl⟩
theorem dX9_number_36 : decode cX9_number 36 = .ok (.aload_n 0, 1) ∧ 36 + 1 = 37 := ⟨by decide +kernel, rfl⟩
theorem dX9_number_37 : decode cX9_number 37 = .ok (.iload_n 3, 1) ∧ 37 + 1 = 38 := ⟨by decide +kernel, rfl⟩
theorem dX9_number_38 : decode cX9_number 38 = .ok (.iconst 1, 1) ∧ 38 + 1 = 39 := ⟨by decide +kernel, rfl⟩
theorem dX9_number_39 : decode cX9_number 39 = .ok (.invokevirtual 77, 3) ∧ 39 + 3 = 42 := ⟨by decide +kernel, rfl⟩
theorem dX9_number_42 : decode cX9_number 42 = .ok (.iload_n 2, 1) ∧ 42 + 1 = 43 := ⟨by decide +kernel, rfl⟩
theorem dX9_number_43 : decode cX9_number 43 = .ok (.if_icmp .le 12, 3) ∧ 43 + 3 = 46 ∧ ((43 : Nat) : Int) + (12) = ((55 : Nat) : Int) := ⟨by decide +kernel, rfl, rfl⟩
theorem dX9_number_46 : decode cX9_number 46 = .ok (.aload_n 0, 1) ∧ 46 + 1 = 47 := ⟨by decide +kernel, rfl⟩
theorem dX9_number_47 : decode cX9_number 47 = .ok (.iload_n 3, 1) ∧ 47 + 1 = 48 := ⟨by decide +kernel, rfl⟩
theorem dX9_number_48 : decode cX9_number 48 = .ok (.invokevirtual 84, 3) ∧ 48 + 3 = 51 := ⟨by decide +kernel, rfl⟩
theorem dX9_number_51 : decode cX9_number 51 = .ok (.istore_n 3, 1) ∧ 51 + 1 = 52 := ⟨by decide +kernel, rfl⟩
theorem dX9_number_52 : decode cX9_number 52 = .ok (.goto (-16), 3) ∧ 52 + 3 = 55 ∧ ((52 : Nat) : Int) + (-16) = ((36 : Nat) : Int) := ⟨by decide +kernel, rfl, rfl⟩
theorem dX9_number_55 : decode cX9_number 55 = .ok (.aload_n 0, 1) ∧ 55 + 1 = 56 := ⟨by decide +kernel, rfl⟩
theorem dX9_number_56 : decode cX9_number 56 = .ok (.aload_n 0, 1) ∧ 56 + 1 = 57 := ⟨by decide +kernel, rfl⟩
theorem dX9_number_57 : decode cX9_number 57 = .ok (.iload_n 3, 1) ∧ 57 + 1 = 58 := ⟨by decide +kernel, rfl⟩
theorem dX9_number_58 : decode cX9_number 58 = .ok (.invokevirtual 142, 3) ∧ 58 + 3 = 61 := ⟨by decide +kernel, rfl⟩
theorem dX9_number_61 : decode cX9_number 61 = .ok (.aload_n 0, 1) ∧ 61 + 1 = 62 := ⟨by decide +kernel, rfl⟩
theorem dX9_number_62 : decode cX9_number 62 = .ok (.iload_n 3, 1) ∧ 62 + 1 = 63 := ⟨by decide +kernel, rfl⟩
theorem dX9_number_63 : decode cX9_number 63 = .ok (.iconst 0, 1) ∧ 63 + 1 = 64 := ⟨by decide +kernel, rfl⟩
theorem dX9_number_64 : decode cX9_number 64 = .ok (.invokevirtual 77, 3) ∧ 64 + 3 = 67 := ⟨by decide +kernel, rfl⟩
theorem dX9_number_67 : decode cX9_number 67 = .ok (.invokevirtual 132, 3) ∧ 67 + 3 = 70 := ⟨by decide +kernel, rfl⟩
theorem dX9_number_70 : decode cX9_number 70 = .ok (.iconst 1, 1) ∧ 70 + 1 = 71 := ⟨by decide +kernel, rfl⟩
theorem dX9_number_71 : decode cX9_number 71 = .ok (.iadd, 1) ∧ 71 + 1 = 72 := ⟨by decide +kernel, rfl⟩
theorem dX9_number_72 : decode cX9_number 72 = .ok (.ireturn, 1) ∧ 72 + 1 = 73 := ⟨by decide +kernel, rfl⟩
theorem dX9_charAt_0 : decode cX9_charAt 0 = .ok (.aload_n 0, 1) ∧ 0 + 1 = 1 := ⟨by decide +kernel, rfl⟩
theorem dX9_charAt_1 : decode cX9_charAt 1 = .ok (.iload_n 1, 1) ∧ 1 + 1 = 2 := ⟨by decide +kernel, rfl⟩
theorem dX9_charAt_2 : decode cX9_charAt 2 = .ok (.invokevirtual 88, 3) ∧ 2 + 3 = 5 := ⟨by decide +kernel, rfl⟩
theorem dX9_charAt_5 : decode cX9_charAt 5 = .ok (.istore_n 3, 1) ∧ 5 + 1 = 6 := ⟨by decide +kernel, rfl⟩
theorem dX9_charAt_6 : decode cX9_charAt 6 = .ok (.iload_n 3, 1) ∧ 6 + 1 = 7 := ⟨by decide +kernel, rfl⟩
theorem dX9_charAt_7 : decode cX9_charAt 7 = .ok (.bipush (-6), 2) ∧ 7 + 2 = 9 := ⟨by decide +kernel, rfl⟩
theorem dX9_charAt_9 : decode cX9_charAt 9 = .ok (.if_icmp .ne 6, 3) ∧ 9 + 3 = 12 ∧ ((9 : Nat) : Int) + (6) = ((15 : Nat) : Int) := ⟨by decide +kernel, rfl, rfl⟩
theorem dX9_charAt_12 : decode cX9_charAt 12 = .ok (.bipush (-2), 2) ∧ 12 + 2 = 14 := ⟨by decide +kernel, rfl⟩
theorem dX9_charAt_14 : decode cX9_charAt 14 = .ok (.ireturn, 1) ∧ 14 + 1 = 15 := ⟨by decide +kernel, rfl⟩
theorem dX9_charAt_15 : decode cX9_charAt 15 = .ok (.iload_n 2, 1) ∧ 15 + 1 = 16 := ⟨by decide +kernel, rfl⟩
theorem dX9_charAt_16 : decode cX9_charAt 16 = .ok (.ifCond .ge 6, 3) ∧ 16 + 3 = 19 ∧ ((16 : Nat) : Int) + (6) = ((22 : Nat) : Int) := ⟨by decide +kernel, rfl, rfl⟩
theorem dX9_charAt_19 : decode cX9_charAt 19 = .ok (.bipush (-3), 2) ∧ 19 + 2 = 21 := ⟨by decide +kernel, rfl⟩
theorem dX9_charAt_21 : decode cX9_charAt 21 = .ok (.ireturn, 1) ∧ 21 + 1 = 22 := ⟨by decide +kernel, rfl⟩
theorem dX9_charAt_22 : decode cX9_charAt 22 = .ok (.aload_n 0, 1) ∧ 22 + 1 = 23 := ⟨by decide +kernel, rfl⟩
theorem dX9_charAt_23 : decode cX9_charAt 23 = .ok (.iload_n 3, 1) ∧ 23 + 1 = 24 := ⟨by decide +kernel, rfl⟩
theorem dX9_charAt_24 : decode cX9_charAt 24 = .ok (.iconst 0, 1) ∧ 24 + 1 = 25 := ⟨by decide +kernel, rfl⟩
theorem dX9_charAt_25 : decode cX9_charAt 25 = .ok (.invokevirtual 77, 3) ∧ 25 + 3 = 28 := ⟨by decide +kernel, rfl⟩
theorem dX9_charAt_28 : decode cX9_charAt 28 = .ok (.istore 4, 2) ∧ 28 + 2 = 30 := ⟨by decide +kernel, rfl⟩
theorem dX9_charAt_30 : decode cX9_charAt 30 = .ok (.iload_n 2, 1) ∧ 30 + 1 = 31 := ⟨by decide +kernel, rfl⟩
theorem dX9_charAt_31 : decode cX9_charAt 31 = .ok (.aload_n 0, 1) ∧ 31 + 1 = 32 := ⟨by decide +kernel, rfl⟩
theorem dX9_charAt_32 : decode cX9_charAt 32 = .ok (.iload 4, 2) ∧ 32 + 2 = 34 := ⟨by decide +kernel, rfl⟩
theorem dX9_charAt_34 : decode cX9_charAt 34 = .ok (.iconst 1, 1) ∧ 34 + 1 = 35 := ⟨by decide +kernel, rfl⟩
theorem dX9_charAt_35 : decode cX9_charAt 35 = .ok (.invokevirtual 64, 3) ∧ 35 + 3 = 38 := ⟨by decide +kernel, rfl⟩
theorem dX9_charAt_38 : decode cX9_charAt 38 = .ok (.if_icmp .ge 15, 3) ∧ 38 + 3 = 41 ∧ ((38 : Nat) : Int) + (15) = ((53 : Nat) : Int) := ⟨by decide +kernel, rfl, rfl⟩
theorem dX9_charAt_41 : decode cX9_charAt 41 = .ok (.aload_n 0, 1) ∧ 41 + 1 = 42 := ⟨by decide +kernel, rfl⟩
theorem dX9_charAt_42 : decode cX9_charAt 42 = .ok (.iload 4, 2) ∧ 42 + 2 = 44 := ⟨by decide +kernel, rfl⟩
theorem dX9_charAt_44 : decode cX9_charAt 44 = .ok (.iconst 2, 1) ∧ 44 + 1 = 45 := ⟨by decide +kernel, rfl⟩
theorem dX9_charAt_45 : decode cX9_charAt 45 = .ok (.iload_n 2, 1) ∧ 45 + 1 = 46 := ⟨by decide +kernel, rfl⟩
theorem dX9_charAt_46 : decode cX9_charAt 46 = .ok (.iadd, 1) ∧ 46 + 1 = 47 := ⟨by decide +kernel, rfl⟩
theorem dX9_charAt_47 : decode cX9_charAt 47 = .ok (.invokevirtual 64, 3) ∧ 47 + 3 = 50 := ⟨by decide +kernel, rfl⟩
theorem dX9_charAt_50 : decode cX9_charAt 50 = .ok (.goto 5, 3) ∧ 50 + 3 = 53 ∧ ((50 : Nat) : Int) + (5) = ((55 : Nat) : Int) := ⟨by decide +kernel, rfl, rfl⟩
theorem dX9_charAt_53 : decode cX9_charAt 53 = .ok (.bipush (-6), 2) ∧ 53 + 2 = 55 := ⟨by decide +kernel, rfl⟩
theorem dX9_charAt_55 : decode cX9_charAt 55 = .ok (.ireturn, 1) ∧ 55 + 1 = 56 := ⟨by decide +kernel, rfl⟩
theorem dX9_parents_0 : decode cX9_parents 0 = .ok (.iconst 0, 1) ∧ 0 + 1 = 1 := ⟨by decide +kernel, rfl⟩
theorem dX9_parents_1 : decode cX9_parents 1 = .ok (.istore_n 2, 1) ∧ 1 + 1 = 2 := ⟨by decide +kernel, rfl⟩
theorem dX9_parents_2 : decode cX9_parents 2 = .ok (.iconst 0, 1) ∧ 2 + 1 = 3 := ⟨by decide +kernel, rfl⟩
theorem dX9_parents_3 : decode cX9_parents 3 = .ok (.istore_n 3, 1) ∧ 3 + 1 = 4 := ⟨by decide +kernel, rfl⟩
theorem dX9_parents_4 : decode cX9_parents 4 = .ok (.iload_n 3, 1) ∧ 4 + 1 = 5 := ⟨by decide +kernel, rfl⟩
theorem dX9_parents_5 : decode cX9_parents 5 = .ok (.aload_n 0, 1) ∧ 5 + 1 = 6 := ⟨by decide +kernel, rfl⟩
theorem dX9_parents_6 : decode cX9_parents 6 = .ok (.getfield 7, 3) ∧ 6 + 3 = 9 := ⟨by decide +kernel, rfl⟩
theorem dX9_parents_9 : decode cX9_parents 9 = .ok (.iconst 0, 1) ∧ 9 + 1 = 10 := ⟨by decide +kernel, rfl⟩
theorem dX9_parents_10 : decode cX9_parents 10 = .ok (.iaload, 1) ∧ 10 + 1 = 11 := ⟨by decide +kernel, rfl⟩
theorem dX9_parents_11 : decode cX9_parents 11 = .ok (.if_icmp .gt 38, 3) ∧ 11 + 3 = 14 ∧ ((11 : Nat) : Int) + (38) = ((49 : Nat) : Int) := ⟨by decide +kernel, rfl, rfl⟩
theorem dX9_parents_14 : decode cX9_parents 14 = .ok (.iload_n 2, 1) ∧ 14 + 1 = 15 := ⟨by decide +kernel, rfl⟩
theorem dX9_parents_15 : decode cX9_parents 15 = .ok (.aload_n 0, 1) ∧ 15 + 1 = 16 := ⟨by decide +kernel, rfl⟩
theorem dX9_parents_16 : decode cX9_parents 16 = .ok (.iload_n 3, 1) ∧ 16 + 1 = 17 := ⟨by decide +kernel, rfl⟩
theorem dX9_parents_17 : decode cX9_parents 17 = .ok (.iconst 0, 1) ∧ 17 + 1 = 18 := ⟨by decide +kernel, rfl⟩
theorem dX9_parents_18 : decode cX9_parents 18 = .ok (.invokevirtual 64, 3) ∧ 18 + 3 = 21 := ⟨by decide +kernel, rfl⟩
theorem dX9_parents_21 : decode cX9_parents 21 = .ok (.iconst 1, 1) ∧ 21 + 1 = 22 := ⟨by decide +kernel, rfl⟩
theorem dX9_parents_22 : decode cX9_parents 22 = .ok (.if_icmp .ne 18, 3) ∧ 22 + 3 = 25 ∧ ((22 : Nat) : Int) + (18) = ((40 : Nat) : Int) := ⟨by decide +kernel, rfl, rfl⟩
theorem dX9_parents_25 : decode cX9_parents 25 = .ok (.aload_n 0, 1) ∧ 25 + 1 = 26 := ⟨by decide +kernel, rfl⟩
theorem dX9_parents_26 : decode cX9_parents 26 = .ok (.iload_n 3, 1) ∧ 26 + 1 = 27 := ⟨by decide +kernel, rfl⟩
theorem dX9_parents_27 : decode cX9_parents 27 = .ok (.iload_n 1, 1) ∧ 27 + 1 = 28 := ⟨by decide +kernel, rfl⟩
theorem dX9_parents_28 : decode cX9_parents 28 = .ok (.invokevirtual 132, 3) ∧ 28 + 3 = 31 := ⟨by decide +kernel, rfl⟩
theorem dX9_parents_31 : decode cX9_parents 31 = .ok (.bipush (-6), 2) ∧ 31 + 2 = 33 := ⟨by decide +kernel, rfl⟩
theorem dX9_parents_33 : decode cX9_parents 33 = .ok (.if_icmp .eq 7, 3) ∧ 33 + 3 = 36 ∧ ((33 : Nat) : Int) + (7) = ((40 : Nat) : Int) := ⟨by decide +kernel, rfl, rfl⟩
theorem dX9_parents_36 : decode cX9_parents 36 = .ok (.iconst 1, 1) ∧ 36 + 1 = 37 := ⟨by decide +kernel, rfl⟩
theorem dX9_parents_37 : decode cX9_parents 37 = .ok (.goto 4, 3) ∧ 37 + 3 = 40 ∧ ((37 : Nat) : Int) + (4) = ((41 : Nat) : Int) := ⟨by decide +kernel, rfl, rfl⟩
theorem dX9_parents_40 : decode cX9_parents 40 = .ok (.iconst 0, 1) ∧ 40 + 1 = 41 := ⟨by decide +kernel, rfl⟩
theorem dX9_parents_41 : decode cX9_parents 41 = .ok (.iadd, 1) ∧ 41 + 1 = 42 := ⟨by decide +kernel, rfl⟩
theorem dX9_parents_42 : decode cX9_parents 42 = .ok (.istore_n 2, 1) ∧ 42 + 1 = 43 := ⟨by decide +kernel, rfl⟩
theorem dX9_parents_43 : decode cX9_parents 43 = .ok (.iinc 3 1, 3) ∧ 43 + 3 = 46 := ⟨by decide +kernel, rfl⟩
theorem dX9_parents_46 : decode cX9_parents 46 = .ok (.goto (-42), 3) ∧ 46 + 3 = 49 ∧ ((46 : Nat) : Int) + (-42) = ((4 : Nat) : Int) := ⟨by decide +kernel, rfl, rfl⟩
theorem dX9_parents_49 : decode cX9_parents 49 = .ok (.iload_n 2, 1) ∧ 49 + 1 = 50 := ⟨by decide +kernel, rfl⟩
theorem dX9_parents_50 : decode cX9_parents 50 = .ok (.ireturn, 1) ∧ 50 + 1 = 51 := ⟨by decide +kernel, rfl⟩
theorem dX9_seenPlaces_0 : decode cX9_seenPlaces 0 = .ok (.iconst 0, 1) ∧ 0 + 1 = 1 := ⟨by decide +kernel, rfl⟩
theorem dX9_seenPlaces_1 : decode cX9_seenPlaces 1 = .ok (.istore_n 2, 1) ∧ 1 + 1 = 2 := ⟨by decide +kernel, rfl⟩
theorem dX9_seenPlaces_2 : decode cX9_seenPlaces 2 = .ok (.iconst 0, 1) ∧ 2 + 1 = 3 := ⟨by decide +kernel, rfl⟩
theorem dX9_seenPlaces_3 : decode cX9_seenPlaces 3 = .ok (.istore_n 3, 1) ∧ 3 + 1 = 4 := ⟨by decide +kernel, rfl⟩
theorem dX9_seenPlaces_4 : decode cX9_seenPlaces 4 = .ok (.iload_n 3, 1) ∧ 4 + 1 = 5 := ⟨by decide +kernel, rfl⟩
theorem dX9_seenPlaces_5 : decode cX9_seenPlaces 5 = .ok (.aload_n 0, 1) ∧ 5 + 1 = 6 := ⟨by decide +kernel, rfl⟩
theorem dX9_seenPlaces_6 : decode cX9_seenPlaces 6 = .ok (.getfield 7, 3) ∧ 6 + 3 = 9 := ⟨by decide +kernel, rfl⟩
theorem dX9_seenPlaces_9 : decode cX9_seenPlaces 9 = .ok (.iconst 1, 1) ∧ 9 + 1 = 10 := ⟨by decide +kernel, rfl⟩
theorem dX9_seenPlaces_10 : decode cX9_seenPlaces 10 = .ok (.iaload, 1) ∧ 10 + 1 = 11 := ⟨by decide +kernel, rfl⟩
theorem dX9_seenPlaces_11 : decode cX9_seenPlaces 11 = .ok (.if_icmp .ge 35, 3) ∧ 11 + 3 = 14 ∧ ((11 : Nat) : Int) + (35) = ((46 : Nat) : Int) := ⟨by decide +kernel, rfl, rfl⟩
theorem dX9_seenPlaces_14 : decode cX9_seenPlaces 14 = .ok (.iload_n 2, 1) ∧ 14 + 1 = 15 := ⟨by decide +kernel, rfl⟩
theorem dX9_seenPlaces_15 : decode cX9_seenPlaces 15 = .ok (.aload_n 0, 1) ∧ 15 + 1 = 16 := ⟨by decide +kernel, rfl⟩
theorem dX9_seenPlaces_16 : decode cX9_seenPlaces 16 = .ok (.iload_n 3, 1) ∧ 16 + 1 = 17 := ⟨by decide +kernel, rfl⟩
theorem dX9_seenPlaces_17 : decode cX9_seenPlaces 17 = .ok (.iconst 0, 1) ∧ 17 + 1 = 18 := ⟨by decide +kernel, rfl⟩
theorem dX9_seenPlaces_18 : decode cX9_seenPlaces 18 = .ok (.invokevirtual 77, 3) ∧ 18 + 3 = 21 := ⟨by decide +kernel, rfl⟩
theorem dX9_seenPlaces_21 : decode cX9_seenPlaces 21 = .ok (.iload_n 1, 1) ∧ 21 + 1 = 22 := ⟨by decide +kernel, rfl⟩
theorem dX9_seenPlaces_22 : decode cX9_seenPlaces 22 = .ok (.if_icmp .ne 15, 3) ∧ 22 + 3 = 25 ∧ ((22 : Nat) : Int) + (15) = ((37 : Nat) : Int) := ⟨by decide +kernel, rfl, rfl⟩
theorem dX9_seenPlaces_25 : decode cX9_seenPlaces 25 = .ok (.aload_n 0, 1) ∧ 25 + 1 = 26 := ⟨by decide +kernel, rfl⟩
theorem dX9_seenPlaces_26 : decode cX9_seenPlaces 26 = .ok (.iload_n 3, 1) ∧ 26 + 1 = 27 := ⟨by decide +kernel, rfl⟩
theorem dX9_seenPlaces_27 : decode cX9_seenPlaces 27 = .ok (.invokevirtual 80, 3) ∧ 27 + 3 = 30 := ⟨by decide +kernel, rfl⟩
theorem dX9_seenPlaces_30 : decode cX9_seenPlaces 30 = .ok (.ifCond .eq 7, 3) ∧ 30 + 3 = 33 ∧ ((30 : Nat) : Int) + (7) = ((37 : Nat) : Int) := ⟨by decide +kernel, rfl, rfl⟩
theorem dX9_seenPlaces_33 : decode cX9_seenPlaces 33 = .ok (.iconst 1, 1) ∧ 33 + 1 = 34 := ⟨by decide +kernel, rfl⟩
theorem dX9_seenPlaces_34 : decode cX9_seenPlaces 34 = .ok (.goto 4, 3) ∧ 34 + 3 = 37 ∧ ((34 : Nat) : Int) + (4) = ((38 : Nat) : Int) := ⟨by decide +kernel, rfl, rfl⟩
theorem dX9_seenPlaces_37 : decode cX9_seenPlaces 37 = .ok (.iconst 0, 1) ∧ 37 + 1 = 38 := ⟨by decide +kernel, rfl⟩
theorem dX9_seenPlaces_38 : decode cX9_seenPlaces 38 = .ok (.iadd, 1) ∧ 38 + 1 = 39 := ⟨by decide +kernel, rfl⟩
theorem dX9_seenPlaces_39 : decode cX9_seenPlaces 39 = .ok (.istore_n 2, 1) ∧ 39 + 1 = 40 := ⟨by decide +kernel, rfl⟩
theorem dX9_seenPlaces_40 : decode cX9_seenPlaces 40 = .ok (.iinc 3 1, 3) ∧ 40 + 3 = 43 := ⟨by decide +kernel, rfl⟩
theorem dX9_seenPlaces_43 : decode cX9_seenPlaces 43 = .ok (.goto (-39), 3) ∧ 43 + 3 = 46 ∧ ((43 : Nat) : Int) + (-39) = ((4 : Nat) : Int) := ⟨by decide +kernel, rfl, rfl⟩
theorem dX9_seenPlaces_46 : decode cX9_seenPlaces 46 = .ok (.iload_n 2, 1) ∧ 46 + 1 = 47 := ⟨by decide +kernel, rfl⟩
theorem dX9_seenPlaces_47 : decode cX9_seenPlaces 47 = .ok (.ireturn, 1) ∧ 47 + 1 = 48 := ⟨by decide +kernel, rfl⟩
theorem dX9_firstRow_0 : decode cX9_firstRow 0 = .ok (.iconst 0, 1) ∧ 0 + 1 = 1 := ⟨by decide +kernel, rfl⟩
theorem dX9_firstRow_1 : decode cX9_firstRow 1 = .ok (.istore_n 2, 1) ∧ 1 + 1 = 2 := ⟨by decide +kernel, rfl⟩
theorem dX9_firstRow_2 : decode cX9_firstRow 2 = .ok (.iload_n 2, 1) ∧ 2 + 1 = 3 := ⟨by decide +kernel, rfl⟩
theorem dX9_firstRow_3 : decode cX9_firstRow 3 = .ok (.aload_n 0, 1) ∧ 3 + 1 = 4 := ⟨by decide +kernel, rfl⟩
theorem dX9_firstRow_4 : decode cX9_firstRow 4 = .ok (.getfield 7, 3) ∧ 4 + 3 = 7 := ⟨by decide +kernel, rfl⟩
theorem dX9_firstRow_7 : decode cX9_firstRow 7 = .ok (.iconst 1, 1) ∧ 7 + 1 = 8 := ⟨by decide +kernel, rfl⟩
theorem dX9_firstRow_8 : decode cX9_firstRow 8 = .ok (.iaload, 1) ∧ 8 + 1 = 9 := ⟨by decide +kernel, rfl⟩
theorem dX9_firstRow_9 : decode cX9_firstRow 9 = .ok (.if_icmp .ge 33, 3) ∧ 9 + 3 = 12 ∧ ((9 : Nat) : Int) + (33) = ((42 : Nat) : Int) := ⟨by decide +kernel, rfl, rfl⟩
theorem dX9_firstRow_12 : decode cX9_firstRow 12 = .ok (.aload_n 0, 1) ∧ 12 + 1 = 13 := ⟨by decide +kernel, rfl⟩
theorem dX9_firstRow_13 : decode cX9_firstRow 13 = .ok (.iload_n 2, 1) ∧ 13 + 1 = 14 := ⟨by decide +kernel, rfl⟩
theorem dX9_firstRow_14 : decode cX9_firstRow 14 = .ok (.iconst 0, 1) ∧ 14 + 1 = 15 := ⟨by decide +kernel, rfl⟩
theorem dX9_firstRow_15 : decode cX9_firstRow 15 = .ok (.invokevirtual 77, 3) ∧ 15 + 3 = 18 := ⟨by decide +kernel, rfl⟩
theorem dX9_firstRow_18 : decode cX9_firstRow 18 = .ok (.iload_n 1, 1) ∧ 18 + 1 = 19 := ⟨by decide +kernel, rfl⟩
theorem dX9_firstRow_19 : decode cX9_firstRow 19 = .ok (.if_icmp .ne 17, 3) ∧ 19 + 3 = 22 ∧ ((19 : Nat) : Int) + (17) = ((36 : Nat) : Int) := ⟨by decide +kernel, rfl, rfl⟩
theorem dX9_firstRow_22 : decode cX9_firstRow 22 = .ok (.aload_n 0, 1) ∧ 22 + 1 = 23 := ⟨by decide +kernel, rfl⟩
theorem dX9_firstRow_23 : decode cX9_firstRow 23 = .ok (.iload_n 2, 1) ∧ 23 + 1 = 24 := ⟨by decide +kernel, rfl⟩
theorem dX9_firstRow_24 : decode cX9_firstRow 24 = .ok (.invokevirtual 80, 3) ∧ 24 + 3 = 27 := ⟨by decide +kernel, rfl⟩
theorem dX9_firstRow_27 : decode cX9_firstRow 27 = .ok (.ifCond .eq 9, 3) ∧ 27 + 3 = 30 ∧ ((27 : Nat) : Int) + (9) = ((36 : Nat) : Int) := ⟨by decide +kernel, rfl, rfl⟩
theorem dX9_firstRow_30 : decode cX9_firstRow 30 = .ok (.aload_n 0, 1) ∧ 30 + 1 = 31 := ⟨by decide +kernel, rfl⟩
theorem dX9_firstRow_31 : decode cX9_firstRow 31 = .ok (.iload_n 2, 1) ∧ 31 + 1 = 32 := ⟨by decide +kernel, rfl⟩
theorem dX9_firstRow_32 : decode cX9_firstRow 32 = .ok (.invokevirtual 164, 3) ∧ 32 + 3 = 35 := ⟨by decide +kernel, rfl⟩
theorem dX9_firstRow_35 : decode cX9_firstRow 35 = .ok (.ireturn, 1) ∧ 35 + 1 = 36 := ⟨by decide +kernel, rfl⟩
theorem dX9_firstRow_36 : decode cX9_firstRow 36 = .ok (.iinc 2 1, 3) ∧ 36 + 3 = 39 := ⟨by decide +kernel, rfl⟩
theorem dX9_firstRow_39 : decode cX9_firstRow 39 = .ok (.goto (-37), 3) ∧ 39 + 3 = 42 ∧ ((39 : Nat) : Int) + (-37) = ((2 : Nat) : Int) := ⟨by decide +kernel, rfl, rfl⟩
theorem dX9_firstRow_42 : decode cX9_firstRow 42 = .ok (.bipush (-6), 2) ∧ 42 + 2 = 44 := ⟨by decide +kernel, rfl⟩
theorem dX9_firstRow_44 : decode cX9_firstRow 44 = .ok (.ireturn, 1) ∧ 44 + 1 = 45 := ⟨by decide +kernel, rfl⟩
theorem dX9_node_0 : decode cX9_node 0 = .ok (.aload_n 0, 1) ∧ 0 + 1 = 1 := ⟨by decide +kernel, rfl⟩
theorem dX9_node_1 : decode cX9_node 1 = .ok (.iload_n 1, 1) ∧ 1 + 1 = 2 := ⟨by decide +kernel, rfl⟩
theorem dX9_node_2 : decode cX9_node 2 = .ok (.invokevirtual 158, 3) ∧ 2 + 3 = 5 := ⟨by decide +kernel, rfl⟩
theorem dX9_node_5 : decode cX9_node 5 = .ok (.ifCond .ne 6, 3) ∧ 5 + 3 = 8 ∧ ((5 : Nat) : Int) + (6) = ((11 : Nat) : Int) := ⟨by decide +kernel, rfl, rfl⟩
theorem dX9_node_8 : decode cX9_node 8 = .ok (.bipush (-2), 2) ∧ 8 + 2 = 10 := ⟨by decide +kernel, rfl⟩
theorem dX9_node_10 : decode cX9_node 10 = .ok (.ireturn, 1) ∧ 10 + 1 = 11 := ⟨by decide +kernel, rfl⟩
theorem dX9_node_11 : decode cX9_node 11 = .ok (.iload_n 2, 1) ∧ 11 + 1 = 12 := ⟨by decide +kernel, rfl⟩
theorem dX9_node_12 : decode cX9_node 12 = .ok (.tableswitch 103 0 7 #[48, 54, 60, 66, 74, 82, 88, 95], 48) ∧ 12 + 48 = 60 := ⟨by decide +kernel, rfl⟩
theorem dX9_node_60 : decode cX9_node 60 = .ok (.aload_n 0, 1) ∧ 60 + 1 = 61 := ⟨by decide +kernel, rfl⟩
theorem dX9_node_61 : decode cX9_node 61 = .ok (.iload_n 1, 1) ∧ 61 + 1 = 62 := ⟨by decide +kernel, rfl⟩
theorem dX9_node_62 : decode cX9_node 62 = .ok (.invokevirtual 186, 3) ∧ 62 + 3 = 65 := ⟨by decide +kernel, rfl⟩
theorem dX9_node_65 : decode cX9_node 65 = .ok (.ireturn, 1) ∧ 65 + 1 = 66 := ⟨by decide +kernel, rfl⟩
theorem dX9_node_66 : decode cX9_node 66 = .ok (.aload_n 0, 1) ∧ 66 + 1 = 67 := ⟨by decide +kernel, rfl⟩
theorem dX9_node_67 : decode cX9_node 67 = .ok (.iload_n 1, 1) ∧ 67 + 1 = 68 := ⟨by decide +kernel, rfl⟩
theorem dX9_node_68 : decode cX9_node 68 = .ok (.invokevirtual 139, 3) ∧ 68 + 3 = 71 := ⟨by decide +kernel, rfl⟩
theorem dX9_node_71 : decode cX9_node 71 = .ok (.ireturn, 1) ∧ 71 + 1 = 72 := ⟨by decide +kernel, rfl⟩
theorem dX9_node_72 : decode cX9_node 72 = .ok (.aload_n 0, 1) ∧ 72 + 1 = 73 := ⟨by decide +kernel, rfl⟩
theorem dX9_node_73 : decode cX9_node 73 = .ok (.iload_n 1, 1) ∧ 73 + 1 = 74 := ⟨by decide +kernel, rfl⟩
theorem dX9_node_74 : decode cX9_node 74 = .ok (.invokevirtual 189, 3) ∧ 74 + 3 = 77 := ⟨by decide +kernel, rfl⟩
theorem dX9_node_77 : decode cX9_node 77 = .ok (.ireturn, 1) ∧ 77 + 1 = 78 := ⟨by decide +kernel, rfl⟩
theorem dX9_node_78 : decode cX9_node 78 = .ok (.aload_n 0, 1) ∧ 78 + 1 = 79 := ⟨by decide +kernel, rfl⟩
theorem dX9_node_79 : decode cX9_node 79 = .ok (.iload_n 1, 1) ∧ 79 + 1 = 80 := ⟨by decide +kernel, rfl⟩
theorem dX9_node_80 : decode cX9_node 80 = .ok (.bipush 11, 2) ∧ 80 + 2 = 82 := ⟨by decide +kernel, rfl⟩
theorem dX9_node_82 : decode cX9_node 82 = .ok (.invokevirtual 64, 3) ∧ 82 + 3 = 85 := ⟨by decide +kernel, rfl⟩
theorem dX9_node_85 : decode cX9_node 85 = .ok (.ireturn, 1) ∧ 85 + 1 = 86 := ⟨by decide +kernel, rfl⟩
theorem dX9_node_86 : decode cX9_node 86 = .ok (.aload_n 0, 1) ∧ 86 + 1 = 87 := ⟨by decide +kernel, rfl⟩
theorem dX9_node_87 : decode cX9_node 87 = .ok (.iload_n 1, 1) ∧ 87 + 1 = 88 := ⟨by decide +kernel, rfl⟩
theorem dX9_node_88 : decode cX9_node 88 = .ok (.bipush 10, 2) ∧ 88 + 2 = 90 := ⟨by decide +kernel, rfl⟩
theorem dX9_node_90 : decode cX9_node 90 = .ok (.invokevirtual 64, 3) ∧ 90 + 3 = 93 := ⟨by decide +kernel, rfl⟩
theorem dX9_node_93 : decode cX9_node 93 = .ok (.ireturn, 1) ∧ 93 + 1 = 94 := ⟨by decide +kernel, rfl⟩
theorem dX9_node_94 : decode cX9_node 94 = .ok (.aload_n 0, 1) ∧ 94 + 1 = 95 := ⟨by decide +kernel, rfl⟩
theorem dX9_node_95 : decode cX9_node 95 = .ok (.iload_n 1, 1) ∧ 95 + 1 = 96 := ⟨by decide +kernel, rfl⟩
theorem dX9_node_96 : decode cX9_node 96 = .ok (.invokevirtual 192, 3) ∧ 96 + 3 = 99 := ⟨by decide +kernel, rfl⟩
theorem dX9_node_99 : decode cX9_node 99 = .ok (.ireturn, 1) ∧ 99 + 1 = 100 := ⟨by decide +kernel, rfl⟩
theorem dX9_node_100 : decode cX9_node 100 = .ok (.aload_n 0, 1) ∧ 100 + 1 = 101 := ⟨by decide +kernel, rfl⟩
theorem dX9_node_101 : decode cX9_node 101 = .ok (.iload_n 1, 1) ∧ 101 + 1 = 102 := ⟨by decide +kernel, rfl⟩
theorem dX9_node_102 : decode cX9_node 102 = .ok (.iconst 1, 1) ∧ 102 + 1 = 103 := ⟨by decide +kernel, rfl⟩
theorem dX9_node_103 : decode cX9_node 103 = .ok (.invokevirtual 64, 3) ∧ 103 + 3 = 106 := ⟨by decide +kernel, rfl⟩
theorem dX9_node_106 : decode cX9_node 106 = .ok (.ireturn, 1) ∧ 106 + 1 = 107 := ⟨by decide +kernel, rfl⟩
theorem dX9_node_107 : decode cX9_node 107 = .ok (.aload_n 0, 1) ∧ 107 + 1 = 108 := ⟨by decide +kernel, rfl⟩
theorem dX9_node_108 : decode cX9_node 108 = .ok (.iload_n 1, 1) ∧ 108 + 1 = 109 := ⟨by decide +kernel, rfl⟩
theorem dX9_node_109 : decode cX9_node 109 = .ok (.invokevirtual 129, 3) ∧ 109 + 3 = 112 := ⟨by decide +kernel, rfl⟩
theorem dX9_node_112 : decode cX9_node 112 = .ok (.iconst 1, 1) ∧ 112 + 1 = 113 := ⟨by decide +kernel, rfl⟩
theorem dX9_node_113 : decode cX9_node 113 = .ok (.isub, 1) ∧ 113 + 1 = 114 := ⟨by decide +kernel, rfl⟩
theorem dX9_node_114 : decode cX9_node 114 = .ok (.ireturn, 1) ∧ 114 + 1 = 115 := ⟨by decide +kernel, rfl⟩
theorem dX9_node_115 : decode cX9_node 115 = .ok (.bipush (-3), 2) ∧ 115 + 2 = 117 := ⟨by decide +kernel, rfl⟩
theorem dX9_node_117 : decode cX9_node 117 = .ok (.ireturn, 1) ∧ 117 + 1 = 118 := ⟨by decide +kernel, rfl⟩
theorem dX9_nextMarked_0 : decode cX9_nextMarked 0 = .ok (.aload_n 0, 1) ∧ 0 + 1 = 1 := ⟨by decide +kernel, rfl⟩
theorem dX9_nextMarked_1 : decode cX9_nextMarked 1 = .ok (.iload_n 1, 1) ∧ 1 + 1 = 2 := ⟨by decide +kernel, rfl⟩
theorem dX9_nextMarked_2 : decode cX9_nextMarked 2 = .ok (.invokevirtual 98, 3) ∧ 2 + 3 = 5 := ⟨by decide +kernel, rfl⟩
theorem dX9_nextMarked_5 : decode cX9_nextMarked 5 = .ok (.bipush (-6), 2) ∧ 5 + 2 = 7 := ⟨by decide +kernel, rfl⟩
theorem dX9_nextMarked_7 : decode cX9_nextMarked 7 = .ok (.if_icmp .ne 6, 3) ∧ 7 + 3 = 10 ∧ ((7 : Nat) : Int) + (6) = ((13 : Nat) : Int) := ⟨by decide +kernel, rfl, rfl⟩
theorem dX9_nextMarked_10 : decode cX9_nextMarked 10 = .ok (.bipush (-2), 2) ∧ 10 + 2 = 12 := ⟨by decide +kernel, rfl⟩
theorem dX9_nextMarked_12 : decode cX9_nextMarked 12 = .ok (.ireturn, 1) ∧ 12 + 1 = 13 := ⟨by decide +kernel, rfl⟩
theorem dX9_nextMarked_13 : decode cX9_nextMarked 13 = .ok (.iload_n 2, 1) ∧ 13 + 1 = 14 := ⟨by decide +kernel, rfl⟩
theorem dX9_nextMarked_14 : decode cX9_nextMarked 14 = .ok (.iconst 0, 1) ∧ 14 + 1 = 15 := ⟨by decide +kernel, rfl⟩
theorem dX9_nextMarked_15 : decode cX9_nextMarked 15 = .ok (.iconst 4, 1) ∧ 15 + 1 = 16 := ⟨by decide +kernel, rfl⟩
theorem dX9_nextMarked_16 : decode cX9_nextMarked 16 = .ok (.invokestatic 101, 3) ∧ 16 + 3 = 19 := ⟨by decide +kernel, rfl⟩
theorem dX9_nextMarked_19 : decode cX9_nextMarked 19 = .ok (.ifCond .ne 6, 3) ∧ 19 + 3 = 22 ∧ ((19 : Nat) : Int) + (6) = ((25 : Nat) : Int) := ⟨by decide +kernel, rfl, rfl⟩
theorem dX9_nextMarked_22 : decode cX9_nextMarked 22 = .ok (.bipush (-3), 2) ∧ 22 + 2 = 24 := ⟨by decide +kernel, rfl⟩
theorem dX9_nextMarked_24 : decode cX9_nextMarked 24 = .ok (.ireturn, 1) ∧ 24 + 1 = 25 := ⟨by decide +kernel, rfl⟩
theorem dX9_nextMarked_25 : decode cX9_nextMarked 25 = .ok (.aload_n 0, 1) ∧ 25 + 1 = 26 := ⟨by decide +kernel, rfl⟩
theorem dX9_nextMarked_26 : decode cX9_nextMarked 26 = .ok (.invokevirtual 154, 3) ∧ 26 + 3 = 29 := ⟨by decide +kernel, rfl⟩
theorem dX9_nextMarked_29 : decode cX9_nextMarked 29 = .ok (.istore_n 3, 1) ∧ 29 + 1 = 30 := ⟨by decide +kernel, rfl⟩
theorem dX9_nextMarked_30 : decode cX9_nextMarked 30 = .ok (.iload_n 1, 1) ∧ 30 + 1 = 31 := ⟨by decide +kernel, rfl⟩
theorem dX9_nextMarked_31 : decode cX9_nextMarked 31 = .ok (.iconst 1, 1) ∧ 31 + 1 = 32 := ⟨by decide +kernel, rfl⟩
theorem dX9_nextMarked_32 : decode cX9_nextMarked 32 = .ok (.iadd, 1) ∧ 32 + 1 = 33 := ⟨by decide +kernel, rfl⟩
theorem dX9_nextMarked_33 : decode cX9_nextMarked 33 = .ok (.istore 4, 2) ∧ 33 + 2 = 35 := ⟨by decide +kernel, rfl⟩
theorem dX9_nextMarked_35 : decode cX9_nextMarked 35 = .ok (.iload 4, 2) ∧ 35 + 2 = 37 := ⟨by decide +kernel, rfl⟩
theorem dX9_nextMarked_37 : decode cX9_nextMarked 37 = .ok (.iload_n 3, 1) ∧ 37 + 1 = 38 := ⟨by decide +kernel, rfl⟩
theorem dX9_nextMarked_38 : decode cX9_nextMarked 38 = .ok (.if_icmp .ge 32, 3) ∧ 38 + 3 = 41 ∧ ((38 : Nat) : Int) + (32) = ((70 : Nat) : Int) := ⟨by decide +kernel, rfl, rfl⟩
theorem dX9_nextMarked_41 : decode cX9_nextMarked 41 = .ok (.aload_n 0, 1) ∧ 41 + 1 = 42 := ⟨by decide +kernel, rfl⟩
theorem dX9_nextMarked_42 : decode cX9_nextMarked 42 = .ok (.aload_n 0, 1) ∧ 42 + 1 = 43 := ⟨by decide +kernel, rfl⟩
theorem dX9_nextMarked_43 : decode cX9_nextMarked 43 = .ok (.iload 4, 2) ∧ 43 + 2 = 45 := ⟨by decide +kernel, rfl⟩
theorem dX9_nextMarked_45 : decode cX9_nextMarked 45 = .ok (.invokevirtual 98, 3) ∧ 45 + 3 = 48 := ⟨by decide +kernel, rfl⟩
theorem dX9_nextMarked_48 : decode cX9_nextMarked 48 = .ok (.bipush 10, 2) ∧ 48 + 2 = 50 := ⟨by decide +kernel, rfl⟩
theorem dX9_nextMarked_50 : decode cX9_nextMarked 50 = .ok (.invokevirtual 64, 3) ∧ 50 + 3 = 53 := ⟨by decide +kernel, rfl⟩
theorem dX9_nextMarked_53 : decode cX9_nextMarked 53 = .ok (.iload_n 2, 1) ∧ 53 + 1 = 54 := ⟨by decide +kernel, rfl⟩
theorem dX9_nextMarked_54 : decode cX9_nextMarked 54 = .ok (.ishr, 1) ∧ 54 + 1 = 55 := ⟨by decide +kernel, rfl⟩
theorem dX9_nextMarked_55 : decode cX9_nextMarked 55 = .ok (.iconst 1, 1) ∧ 55 + 1 = 56 := ⟨by decide +kernel, rfl⟩
theorem dX9_nextMarked_56 : decode cX9_nextMarked 56 = .ok (.iand, 1) ∧ 56 + 1 = 57 := ⟨by decide +kernel, rfl⟩
theorem dX9_nextMarked_57 : decode cX9_nextMarked 57 = .ok (.iconst 1, 1) ∧ 57 + 1 = 58 := ⟨by decide +kernel, rfl⟩
theorem dX9_nextMarked_58 : decode cX9_nextMarked 58 = .ok (.if_icmp .ne 6, 3) ∧ 58 + 3 = 61 ∧ ((58 : Nat) : Int) + (6) = ((64 : Nat) : Int) := ⟨by decide +kernel, rfl, rfl⟩
theorem dX9_nextMarked_61 : decode cX9_nextMarked 61 = .ok (.iload 4, 2) ∧ 61 + 2 = 63 := ⟨by decide +kernel, rfl⟩
theorem dX9_nextMarked_63 : decode cX9_nextMarked 63 = .ok (.ireturn, 1) ∧ 63 + 1 = 64 := ⟨by decide +kernel, rfl⟩
theorem dX9_nextMarked_64 : decode cX9_nextMarked 64 = .ok (.iinc 4 1, 3) ∧ 64 + 3 = 67 := ⟨by decide +kernel, rfl⟩
theorem dX9_nextMarked_67 : decode cX9_nextMarked 67 = .ok (.goto (-32), 3) ∧ 67 + 3 = 70 ∧ ((67 : Nat) : Int) + (-32) = ((35 : Nat) : Int) := ⟨by decide +kernel, rfl, rfl⟩
theorem dX9_nextMarked_70 : decode cX9_nextMarked 70 = .ok (.bipush (-6), 2) ∧ 70 + 2 = 72 := ⟨by decide +kernel, rfl⟩
theorem dX9_nextMarked_72 : decode cX9_nextMarked 72 = .ok (.ireturn, 1) ∧ 72 + 1 = 73 := ⟨by decide +kernel, rfl⟩
theorem dX9_find_0 : decode cX9_find 0 = .ok (.aload_n 0, 1) ∧ 0 + 1 = 1 := ⟨by decide +kernel, rfl⟩
theorem dX9_find_1 : decode cX9_find 1 = .ok (.iload_n 1, 1) ∧ 1 + 1 = 2 := ⟨by decide +kernel, rfl⟩
theorem dX9_find_2 : decode cX9_find 2 = .ok (.invokevirtual 98, 3) ∧ 2 + 3 = 5 := ⟨by decide +kernel, rfl⟩
theorem dX9_find_5 : decode cX9_find 5 = .ok (.bipush (-6), 2) ∧ 5 + 2 = 7 := ⟨by decide +kernel, rfl⟩
theorem dX9_find_7 : decode cX9_find 7 = .ok (.if_icmp .ne 6, 3) ∧ 7 + 3 = 10 ∧ ((7 : Nat) : Int) + (6) = ((13 : Nat) : Int) := ⟨by decide +kernel, rfl, rfl⟩
theorem dX9_find_10 : decode cX9_find 10 = .ok (.bipush (-2), 2) ∧ 10 + 2 = 12 := ⟨by decide +kernel, rfl⟩
theorem dX9_find_12 : decode cX9_find 12 = .ok (.ireturn, 1) ∧ 12 + 1 = 13 := ⟨by decide +kernel, rfl⟩
theorem dX9_find_13 : decode cX9_find 13 = .ok (.aload_n 0, 1) ∧ 13 + 1 = 14 := ⟨by decide +kernel, rfl⟩
theorem dX9_find_14 : decode cX9_find 14 = .ok (.invokevirtual 154, 3) ∧ 14 + 3 = 17 := ⟨by decide +kernel, rfl⟩
theorem dX9_find_17 : decode cX9_find 17 = .ok (.istore_n 2, 1) ∧ 17 + 1 = 18 := ⟨by decide +kernel, rfl⟩
theorem dX9_find_18 : decode cX9_find 18 = .ok (.iload_n 1, 1) ∧ 18 + 1 = 19 := ⟨by decide +kernel, rfl⟩
theorem dX9_find_19 : decode cX9_find 19 = .ok (.iconst 1, 1) ∧ 19 + 1 = 20 := ⟨by decide +kernel, rfl⟩
theorem dX9_find_20 : decode cX9_find 20 = .ok (.iadd, 1) ∧ 20 + 1 = 21 := ⟨by decide +kernel, rfl⟩
theorem dX9_find_21 : decode cX9_find 21 = .ok (.istore_n 3, 1) ∧ 21 + 1 = 22 := ⟨by decide +kernel, rfl⟩
theorem dX9_find_22 : decode cX9_find 22 = .ok (.iload_n 3, 1) ∧ 22 + 1 = 23 := ⟨by decide +kernel, rfl⟩
theorem dX9_find_23 : decode cX9_find 23 = .ok (.iload_n 2, 1) ∧ 23 + 1 = 24 := ⟨by decide +kernel, rfl⟩
theorem dX9_find_24 : decode cX9_find 24 = .ok (.if_icmp .ge 23, 3) ∧ 24 + 3 = 27 ∧ ((24 : Nat) : Int) + (23) = ((47 : Nat) : Int) := ⟨by decide +kernel, rfl, rfl⟩
theorem dX9_find_27 : decode cX9_find 27 = .ok (.aload_n 0, 1) ∧ 27 + 1 = 28 := ⟨by decide +kernel, rfl⟩
theorem dX9_find_28 : decode cX9_find 28 = .ok (.aload_n 0, 1) ∧ 28 + 1 = 29 := ⟨by decide +kernel, rfl⟩
theorem dX9_find_29 : decode cX9_find 29 = .ok (.iload_n 3, 1) ∧ 29 + 1 = 30 := ⟨by decide +kernel, rfl⟩
theorem dX9_find_30 : decode cX9_find 30 = .ok (.invokevirtual 98, 3) ∧ 30 + 3 = 33 := ⟨by decide +kernel, rfl⟩
theorem dX9_find_33 : decode cX9_find 33 = .ok (.invokevirtual 148, 3) ∧ 33 + 3 = 36 := ⟨by decide +kernel, rfl⟩
theorem dX9_find_36 : decode cX9_find 36 = .ok (.ifCond .eq 5, 3) ∧ 36 + 3 = 39 ∧ ((36 : Nat) : Int) + (5) = ((41 : Nat) : Int) := ⟨by decide +kernel, rfl, rfl⟩
theorem dX9_find_39 : decode cX9_find 39 = .ok (.iload_n 3, 1) ∧ 39 + 1 = 40 := ⟨by decide +kernel, rfl⟩
theorem dX9_find_40 : decode cX9_find 40 = .ok (.ireturn, 1) ∧ 40 + 1 = 41 := ⟨by decide +kernel, rfl⟩
theorem dX9_find_41 : decode cX9_find 41 = .ok (.iinc 3 1, 3) ∧ 41 + 3 = 44 := ⟨by decide +kernel, rfl⟩
theorem dX9_find_44 : decode cX9_find 44 = .ok (.goto (-22), 3) ∧ 44 + 3 = 47 ∧ ((44 : Nat) : Int) + (-22) = ((22 : Nat) : Int) := ⟨by decide +kernel, rfl, rfl⟩
theorem dX9_find_47 : decode cX9_find 47 = .ok (.bipush (-6), 2) ∧ 47 + 2 = 49 := ⟨by decide +kernel, rfl⟩
theorem dX9_find_49 : decode cX9_find 49 = .ok (.ireturn, 1) ∧ 49 + 1 = 50 := ⟨by decide +kernel, rfl⟩
theorem dX9_nodes_0 : decode cX9_nodes 0 = .ok (.iconst 0, 1) ∧ 0 + 1 = 1 := ⟨by decide +kernel, rfl⟩
theorem dX9_nodes_1 : decode cX9_nodes 1 = .ok (.istore_n 2, 1) ∧ 1 + 1 = 2 := ⟨by decide +kernel, rfl⟩
theorem dX9_nodes_2 : decode cX9_nodes 2 = .ok (.iconst 1, 1) ∧ 2 + 1 = 3 := ⟨by decide +kernel, rfl⟩
theorem dX9_nodes_3 : decode cX9_nodes 3 = .ok (.istore_n 3, 1) ∧ 3 + 1 = 4 := ⟨by decide +kernel, rfl⟩
theorem dX9_nodes_4 : decode cX9_nodes 4 = .ok (.iload_n 3, 1) ∧ 4 + 1 = 5 := ⟨by decide +kernel, rfl⟩
theorem dX9_nodes_5 : decode cX9_nodes 5 = .ok (.aload_n 0, 1) ∧ 5 + 1 = 6 := ⟨by decide +kernel, rfl⟩
theorem dX9_nodes_6 : decode cX9_nodes 6 = .ok (.getfield 7, 3) ∧ 6 + 3 = 9 := ⟨by decide +kernel, rfl⟩
theorem dX9_nodes_9 : decode cX9_nodes 9 = .ok (.iconst 0, 1) ∧ 9 + 1 = 10 := ⟨by decide +kernel, rfl⟩
theorem dX9_nodes_10 : decode cX9_nodes 10 = .ok (.iaload, 1) ∧ 10 + 1 = 11 := ⟨by decide +kernel, rfl⟩
theorem dX9_nodes_11 : decode cX9_nodes 11 = .ok (.if_icmp .gt 40, 3) ∧ 11 + 3 = 14 ∧ ((11 : Nat) : Int) + (40) = ((51 : Nat) : Int) := ⟨by decide +kernel, rfl, rfl⟩
theorem dX9_nodes_14 : decode cX9_nodes 14 = .ok (.iload_n 2, 1) ∧ 14 + 1 = 15 := ⟨by decide +kernel, rfl⟩
theorem dX9_nodes_15 : decode cX9_nodes 15 = .ok (.aload_n 0, 1) ∧ 15 + 1 = 16 := ⟨by decide +kernel, rfl⟩
theorem dX9_nodes_16 : decode cX9_nodes 16 = .ok (.iload_n 3, 1) ∧ 16 + 1 = 17 := ⟨by decide +kernel, rfl⟩
theorem dX9_nodes_17 : decode cX9_nodes 17 = .ok (.iconst 0, 1) ∧ 17 + 1 = 18 := ⟨by decide +kernel, rfl⟩
theorem dX9_nodes_18 : decode cX9_nodes 18 = .ok (.invokevirtual 64, 3) ∧ 18 + 3 = 21 := ⟨by decide +kernel, rfl⟩
theorem dX9_nodes_21 : decode cX9_nodes 21 = .ok (.iconst 1, 1) ∧ 21 + 1 = 22 := ⟨by decide +kernel, rfl⟩
theorem dX9_nodes_22 : decode cX9_nodes 22 = .ok (.if_icmp .ne 20, 3) ∧ 22 + 3 = 25 ∧ ((22 : Nat) : Int) + (20) = ((42 : Nat) : Int) := ⟨by decide +kernel, rfl, rfl⟩
theorem dX9_nodes_25 : decode cX9_nodes 25 = .ok (.iload_n 1, 1) ∧ 25 + 1 = 26 := ⟨by decide +kernel, rfl⟩
theorem dX9_nodes_26 : decode cX9_nodes 26 = .ok (.ifCond .eq 12, 3) ∧ 26 + 3 = 29 ∧ ((26 : Nat) : Int) + (12) = ((38 : Nat) : Int) := ⟨by decide +kernel, rfl, rfl⟩
theorem dX9_nodes_29 : decode cX9_nodes 29 = .ok (.aload_n 0, 1) ∧ 29 + 1 = 30 := ⟨by decide +kernel, rfl⟩
theorem dX9_nodes_30 : decode cX9_nodes 30 = .ok (.iload_n 3, 1) ∧ 30 + 1 = 31 := ⟨by decide +kernel, rfl⟩
theorem dX9_nodes_31 : decode cX9_nodes 31 = .ok (.invokevirtual 186, 3) ∧ 31 + 3 = 34 := ⟨by decide +kernel, rfl⟩
theorem dX9_nodes_34 : decode cX9_nodes 34 = .ok (.iconst 1, 1) ∧ 34 + 1 = 35 := ⟨by decide +kernel, rfl⟩
theorem dX9_nodes_35 : decode cX9_nodes 35 = .ok (.if_icmp .le 7, 3) ∧ 35 + 3 = 38 ∧ ((35 : Nat) : Int) + (7) = ((42 : Nat) : Int) := ⟨by decide +kernel, rfl, rfl⟩
theorem dX9_nodes_38 : decode cX9_nodes 38 = .ok (.iconst 1, 1) ∧ 38 + 1 = 39 := ⟨by decide +kernel, rfl⟩
theorem dX9_nodes_39 : decode cX9_nodes 39 = .ok (.goto 4, 3) ∧ 39 + 3 = 42 ∧ ((39 : Nat) : Int) + (4) = ((43 : Nat) : Int) := ⟨by decide +kernel, rfl, rfl⟩
theorem dX9_nodes_42 : decode cX9_nodes 42 = .ok (.iconst 0, 1) ∧ 42 + 1 = 43 := ⟨by decide +kernel, rfl⟩
theorem dX9_nodes_43 : decode cX9_nodes 43 = .ok (.iadd, 1) ∧ 43 + 1 = 44 := ⟨by decide +kernel, rfl⟩
theorem dX9_nodes_44 : decode cX9_nodes 44 = .ok (.istore_n 2, 1) ∧ 44 + 1 = 45 := ⟨by decide +kernel, rfl⟩
theorem dX9_nodes_45 : decode cX9_nodes 45 = .ok (.iinc 3 1, 3) ∧ 45 + 3 = 48 := ⟨by decide +kernel, rfl⟩
theorem dX9_nodes_48 : decode cX9_nodes 48 = .ok (.goto (-44), 3) ∧ 48 + 3 = 51 ∧ ((48 : Nat) : Int) + (-44) = ((4 : Nat) : Int) := ⟨by decide +kernel, rfl, rfl⟩
theorem dX9_nodes_51 : decode cX9_nodes 51 = .ok (.iload_n 2, 1) ∧ 51 + 1 = 52 := ⟨by decide +kernel, rfl⟩
theorem dX9_nodes_52 : decode cX9_nodes 52 = .ok (.ireturn, 1) ∧ 52 + 1 = 53 := ⟨by decide +kernel, rfl⟩
theorem dX9_foldedPlaces_0 : decode cX9_foldedPlaces 0 = .ok (.iconst 0, 1) ∧ 0 + 1 = 1 := ⟨by decide +kernel, rfl⟩
theorem dX9_foldedPlaces_1 : decode cX9_foldedPlaces 1 = .ok (.istore_n 1, 1) ∧ 1 + 1 = 2 := ⟨by decide +kernel, rfl⟩
theorem dX9_foldedPlaces_2 : decode cX9_foldedPlaces 2 = .ok (.iconst 0, 1) ∧ 2 + 1 = 3 := ⟨by decide +kernel, rfl⟩
theorem dX9_foldedPlaces_3 : decode cX9_foldedPlaces 3 = .ok (.istore_n 2, 1) ∧ 3 + 1 = 4 := ⟨by decide +kernel, rfl⟩
theorem dX9_foldedPlaces_4 : decode cX9_foldedPlaces 4 = .ok (.iload_n 2, 1) ∧ 4 + 1 = 5 := ⟨by decide +kernel, rfl⟩
theorem dX9_foldedPlaces_5 : decode cX9_foldedPlaces 5 = .ok (.aload_n 0, 1) ∧ 5 + 1 = 6 := ⟨by decide +kernel, rfl⟩
theorem dX9_foldedPlaces_6 : decode cX9_foldedPlaces 6 = .ok (.getfield 7, 3) ∧ 6 + 3 = 9 := ⟨by decide +kernel, rfl⟩
theorem dX9_foldedPlaces_9 : decode cX9_foldedPlaces 9 = .ok (.iconst 1, 1) ∧ 9 + 1 = 10 := ⟨by decide +kernel, rfl⟩
theorem dX9_foldedPlaces_10 : decode cX9_foldedPlaces 10 = .ok (.iaload, 1) ∧ 10 + 1 = 11 := ⟨by decide +kernel, rfl⟩
theorem dX9_foldedPlaces_11 : decode cX9_foldedPlaces 11 = .ok (.if_icmp .ge 18, 3) ∧ 11 + 3 = 14 ∧ ((11 : Nat) : Int) + (18) = ((29 : Nat) : Int) := ⟨by decide +kernel, rfl, rfl⟩
theorem dX9_foldedPlaces_14 : decode cX9_foldedPlaces 14 = .ok (.iload_n 1, 1) ∧ 14 + 1 = 15 := ⟨by decide +kernel, rfl⟩
theorem dX9_foldedPlaces_15 : decode cX9_foldedPlaces 15 = .ok (.aload_n 0, 1) ∧ 15 + 1 = 16 := ⟨by decide +kernel, rfl⟩
theorem dX9_foldedPlaces_16 : decode cX9_foldedPlaces 16 = .ok (.iload_n 2, 1) ∧ 16 + 1 = 17 := ⟨by decide +kernel, rfl⟩
theorem dX9_foldedPlaces_17 : decode cX9_foldedPlaces 17 = .ok (.iconst 2, 1) ∧ 17 + 1 = 18 := ⟨by decide +kernel, rfl⟩
theorem dX9_foldedPlaces_18 : decode cX9_foldedPlaces 18 = .ok (.invokevirtual 77, 3) ∧ 18 + 3 = 21 := ⟨by decide +kernel, rfl⟩
theorem dX9_foldedPlaces_21 : decode cX9_foldedPlaces 21 = .ok (.iadd, 1) ∧ 21 + 1 = 22 := ⟨by decide +kernel, rfl⟩
theorem dX9_foldedPlaces_22 : decode cX9_foldedPlaces 22 = .ok (.istore_n 1, 1) ∧ 22 + 1 = 23 := ⟨by decide +kernel, rfl⟩
theorem dX9_foldedPlaces_23 : decode cX9_foldedPlaces 23 = .ok (.iinc 2 1, 3) ∧ 23 + 3 = 26 := ⟨by decide +kernel, rfl⟩
theorem dX9_foldedPlaces_26 : decode cX9_foldedPlaces 26 = .ok (.goto (-22), 3) ∧ 26 + 3 = 29 ∧ ((26 : Nat) : Int) + (-22) = ((4 : Nat) : Int) := ⟨by decide +kernel, rfl, rfl⟩
theorem dX9_foldedPlaces_29 : decode cX9_foldedPlaces 29 = .ok (.iload_n 1, 1) ∧ 29 + 1 = 30 := ⟨by decide +kernel, rfl⟩
theorem dX9_foldedPlaces_30 : decode cX9_foldedPlaces 30 = .ok (.ireturn, 1) ∧ 30 + 1 = 31 := ⟨by decide +kernel, rfl⟩
theorem dX9_greatestLevel_0 : decode cX9_greatestLevel 0 = .ok (.iconst 0, 1) ∧ 0 + 1 = 1 := ⟨by decide +kernel, rfl⟩
theorem dX9_greatestLevel_1 : decode cX9_greatestLevel 1 = .ok (.istore_n 1, 1) ∧ 1 + 1 = 2 := ⟨by decide +kernel, rfl⟩
theorem dX9_greatestLevel_2 : decode cX9_greatestLevel 2 = .ok (.iconst 0, 1) ∧ 2 + 1 = 3 := ⟨by decide +kernel, rfl⟩
theorem dX9_greatestLevel_3 : decode cX9_greatestLevel 3 = .ok (.istore_n 2, 1) ∧ 3 + 1 = 4 := ⟨by decide +kernel, rfl⟩
theorem dX9_greatestLevel_4 : decode cX9_greatestLevel 4 = .ok (.iload_n 2, 1) ∧ 4 + 1 = 5 := ⟨by decide +kernel, rfl⟩
theorem dX9_greatestLevel_5 : decode cX9_greatestLevel 5 = .ok (.aload_n 0, 1) ∧ 5 + 1 = 6 := ⟨by decide +kernel, rfl⟩
theorem dX9_greatestLevel_6 : decode cX9_greatestLevel 6 = .ok (.getfield 7, 3) ∧ 6 + 3 = 9 := ⟨by decide +kernel, rfl⟩
theorem dX9_greatestLevel_9 : decode cX9_greatestLevel 9 = .ok (.iconst 1, 1) ∧ 9 + 1 = 10 := ⟨by decide +kernel, rfl⟩
theorem dX9_greatestLevel_10 : decode cX9_greatestLevel 10 = .ok (.iaload, 1) ∧ 10 + 1 = 11 := ⟨by decide +kernel, rfl⟩
theorem dX9_greatestLevel_11 : decode cX9_greatestLevel 11 = .ok (.if_icmp .ge 30, 3) ∧ 11 + 3 = 14 ∧ ((11 : Nat) : Int) + (30) = ((41 : Nat) : Int) := ⟨by decide +kernel, rfl, rfl⟩
theorem dX9_greatestLevel_14 : decode cX9_greatestLevel 14 = .ok (.aload_n 0, 1) ∧ 14 + 1 = 15 := ⟨by decide +kernel, rfl⟩
theorem dX9_greatestLevel_15 : decode cX9_greatestLevel 15 = .ok (.iload_n 2, 1) ∧ 15 + 1 = 16 := ⟨by decide +kernel, rfl⟩
theorem dX9_greatestLevel_16 : decode cX9_greatestLevel 16 = .ok (.iconst 1, 1) ∧ 16 + 1 = 17 := ⟨by decide +kernel, rfl⟩
theorem dX9_greatestLevel_17 : decode cX9_greatestLevel 17 = .ok (.invokevirtual 77, 3) ∧ 17 + 3 = 20 := ⟨by decide +kernel, rfl⟩
theorem dX9_greatestLevel_20 : decode cX9_greatestLevel 20 = .ok (.iload_n 1, 1) ∧ 20 + 1 = 21 := ⟨by decide +kernel, rfl⟩
theorem dX9_greatestLevel_21 : decode cX9_greatestLevel 21 = .ok (.if_icmp .le 12, 3) ∧ 21 + 3 = 24 ∧ ((21 : Nat) : Int) + (12) = ((33 : Nat) : Int) := ⟨by decide +kernel, rfl, rfl⟩
theorem dX9_greatestLevel_24 : decode cX9_greatestLevel 24 = .ok (.aload_n 0, 1) ∧ 24 + 1 = 25 := ⟨by decide +kernel, rfl⟩
theorem dX9_greatestLevel_25 : decode cX9_greatestLevel 25 = .ok (.iload_n 2, 1) ∧ 25 + 1 = 26 := ⟨by decide +kernel, rfl⟩
theorem dX9_greatestLevel_26 : decode cX9_greatestLevel 26 = .ok (.iconst 1, 1) ∧ 26 + 1 = 27 := ⟨by decide +kernel, rfl⟩
theorem dX9_greatestLevel_27 : decode cX9_greatestLevel 27 = .ok (.invokevirtual 77, 3) ∧ 27 + 3 = 30 := ⟨by decide +kernel, rfl⟩
theorem dX9_greatestLevel_30 : decode cX9_greatestLevel 30 = .ok (.goto 4, 3) ∧ 30 + 3 = 33 ∧ ((30 : Nat) : Int) + (4) = ((34 : Nat) : Int) := ⟨by decide +kernel, rfl, rfl⟩
theorem dX9_greatestLevel_33 : decode cX9_greatestLevel 33 = .ok (.iload_n 1, 1) ∧ 33 + 1 = 34 := ⟨by decide +kernel, rfl⟩
theorem dX9_greatestLevel_34 : decode cX9_greatestLevel 34 = .ok (.istore_n 1, 1) ∧ 34 + 1 = 35 := ⟨by decide +kernel, rfl⟩
theorem dX9_greatestLevel_35 : decode cX9_greatestLevel 35 = .ok (.iinc 2 1, 3) ∧ 35 + 3 = 38 := ⟨by decide +kernel, rfl⟩
theorem dX9_greatestLevel_38 : decode cX9_greatestLevel 38 = .ok (.goto (-34), 3) ∧ 38 + 3 = 41 ∧ ((38 : Nat) : Int) + (-34) = ((4 : Nat) : Int) := ⟨by decide +kernel, rfl, rfl⟩
theorem dX9_greatestLevel_41 : decode cX9_greatestLevel 41 = .ok (.iload_n 1, 1) ∧ 41 + 1 = 42 := ⟨by decide +kernel, rfl⟩
theorem dX9_greatestLevel_42 : decode cX9_greatestLevel 42 = .ok (.ireturn, 1) ∧ 42 + 1 = 43 := ⟨by decide +kernel, rfl⟩
theorem dX9_count_0 : decode cX9_count 0 = .ok (.iload_n 1, 1) ∧ 0 + 1 = 1 := ⟨by decide +kernel, rfl⟩
theorem dX9_count_1 : decode cX9_count 1 = .ok (.tableswitch 102 0 8 #[51, 57, 64, 71, 76, 81, 87, 92, 97], 51) ∧ 1 + 51 = 52 := ⟨by decide +kernel, rfl⟩
theorem dX9_count_52 : decode cX9_count 52 = .ok (.aload_n 0, 1) ∧ 52 + 1 = 53 := ⟨by decide +kernel, rfl⟩
theorem dX9_count_53 : decode cX9_count 53 = .ok (.iconst 0, 1) ∧ 53 + 1 = 54 := ⟨by decide +kernel, rfl⟩
theorem dX9_count_54 : decode cX9_count 54 = .ok (.invokevirtual 195, 3) ∧ 54 + 3 = 57 := ⟨by decide +kernel, rfl⟩
theorem dX9_count_57 : decode cX9_count 57 = .ok (.ireturn, 1) ∧ 57 + 1 = 58 := ⟨by decide +kernel, rfl⟩
theorem dX9_count_58 : decode cX9_count 58 = .ok (.aload_n 0, 1) ∧ 58 + 1 = 59 := ⟨by decide +kernel, rfl⟩
theorem dX9_count_59 : decode cX9_count 59 = .ok (.getfield 7, 3) ∧ 59 + 3 = 62 := ⟨by decide +kernel, rfl⟩
theorem dX9_count_62 : decode cX9_count 62 = .ok (.iconst 0, 1) ∧ 62 + 1 = 63 := ⟨by decide +kernel, rfl⟩
theorem dX9_count_63 : decode cX9_count 63 = .ok (.iaload, 1) ∧ 63 + 1 = 64 := ⟨by decide +kernel, rfl⟩
theorem dX9_count_64 : decode cX9_count 64 = .ok (.ireturn, 1) ∧ 64 + 1 = 65 := ⟨by decide +kernel, rfl⟩
theorem dX9_count_65 : decode cX9_count 65 = .ok (.aload_n 0, 1) ∧ 65 + 1 = 66 := ⟨by decide +kernel, rfl⟩
theorem dX9_count_66 : decode cX9_count 66 = .ok (.getfield 7, 3) ∧ 66 + 3 = 69 := ⟨by decide +kernel, rfl⟩
theorem dX9_count_69 : decode cX9_count 69 = .ok (.iconst 1, 1) ∧ 69 + 1 = 70 := ⟨by decide +kernel, rfl⟩
theorem dX9_count_70 : decode cX9_count 70 = .ok (.iaload, 1) ∧ 70 + 1 = 71 := ⟨by decide +kernel, rfl⟩
theorem dX9_count_71 : decode cX9_count 71 = .ok (.ireturn, 1) ∧ 71 + 1 = 72 := ⟨by decide +kernel, rfl⟩
theorem dX9_count_72 : decode cX9_count 72 = .ok (.aload_n 0, 1) ∧ 72 + 1 = 73 := ⟨by decide +kernel, rfl⟩
theorem dX9_count_73 : decode cX9_count 73 = .ok (.invokevirtual 154, 3) ∧ 73 + 3 = 76 := ⟨by decide +kernel, rfl⟩
theorem dX9_count_76 : decode cX9_count 76 = .ok (.ireturn, 1) ∧ 76 + 1 = 77 := ⟨by decide +kernel, rfl⟩
theorem dX9_count_77 : decode cX9_count 77 = .ok (.aload_n 0, 1) ∧ 77 + 1 = 78 := ⟨by decide +kernel, rfl⟩
theorem dX9_count_78 : decode cX9_count 78 = .ok (.invokevirtual 199, 3) ∧ 78 + 3 = 81 := ⟨by decide +kernel, rfl⟩
theorem dX9_count_81 : decode cX9_count 81 = .ok (.ireturn, 1) ∧ 81 + 1 = 82 := ⟨by decide +kernel, rfl⟩
theorem dX9_count_82 : decode cX9_count 82 = .ok (.aload_n 0, 1) ∧ 82 + 1 = 83 := ⟨by decide +kernel, rfl⟩
theorem dX9_count_83 : decode cX9_count 83 = .ok (.iconst 1, 1) ∧ 83 + 1 = 84 := ⟨by decide +kernel, rfl⟩
theorem dX9_count_84 : decode cX9_count 84 = .ok (.invokevirtual 195, 3) ∧ 84 + 3 = 87 := ⟨by decide +kernel, rfl⟩
theorem dX9_count_87 : decode cX9_count 87 = .ok (.ireturn, 1) ∧ 87 + 1 = 88 := ⟨by decide +kernel, rfl⟩
theorem dX9_count_88 : decode cX9_count 88 = .ok (.aload_n 0, 1) ∧ 88 + 1 = 89 := ⟨by decide +kernel, rfl⟩
theorem dX9_count_89 : decode cX9_count 89 = .ok (.invokevirtual 202, 3) ∧ 89 + 3 = 92 := ⟨by decide +kernel, rfl⟩
theorem dX9_count_92 : decode cX9_count 92 = .ok (.ireturn, 1) ∧ 92 + 1 = 93 := ⟨by decide +kernel, rfl⟩
theorem dX9_count_93 : decode cX9_count 93 = .ok (.aload_n 0, 1) ∧ 93 + 1 = 94 := ⟨by decide +kernel, rfl⟩
theorem dX9_count_94 : decode cX9_count 94 = .ok (.getfield 60, 3) ∧ 94 + 3 = 97 := ⟨by decide +kernel, rfl⟩
theorem dX9_count_97 : decode cX9_count 97 = .ok (.ireturn, 1) ∧ 97 + 1 = 98 := ⟨by decide +kernel, rfl⟩
theorem dX9_count_98 : decode cX9_count 98 = .ok (.aload_n 0, 1) ∧ 98 + 1 = 99 := ⟨by decide +kernel, rfl⟩
theorem dX9_count_99 : decode cX9_count 99 = .ok (.getfield 95, 3) ∧ 99 + 3 = 102 := ⟨by decide +kernel, rfl⟩
theorem dX9_count_102 : decode cX9_count 102 = .ok (.ireturn, 1) ∧ 102 + 1 = 103 := ⟨by decide +kernel, rfl⟩
theorem dX9_count_103 : decode cX9_count 103 = .ok (.bipush (-3), 2) ∧ 103 + 2 = 105 := ⟨by decide +kernel, rfl⟩
theorem dX9_count_105 : decode cX9_count 105 = .ok (.ireturn, 1) ∧ 105 + 1 = 106 := ⟨by decide +kernel, rfl⟩
theorem dJ13_bitCount_95d88_0 : decode cJ13_bitCount_95d88 0 = .ok (.lload_n 0, 1) ∧ 0 + 1 = 1 := ⟨by decide +kernel, rfl⟩
theorem dJ13_bitCount_95d88_1 : decode cJ13_bitCount_95d88 1 = .ok (.lload_n 0, 1) ∧ 1 + 1 = 2 := ⟨by decide +kernel, rfl⟩
theorem dJ13_bitCount_95d88_2 : decode cJ13_bitCount_95d88 2 = .ok (.iconst 1, 1) ∧ 2 + 1 = 3 := ⟨by decide +kernel, rfl⟩
theorem dJ13_bitCount_95d88_3 : decode cJ13_bitCount_95d88 3 = .ok (.lushr, 1) ∧ 3 + 1 = 4 := ⟨by decide +kernel, rfl⟩
theorem dJ13_bitCount_95d88_4 : decode cJ13_bitCount_95d88 4 = .ok (.ldc2_w 314, 3) ∧ 4 + 3 = 7 := ⟨by decide +kernel, rfl⟩
theorem dJ13_bitCount_95d88_7 : decode cJ13_bitCount_95d88 7 = .ok (.land, 1) ∧ 7 + 1 = 8 := ⟨by decide +kernel, rfl⟩
theorem dJ13_bitCount_95d88_8 : decode cJ13_bitCount_95d88 8 = .ok (.lsub, 1) ∧ 8 + 1 = 9 := ⟨by decide +kernel, rfl⟩
theorem dJ13_bitCount_95d88_9 : decode cJ13_bitCount_95d88 9 = .ok (.lstore_n 0, 1) ∧ 9 + 1 = 10 := ⟨by decide +kernel, rfl⟩
theorem dJ13_bitCount_95d88_10 : decode cJ13_bitCount_95d88 10 = .ok (.lload_n 0, 1) ∧ 10 + 1 = 11 := ⟨by decide +kernel, rfl⟩
theorem dJ13_bitCount_95d88_11 : decode cJ13_bitCount_95d88 11 = .ok (.ldc2_w 316, 3) ∧ 11 + 3 = 14 := ⟨by decide +kernel, rfl⟩
theorem dJ13_bitCount_95d88_14 : decode cJ13_bitCount_95d88 14 = .ok (.land, 1) ∧ 14 + 1 = 15 := ⟨by decide +kernel, rfl⟩
theorem dJ13_bitCount_95d88_15 : decode cJ13_bitCount_95d88 15 = .ok (.lload_n 0, 1) ∧ 15 + 1 = 16 := ⟨by decide +kernel, rfl⟩
theorem dJ13_bitCount_95d88_16 : decode cJ13_bitCount_95d88 16 = .ok (.iconst 2, 1) ∧ 16 + 1 = 17 := ⟨by decide +kernel, rfl⟩
theorem dJ13_bitCount_95d88_17 : decode cJ13_bitCount_95d88 17 = .ok (.lushr, 1) ∧ 17 + 1 = 18 := ⟨by decide +kernel, rfl⟩
theorem dJ13_bitCount_95d88_18 : decode cJ13_bitCount_95d88 18 = .ok (.ldc2_w 316, 3) ∧ 18 + 3 = 21 := ⟨by decide +kernel, rfl⟩
theorem dJ13_bitCount_95d88_21 : decode cJ13_bitCount_95d88 21 = .ok (.land, 1) ∧ 21 + 1 = 22 := ⟨by decide +kernel, rfl⟩
theorem dJ13_bitCount_95d88_22 : decode cJ13_bitCount_95d88 22 = .ok (.ladd, 1) ∧ 22 + 1 = 23 := ⟨by decide +kernel, rfl⟩
theorem dJ13_bitCount_95d88_23 : decode cJ13_bitCount_95d88 23 = .ok (.lstore_n 0, 1) ∧ 23 + 1 = 24 := ⟨by decide +kernel, rfl⟩
theorem dJ13_bitCount_95d88_24 : decode cJ13_bitCount_95d88 24 = .ok (.lload_n 0, 1) ∧ 24 + 1 = 25 := ⟨by decide +kernel, rfl⟩
theorem dJ13_bitCount_95d88_25 : decode cJ13_bitCount_95d88 25 = .ok (.lload_n 0, 1) ∧ 25 + 1 = 26 := ⟨by decide +kernel, rfl⟩
theorem dJ13_bitCount_95d88_26 : decode cJ13_bitCount_95d88 26 = .ok (.iconst 4, 1) ∧ 26 + 1 = 27 := ⟨by decide +kernel, rfl⟩
theorem dJ13_bitCount_95d88_27 : decode cJ13_bitCount_95d88 27 = .ok (.lushr, 1) ∧ 27 + 1 = 28 := ⟨by decide +kernel, rfl⟩
theorem dJ13_bitCount_95d88_28 : decode cJ13_bitCount_95d88 28 = .ok (.ladd, 1) ∧ 28 + 1 = 29 := ⟨by decide +kernel, rfl⟩
theorem dJ13_bitCount_95d88_29 : decode cJ13_bitCount_95d88 29 = .ok (.ldc2_w 318, 3) ∧ 29 + 3 = 32 := ⟨by decide +kernel, rfl⟩
theorem dJ13_bitCount_95d88_32 : decode cJ13_bitCount_95d88 32 = .ok (.land, 1) ∧ 32 + 1 = 33 := ⟨by decide +kernel, rfl⟩
theorem dJ13_bitCount_95d88_33 : decode cJ13_bitCount_95d88 33 = .ok (.lstore_n 0, 1) ∧ 33 + 1 = 34 := ⟨by decide +kernel, rfl⟩
theorem dJ13_bitCount_95d88_34 : decode cJ13_bitCount_95d88 34 = .ok (.lload_n 0, 1) ∧ 34 + 1 = 35 := ⟨by decide +kernel, rfl⟩
theorem dJ13_bitCount_95d88_35 : decode cJ13_bitCount_95d88 35 = .ok (.lload_n 0, 1) ∧ 35 + 1 = 36 := ⟨by decide +kernel, rfl⟩
theorem dJ13_bitCount_95d88_36 : decode cJ13_bitCount_95d88 36 = .ok (.bipush 8, 2) ∧ 36 + 2 = 38 := ⟨by decide +kernel, rfl⟩
theorem dJ13_bitCount_95d88_38 : decode cJ13_bitCount_95d88 38 = .ok (.lushr, 1) ∧ 38 + 1 = 39 := ⟨by decide +kernel, rfl⟩
theorem dJ13_bitCount_95d88_39 : decode cJ13_bitCount_95d88 39 = .ok (.ladd, 1) ∧ 39 + 1 = 40 := ⟨by decide +kernel, rfl⟩
theorem dJ13_bitCount_95d88_40 : decode cJ13_bitCount_95d88 40 = .ok (.lstore_n 0, 1) ∧ 40 + 1 = 41 := ⟨by decide +kernel, rfl⟩
theorem dJ13_bitCount_95d88_41 : decode cJ13_bitCount_95d88 41 = .ok (.lload_n 0, 1) ∧ 41 + 1 = 42 := ⟨by decide +kernel, rfl⟩
theorem dJ13_bitCount_95d88_42 : decode cJ13_bitCount_95d88 42 = .ok (.lload_n 0, 1) ∧ 42 + 1 = 43 := ⟨by decide +kernel, rfl⟩
theorem dJ13_bitCount_95d88_43 : decode cJ13_bitCount_95d88 43 = .ok (.bipush 16, 2) ∧ 43 + 2 = 45 := ⟨by decide +kernel, rfl⟩
theorem dJ13_bitCount_95d88_45 : decode cJ13_bitCount_95d88 45 = .ok (.lushr, 1) ∧ 45 + 1 = 46 := ⟨by decide +kernel, rfl⟩
theorem dJ13_bitCount_95d88_46 : decode cJ13_bitCount_95d88 46 = .ok (.ladd, 1) ∧ 46 + 1 = 47 := ⟨by decide +kernel, rfl⟩
theorem dJ13_bitCount_95d88_47 : decode cJ13_bitCount_95d88 47 = .ok (.lstore_n 0, 1) ∧ 47 + 1 = 48 := ⟨by decide +kernel, rfl⟩
theorem dJ13_bitCount_95d88_48 : decode cJ13_bitCount_95d88 48 = .ok (.lload_n 0, 1) ∧ 48 + 1 = 49 := ⟨by decide +kernel, rfl⟩
theorem dJ13_bitCount_95d88_49 : decode cJ13_bitCount_95d88 49 = .ok (.lload_n 0, 1) ∧ 49 + 1 = 50 := ⟨by decide +kernel, rfl⟩
theorem dJ13_bitCount_95d88_50 : decode cJ13_bitCount_95d88 50 = .ok (.bipush 32, 2) ∧ 50 + 2 = 52 := ⟨by decide +kernel, rfl⟩
theorem dJ13_bitCount_95d88_52 : decode cJ13_bitCount_95d88 52 = .ok (.lushr, 1) ∧ 52 + 1 = 53 := ⟨by decide +kernel, rfl⟩
theorem dJ13_bitCount_95d88_53 : decode cJ13_bitCount_95d88 53 = .ok (.ladd, 1) ∧ 53 + 1 = 54 := ⟨by decide +kernel, rfl⟩
theorem dJ13_bitCount_95d88_54 : decode cJ13_bitCount_95d88 54 = .ok (.lstore_n 0, 1) ∧ 54 + 1 = 55 := ⟨by decide +kernel, rfl⟩
theorem dJ13_bitCount_95d88_55 : decode cJ13_bitCount_95d88 55 = .ok (.lload_n 0, 1) ∧ 55 + 1 = 56 := ⟨by decide +kernel, rfl⟩
theorem dJ13_bitCount_95d88_56 : decode cJ13_bitCount_95d88 56 = .ok (.l2i, 1) ∧ 56 + 1 = 57 := ⟨by decide +kernel, rfl⟩
theorem dJ13_bitCount_95d88_57 : decode cJ13_bitCount_95d88 57 = .ok (.bipush 127, 2) ∧ 57 + 2 = 59 := ⟨by decide +kernel, rfl⟩
theorem dJ13_bitCount_95d88_59 : decode cJ13_bitCount_95d88 59 = .ok (.iand, 1) ∧ 59 + 1 = 60 := ⟨by decide +kernel, rfl⟩
theorem dJ13_bitCount_95d88_60 : decode cJ13_bitCount_95d88 60 = .ok (.ireturn, 1) ∧ 60 + 1 = 61 := ⟨by decide +kernel, rfl⟩
theorem dJ9_floorMod_7cf53_0 : decode cJ9_floorMod_7cf53 0 = .ok (.iload_n 0, 1) ∧ 0 + 1 = 1 := ⟨by decide +kernel, rfl⟩
theorem dJ9_floorMod_7cf53_1 : decode cJ9_floorMod_7cf53 1 = .ok (.iload_n 1, 1) ∧ 1 + 1 = 2 := ⟨by decide +kernel, rfl⟩
theorem dJ9_floorMod_7cf53_2 : decode cJ9_floorMod_7cf53 2 = .ok (.irem, 1) ∧ 2 + 1 = 3 := ⟨by decide +kernel, rfl⟩
theorem dJ9_floorMod_7cf53_3 : decode cJ9_floorMod_7cf53 3 = .ok (.istore_n 2, 1) ∧ 3 + 1 = 4 := ⟨by decide +kernel, rfl⟩
theorem dJ9_floorMod_7cf53_4 : decode cJ9_floorMod_7cf53 4 = .ok (.iload_n 0, 1) ∧ 4 + 1 = 5 := ⟨by decide +kernel, rfl⟩
theorem dJ9_floorMod_7cf53_5 : decode cJ9_floorMod_7cf53 5 = .ok (.iload_n 1, 1) ∧ 5 + 1 = 6 := ⟨by decide +kernel, rfl⟩
theorem dJ9_floorMod_7cf53_6 : decode cJ9_floorMod_7cf53 6 = .ok (.ixor, 1) ∧ 6 + 1 = 7 := ⟨by decide +kernel, rfl⟩
theorem dJ9_floorMod_7cf53_7 : decode cJ9_floorMod_7cf53 7 = .ok (.ifCond .ge 11, 3) ∧ 7 + 3 = 10 ∧ ((7 : Nat) : Int) + (11) = ((18 : Nat) : Int) := ⟨by decide +kernel, rfl, rfl⟩
theorem dJ9_floorMod_7cf53_10 : decode cJ9_floorMod_7cf53 10 = .ok (.iload_n 2, 1) ∧ 10 + 1 = 11 := ⟨by decide +kernel, rfl⟩
theorem dJ9_floorMod_7cf53_11 : decode cJ9_floorMod_7cf53 11 = .ok (.ifCond .eq 7, 3) ∧ 11 + 3 = 14 ∧ ((11 : Nat) : Int) + (7) = ((18 : Nat) : Int) := ⟨by decide +kernel, rfl, rfl⟩
theorem dJ9_floorMod_7cf53_14 : decode cJ9_floorMod_7cf53 14 = .ok (.iload_n 2, 1) ∧ 14 + 1 = 15 := ⟨by decide +kernel, rfl⟩
theorem dJ9_floorMod_7cf53_15 : decode cJ9_floorMod_7cf53 15 = .ok (.iload_n 1, 1) ∧ 15 + 1 = 16 := ⟨by decide +kernel, rfl⟩
theorem dJ9_floorMod_7cf53_16 : decode cJ9_floorMod_7cf53 16 = .ok (.iadd, 1) ∧ 16 + 1 = 17 := ⟨by decide +kernel, rfl⟩
theorem dJ9_floorMod_7cf53_17 : decode cJ9_floorMod_7cf53 17 = .ok (.ireturn, 1) ∧ 17 + 1 = 18 := ⟨by decide +kernel, rfl⟩
theorem dJ9_floorMod_7cf53_18 : decode cJ9_floorMod_7cf53 18 = .ok (.iload_n 2, 1) ∧ 18 + 1 = 19 := ⟨by decide +kernel, rfl⟩
theorem dJ9_floorMod_7cf53_19 : decode cJ9_floorMod_7cf53 19 = .ok (.ireturn, 1) ∧ 19 + 1 = 20 := ⟨by decide +kernel, rfl⟩
theorem dJ9_abs_0f7a4_0 : decode cJ9_abs_0f7a4 0 = .ok (.iload_n 0, 1) ∧ 0 + 1 = 1 := ⟨by decide +kernel, rfl⟩
theorem dJ9_abs_0f7a4_1 : decode cJ9_abs_0f7a4 1 = .ok (.ifCond .ge 8, 3) ∧ 1 + 3 = 4 ∧ ((1 : Nat) : Int) + (8) = ((9 : Nat) : Int) := ⟨by decide +kernel, rfl, rfl⟩
theorem dJ9_abs_0f7a4_4 : decode cJ9_abs_0f7a4 4 = .ok (.iload_n 0, 1) ∧ 4 + 1 = 5 := ⟨by decide +kernel, rfl⟩
theorem dJ9_abs_0f7a4_5 : decode cJ9_abs_0f7a4 5 = .ok (.ineg, 1) ∧ 5 + 1 = 6 := ⟨by decide +kernel, rfl⟩
theorem dJ9_abs_0f7a4_6 : decode cJ9_abs_0f7a4 6 = .ok (.goto 4, 3) ∧ 6 + 3 = 9 ∧ ((6 : Nat) : Int) + (4) = ((10 : Nat) : Int) := ⟨by decide +kernel, rfl, rfl⟩
theorem dJ9_abs_0f7a4_9 : decode cJ9_abs_0f7a4 9 = .ok (.iload_n 0, 1) ∧ 9 + 1 = 10 := ⟨by decide +kernel, rfl⟩
theorem dJ9_abs_0f7a4_10 : decode cJ9_abs_0f7a4 10 = .ok (.ireturn, 1) ∧ 10 + 1 = 11 := ⟨by decide +kernel, rfl⟩
theorem dJ9_max_7cf53_0 : decode cJ9_max_7cf53 0 = .ok (.iload_n 0, 1) ∧ 0 + 1 = 1 := ⟨by decide +kernel, rfl⟩
theorem dJ9_max_7cf53_1 : decode cJ9_max_7cf53 1 = .ok (.iload_n 1, 1) ∧ 1 + 1 = 2 := ⟨by decide +kernel, rfl⟩
theorem dJ9_max_7cf53_2 : decode cJ9_max_7cf53 2 = .ok (.if_icmp .lt 7, 3) ∧ 2 + 3 = 5 ∧ ((2 : Nat) : Int) + (7) = ((9 : Nat) : Int) := ⟨by decide +kernel, rfl, rfl⟩
theorem dJ9_max_7cf53_5 : decode cJ9_max_7cf53 5 = .ok (.iload_n 0, 1) ∧ 5 + 1 = 6 := ⟨by decide +kernel, rfl⟩
theorem dJ9_max_7cf53_6 : decode cJ9_max_7cf53 6 = .ok (.goto 4, 3) ∧ 6 + 3 = 9 ∧ ((6 : Nat) : Int) + (4) = ((10 : Nat) : Int) := ⟨by decide +kernel, rfl, rfl⟩
theorem dJ9_max_7cf53_9 : decode cJ9_max_7cf53 9 = .ok (.iload_n 1, 1) ∧ 9 + 1 = 10 := ⟨by decide +kernel, rfl⟩
theorem dJ9_max_7cf53_10 : decode cJ9_max_7cf53 10 = .ok (.ireturn, 1) ∧ 10 + 1 = 11 := ⟨by decide +kernel, rfl⟩
theorem dJ9_min_7cf53_0 : decode cJ9_min_7cf53 0 = .ok (.iload_n 0, 1) ∧ 0 + 1 = 1 := ⟨by decide +kernel, rfl⟩
theorem dJ9_min_7cf53_1 : decode cJ9_min_7cf53 1 = .ok (.iload_n 1, 1) ∧ 1 + 1 = 2 := ⟨by decide +kernel, rfl⟩
theorem dJ9_min_7cf53_2 : decode cJ9_min_7cf53 2 = .ok (.if_icmp .gt 7, 3) ∧ 2 + 3 = 5 ∧ ((2 : Nat) : Int) + (7) = ((9 : Nat) : Int) := ⟨by decide +kernel, rfl, rfl⟩
theorem dJ9_min_7cf53_5 : decode cJ9_min_7cf53 5 = .ok (.iload_n 0, 1) ∧ 5 + 1 = 6 := ⟨by decide +kernel, rfl⟩
theorem dJ9_min_7cf53_6 : decode cJ9_min_7cf53 6 = .ok (.goto 4, 3) ∧ 6 + 3 = 9 ∧ ((6 : Nat) : Int) + (4) = ((10 : Nat) : Int) := ⟨by decide +kernel, rfl, rfl⟩
theorem dJ9_min_7cf53_9 : decode cJ9_min_7cf53 9 = .ok (.iload_n 1, 1) ∧ 9 + 1 = 10 := ⟨by decide +kernel, rfl⟩
theorem dJ9_min_7cf53_10 : decode cJ9_min_7cf53 10 = .ok (.ireturn, 1) ∧ 10 + 1 = 11 := ⟨by decide +kernel, rfl⟩
theorem dL_law_0 : decode cL_law 0 = .ok (.new 7, 3) ∧ 0 + 3 = 3 := ⟨by decide +kernel, rfl⟩
theorem dL_law_3 : decode cL_law 3 = .ok (.dup, 1) ∧ 3 + 1 = 4 := ⟨by decide +kernel, rfl⟩
theorem dL_law_4 : decode cL_law 4 = .ok (.invokespecial 9, 3) ∧ 4 + 3 = 7 := ⟨by decide +kernel, rfl⟩
theorem dL_law_7 : decode cL_law 7 = .ok (.astore_n 1, 1) ∧ 7 + 1 = 8 := ⟨by decide +kernel, rfl⟩
theorem dL_law_8 : decode cL_law 8 = .ok (.new 10, 3) ∧ 8 + 3 = 11 := ⟨by decide +kernel, rfl⟩
theorem dL_law_11 : decode cL_law 11 = .ok (.dup, 1) ∧ 11 + 1 = 12 := ⟨by decide +kernel, rfl⟩
theorem dL_law_12 : decode cL_law 12 = .ok (.invokespecial 12, 3) ∧ 12 + 3 = 15 := ⟨by decide +kernel, rfl⟩
theorem dL_law_15 : decode cL_law 15 = .ok (.astore_n 2, 1) ∧ 15 + 1 = 16 := ⟨by decide +kernel, rfl⟩
theorem dL_law_16 : decode cL_law 16 = .ok (.iconst 0, 1) ∧ 16 + 1 = 17 := ⟨by decide +kernel, rfl⟩
theorem dL_law_17 : decode cL_law 17 = .ok (.istore_n 3, 1) ∧ 17 + 1 = 18 := ⟨by decide +kernel, rfl⟩
theorem dL_law_18 : decode cL_law 18 = .ok (.iload_n 3, 1) ∧ 18 + 1 = 19 := ⟨by decide +kernel, rfl⟩
theorem dL_law_19 : decode cL_law 19 = .ok (.aload_n 0, 1) ∧ 19 + 1 = 20 := ⟨by decide +kernel, rfl⟩
theorem dL_law_20 : decode cL_law 20 = .ok (.arraylength, 1) ∧ 20 + 1 = 21 := ⟨by decide +kernel, rfl⟩
theorem dL_law_21 : decode cL_law 21 = .ok (.iconst 3, 1) ∧ 21 + 1 = 22 := ⟨by decide +kernel, rfl⟩
theorem dL_law_22 : decode cL_law 22 = .ok (.isub, 1) ∧ 22 + 1 = 23 := ⟨by decide +kernel, rfl⟩
theorem dL_law_23 : decode cL_law 23 = .ok (.if_icmp .gt 720, 3) ∧ 23 + 3 = 26 ∧ ((23 : Nat) : Int) + (720) = ((743 : Nat) : Int) := ⟨by decide +kernel, rfl, rfl⟩
theorem dL_law_26 : decode cL_law 26 = .ok (.aload_n 0, 1) ∧ 26 + 1 = 27 := ⟨by decide +kernel, rfl⟩
theorem dL_law_27 : decode cL_law 27 = .ok (.iload_n 3, 1) ∧ 27 + 1 = 28 := ⟨by decide +kernel, rfl⟩
theorem dL_law_28 : decode cL_law 28 = .ok (.iaload, 1) ∧ 28 + 1 = 29 := ⟨by decide +kernel, rfl⟩
theorem dL_law_29 : decode cL_law 29 = .ok (.bipush 31, 2) ∧ 29 + 2 = 31 := ⟨by decide +kernel, rfl⟩
theorem dL_law_31 : decode cL_law 31 = .ok (.iand, 1) ∧ 31 + 1 = 32 := ⟨by decide +kernel, rfl⟩
theorem dL_law_32 : decode cL_law 32 = .ok (.tableswitch 705 0 22 #[108, 131, 164, 197, 220, 253, 276, 309, 358, 381, 404, 429, 442, 455, 468, 481, 494, 527, 560, 593, 626, 659, 682], 108) ∧ 32 + 108 = 140 := ⟨by decide +kernel, rfl⟩
theorem dL_law_140 : decode cL_law 140 = .ok (.aload_n 1, 1) ∧ 140 + 1 = 141 := ⟨by decide +kernel, rfl⟩
theorem dL_law_141 : decode cL_law 141 = .ok (.aload_n 0, 1) ∧ 141 + 1 = 142 := ⟨by decide +kernel, rfl⟩
theorem dL_law_142 : decode cL_law 142 = .ok (.iload_n 3, 1) ∧ 142 + 1 = 143 := ⟨by decide +kernel, rfl⟩
theorem dL_law_143 : decode cL_law 143 = .ok (.iconst 1, 1) ∧ 143 + 1 = 144 := ⟨by decide +kernel, rfl⟩
theorem dL_law_144 : decode cL_law 144 = .ok (.iadd, 1) ∧ 144 + 1 = 145 := ⟨by decide +kernel, rfl⟩
theorem dL_law_145 : decode cL_law 145 = .ok (.iaload, 1) ∧ 145 + 1 = 146 := ⟨by decide +kernel, rfl⟩
theorem dL_law_146 : decode cL_law 146 = .ok (.invokevirtual 13, 3) ∧ 146 + 3 = 149 := ⟨by decide +kernel, rfl⟩
theorem dL_law_149 : decode cL_law 149 = .ok (.aload_n 2, 1) ∧ 149 + 1 = 150 := ⟨by decide +kernel, rfl⟩
theorem dL_law_150 : decode cL_law 150 = .ok (.aload_n 0, 1) ∧ 150 + 1 = 151 := ⟨by decide +kernel, rfl⟩
theorem dL_law_151 : decode cL_law 151 = .ok (.iload_n 3, 1) ∧ 151 + 1 = 152 := ⟨by decide +kernel, rfl⟩
theorem dL_law_152 : decode cL_law 152 = .ok (.iconst 1, 1) ∧ 152 + 1 = 153 := ⟨by decide +kernel, rfl⟩
theorem dL_law_153 : decode cL_law 153 = .ok (.iadd, 1) ∧ 153 + 1 = 154 := ⟨by decide +kernel, rfl⟩
theorem dL_law_154 : decode cL_law 154 = .ok (.iaload, 1) ∧ 154 + 1 = 155 := ⟨by decide +kernel, rfl⟩
theorem dL_law_155 : decode cL_law 155 = .ok (.invokevirtual 17, 3) ∧ 155 + 3 = 158 := ⟨by decide +kernel, rfl⟩
theorem dL_law_158 : decode cL_law 158 = .ok (.if_icmp .eq 579, 3) ∧ 158 + 3 = 161 ∧ ((158 : Nat) : Int) + (579) = ((737 : Nat) : Int) := ⟨by decide +kernel, rfl, rfl⟩
theorem dL_law_161 : decode cL_law 161 = .ok (.iconst 0, 1) ∧ 161 + 1 = 162 := ⟨by decide +kernel, rfl⟩
theorem dL_law_162 : decode cL_law 162 = .ok (.ireturn, 1) ∧ 162 + 1 = 163 := ⟨by decide +kernel, rfl⟩
theorem dL_law_163 : decode cL_law 163 = .ok (.aload_n 1, 1) ∧ 163 + 1 = 164 := ⟨by decide +kernel, rfl⟩
theorem dL_law_164 : decode cL_law 164 = .ok (.aload_n 0, 1) ∧ 164 + 1 = 165 := ⟨by decide +kernel, rfl⟩
theorem dL_law_165 : decode cL_law 165 = .ok (.iload_n 3, 1) ∧ 165 + 1 = 166 := ⟨by decide +kernel, rfl⟩
theorem dL_law_166 : decode cL_law 166 = .ok (.iconst 1, 1) ∧ 166 + 1 = 167 := ⟨by decide +kernel, rfl⟩
theorem dL_law_167 : decode cL_law 167 = .ok (.iadd, 1) ∧ 167 + 1 = 168 := ⟨by decide +kernel, rfl⟩
theorem dL_law_168 : decode cL_law 168 = .ok (.iaload, 1) ∧ 168 + 1 = 169 := ⟨by decide +kernel, rfl⟩
theorem dL_law_169 : decode cL_law 169 = .ok (.aload_n 0, 1) ∧ 169 + 1 = 170 := ⟨by decide +kernel, rfl⟩
theorem dL_law_170 : decode cL_law 170 = .ok (.iload_n 3, 1) ∧ 170 + 1 = 171 := ⟨by decide +kernel, rfl⟩
theorem dL_law_171 : decode cL_law 171 = .ok (.iconst 2, 1) ∧ 171 + 1 = 172 := ⟨by decide +kernel, rfl⟩
theorem dL_law_172 : decode cL_law 172 = .ok (.iadd, 1) ∧ 172 + 1 = 173 := ⟨by decide +kernel, rfl⟩
theorem dL_law_173 : decode cL_law 173 = .ok (.iaload, 1) ∧ 173 + 1 = 174 := ⟨by decide +kernel, rfl⟩
theorem dL_law_174 : decode cL_law 174 = .ok (.invokevirtual 18, 3) ∧ 174 + 3 = 177 := ⟨by decide +kernel, rfl⟩
theorem dL_law_177 : decode cL_law 177 = .ok (.aload_n 2, 1) ∧ 177 + 1 = 178 := ⟨by decide +kernel, rfl⟩
theorem dL_law_178 : decode cL_law 178 = .ok (.aload_n 0, 1) ∧ 178 + 1 = 179 := ⟨by decide +kernel, rfl⟩
theorem dL_law_179 : decode cL_law 179 = .ok (.iload_n 3, 1) ∧ 179 + 1 = 180 := ⟨by decide +kernel, rfl⟩
theorem dL_law_180 : decode cL_law 180 = .ok (.iconst 1, 1) ∧ 180 + 1 = 181 := ⟨by decide +kernel, rfl⟩
theorem dL_law_181 : decode cL_law 181 = .ok (.iadd, 1) ∧ 181 + 1 = 182 := ⟨by decide +kernel, rfl⟩
theorem dL_law_182 : decode cL_law 182 = .ok (.iaload, 1) ∧ 182 + 1 = 183 := ⟨by decide +kernel, rfl⟩
theorem dL_law_183 : decode cL_law 183 = .ok (.aload_n 0, 1) ∧ 183 + 1 = 184 := ⟨by decide +kernel, rfl⟩
theorem dL_law_184 : decode cL_law 184 = .ok (.iload_n 3, 1) ∧ 184 + 1 = 185 := ⟨by decide +kernel, rfl⟩
theorem dL_law_185 : decode cL_law 185 = .ok (.iconst 2, 1) ∧ 185 + 1 = 186 := ⟨by decide +kernel, rfl⟩
theorem dL_law_186 : decode cL_law 186 = .ok (.iadd, 1) ∧ 186 + 1 = 187 := ⟨by decide +kernel, rfl⟩
theorem dL_law_187 : decode cL_law 187 = .ok (.iaload, 1) ∧ 187 + 1 = 188 := ⟨by decide +kernel, rfl⟩
theorem dL_law_188 : decode cL_law 188 = .ok (.invokevirtual 22, 3) ∧ 188 + 3 = 191 := ⟨by decide +kernel, rfl⟩
theorem dL_law_191 : decode cL_law 191 = .ok (.if_icmp .eq 546, 3) ∧ 191 + 3 = 194 ∧ ((191 : Nat) : Int) + (546) = ((737 : Nat) : Int) := ⟨by decide +kernel, rfl, rfl⟩
theorem dL_law_194 : decode cL_law 194 = .ok (.iconst 0, 1) ∧ 194 + 1 = 195 := ⟨by decide +kernel, rfl⟩
theorem dL_law_195 : decode cL_law 195 = .ok (.ireturn, 1) ∧ 195 + 1 = 196 := ⟨by decide +kernel, rfl⟩
theorem dL_law_196 : decode cL_law 196 = .ok (.aload_n 1, 1) ∧ 196 + 1 = 197 := ⟨by decide +kernel, rfl⟩
theorem dL_law_197 : decode cL_law 197 = .ok (.aload_n 0, 1) ∧ 197 + 1 = 198 := ⟨by decide +kernel, rfl⟩
theorem dL_law_198 : decode cL_law 198 = .ok (.iload_n 3, 1) ∧ 198 + 1 = 199 := ⟨by decide +kernel, rfl⟩
theorem dL_law_199 : decode cL_law 199 = .ok (.iconst 1, 1) ∧ 199 + 1 = 200 := ⟨by decide +kernel, rfl⟩
theorem dL_law_200 : decode cL_law 200 = .ok (.iadd, 1) ∧ 200 + 1 = 201 := ⟨by decide +kernel, rfl⟩
theorem dL_law_201 : decode cL_law 201 = .ok (.iaload, 1) ∧ 201 + 1 = 202 := ⟨by decide +kernel, rfl⟩
theorem dL_law_202 : decode cL_law 202 = .ok (.aload_n 0, 1) ∧ 202 + 1 = 203 := ⟨by decide +kernel, rfl⟩
theorem dL_law_203 : decode cL_law 203 = .ok (.iload_n 3, 1) ∧ 203 + 1 = 204 := ⟨by decide +kernel, rfl⟩
theorem dL_law_204 : decode cL_law 204 = .ok (.iconst 2, 1) ∧ 204 + 1 = 205 := ⟨by decide +kernel, rfl⟩
theorem dL_law_205 : decode cL_law 205 = .ok (.iadd, 1) ∧ 205 + 1 = 206 := ⟨by decide +kernel, rfl⟩
theorem dL_law_206 : decode cL_law 206 = .ok (.iaload, 1) ∧ 206 + 1 = 207 := ⟨by decide +kernel, rfl⟩
theorem dL_law_207 : decode cL_law 207 = .ok (.invokevirtual 23, 3) ∧ 207 + 3 = 210 := ⟨by decide +kernel, rfl⟩
theorem dL_law_210 : decode cL_law 210 = .ok (.aload_n 2, 1) ∧ 210 + 1 = 211 := ⟨by decide +kernel, rfl⟩
theorem dL_law_211 : decode cL_law 211 = .ok (.aload_n 0, 1) ∧ 211 + 1 = 212 := ⟨by decide +kernel, rfl⟩
theorem dL_law_212 : decode cL_law 212 = .ok (.iload_n 3, 1) ∧ 212 + 1 = 213 := ⟨by decide +kernel, rfl⟩
theorem dL_law_213 : decode cL_law 213 = .ok (.iconst 1, 1) ∧ 213 + 1 = 214 := ⟨by decide +kernel, rfl⟩
theorem dL_law_214 : decode cL_law 214 = .ok (.iadd, 1) ∧ 214 + 1 = 215 := ⟨by decide +kernel, rfl⟩
theorem dL_law_215 : decode cL_law 215 = .ok (.iaload, 1) ∧ 215 + 1 = 216 := ⟨by decide +kernel, rfl⟩
theorem dL_law_216 : decode cL_law 216 = .ok (.aload_n 0, 1) ∧ 216 + 1 = 217 := ⟨by decide +kernel, rfl⟩
theorem dL_law_217 : decode cL_law 217 = .ok (.iload_n 3, 1) ∧ 217 + 1 = 218 := ⟨by decide +kernel, rfl⟩
theorem dL_law_218 : decode cL_law 218 = .ok (.iconst 2, 1) ∧ 218 + 1 = 219 := ⟨by decide +kernel, rfl⟩
theorem dL_law_219 : decode cL_law 219 = .ok (.iadd, 1) ∧ 219 + 1 = 220 := ⟨by decide +kernel, rfl⟩
theorem dL_law_220 : decode cL_law 220 = .ok (.iaload, 1) ∧ 220 + 1 = 221 := ⟨by decide +kernel, rfl⟩
theorem dL_law_221 : decode cL_law 221 = .ok (.invokevirtual 26, 3) ∧ 221 + 3 = 224 := ⟨by decide +kernel, rfl⟩
theorem dL_law_224 : decode cL_law 224 = .ok (.if_icmp .eq 513, 3) ∧ 224 + 3 = 227 ∧ ((224 : Nat) : Int) + (513) = ((737 : Nat) : Int) := ⟨by decide +kernel, rfl, rfl⟩
theorem dL_law_227 : decode cL_law 227 = .ok (.iconst 0, 1) ∧ 227 + 1 = 228 := ⟨by decide +kernel, rfl⟩
theorem dL_law_228 : decode cL_law 228 = .ok (.ireturn, 1) ∧ 228 + 1 = 229 := ⟨by decide +kernel, rfl⟩
theorem dL_law_229 : decode cL_law 229 = .ok (.aload_n 1, 1) ∧ 229 + 1 = 230 := ⟨by decide +kernel, rfl⟩
theorem dL_law_230 : decode cL_law 230 = .ok (.aload_n 0, 1) ∧ 230 + 1 = 231 := ⟨by decide +kernel, rfl⟩
theorem dL_law_231 : decode cL_law 231 = .ok (.iload_n 3, 1) ∧ 231 + 1 = 232 := ⟨by decide +kernel, rfl⟩
theorem dL_law_232 : decode cL_law 232 = .ok (.iconst 1, 1) ∧ 232 + 1 = 233 := ⟨by decide +kernel, rfl⟩
theorem dL_law_233 : decode cL_law 233 = .ok (.iadd, 1) ∧ 233 + 1 = 234 := ⟨by decide +kernel, rfl⟩
theorem dL_law_234 : decode cL_law 234 = .ok (.iaload, 1) ∧ 234 + 1 = 235 := ⟨by decide +kernel, rfl⟩
theorem dL_law_235 : decode cL_law 235 = .ok (.invokevirtual 27, 3) ∧ 235 + 3 = 238 := ⟨by decide +kernel, rfl⟩
theorem dL_law_238 : decode cL_law 238 = .ok (.aload_n 2, 1) ∧ 238 + 1 = 239 := ⟨by decide +kernel, rfl⟩
theorem dL_law_239 : decode cL_law 239 = .ok (.aload_n 0, 1) ∧ 239 + 1 = 240 := ⟨by decide +kernel, rfl⟩
theorem dL_law_240 : decode cL_law 240 = .ok (.iload_n 3, 1) ∧ 240 + 1 = 241 := ⟨by decide +kernel, rfl⟩
theorem dL_law_241 : decode cL_law 241 = .ok (.iconst 1, 1) ∧ 241 + 1 = 242 := ⟨by decide +kernel, rfl⟩
theorem dL_law_242 : decode cL_law 242 = .ok (.iadd, 1) ∧ 242 + 1 = 243 := ⟨by decide +kernel, rfl⟩
theorem dL_law_243 : decode cL_law 243 = .ok (.iaload, 1) ∧ 243 + 1 = 244 := ⟨by decide +kernel, rfl⟩
theorem dL_law_244 : decode cL_law 244 = .ok (.invokevirtual 30, 3) ∧ 244 + 3 = 247 := ⟨by decide +kernel, rfl⟩
theorem dL_law_247 : decode cL_law 247 = .ok (.if_icmp .eq 490, 3) ∧ 247 + 3 = 250 ∧ ((247 : Nat) : Int) + (490) = ((737 : Nat) : Int) := ⟨by decide +kernel, rfl, rfl⟩
theorem dL_law_250 : decode cL_law 250 = .ok (.iconst 0, 1) ∧ 250 + 1 = 251 := ⟨by decide +kernel, rfl⟩
theorem dL_law_251 : decode cL_law 251 = .ok (.ireturn, 1) ∧ 251 + 1 = 252 := ⟨by decide +kernel, rfl⟩
theorem dL_law_252 : decode cL_law 252 = .ok (.aload_n 1, 1) ∧ 252 + 1 = 253 := ⟨by decide +kernel, rfl⟩
theorem dL_law_253 : decode cL_law 253 = .ok (.aload_n 0, 1) ∧ 253 + 1 = 254 := ⟨by decide +kernel, rfl⟩
theorem dL_law_254 : decode cL_law 254 = .ok (.iload_n 3, 1) ∧ 254 + 1 = 255 := ⟨by decide +kernel, rfl⟩
theorem dL_law_255 : decode cL_law 255 = .ok (.iconst 1, 1) ∧ 255 + 1 = 256 := ⟨by decide +kernel, rfl⟩
theorem dL_law_256 : decode cL_law 256 = .ok (.iadd, 1) ∧ 256 + 1 = 257 := ⟨by decide +kernel, rfl⟩
theorem dL_law_257 : decode cL_law 257 = .ok (.iaload, 1) ∧ 257 + 1 = 258 := ⟨by decide +kernel, rfl⟩
theorem dL_law_258 : decode cL_law 258 = .ok (.aload_n 0, 1) ∧ 258 + 1 = 259 := ⟨by decide +kernel, rfl⟩
theorem dL_law_259 : decode cL_law 259 = .ok (.iload_n 3, 1) ∧ 259 + 1 = 260 := ⟨by decide +kernel, rfl⟩
theorem dL_law_260 : decode cL_law 260 = .ok (.iconst 2, 1) ∧ 260 + 1 = 261 := ⟨by decide +kernel, rfl⟩
theorem dL_law_261 : decode cL_law 261 = .ok (.iadd, 1) ∧ 261 + 1 = 262 := ⟨by decide +kernel, rfl⟩
theorem dL_law_262 : decode cL_law 262 = .ok (.iaload, 1) ∧ 262 + 1 = 263 := ⟨by decide +kernel, rfl⟩
theorem dL_law_263 : decode cL_law 263 = .ok (.invokevirtual 31, 3) ∧ 263 + 3 = 266 := ⟨by decide +kernel, rfl⟩
theorem dL_law_266 : decode cL_law 266 = .ok (.aload_n 2, 1) ∧ 266 + 1 = 267 := ⟨by decide +kernel, rfl⟩
theorem dL_law_267 : decode cL_law 267 = .ok (.aload_n 0, 1) ∧ 267 + 1 = 268 := ⟨by decide +kernel, rfl⟩
theorem dL_law_268 : decode cL_law 268 = .ok (.iload_n 3, 1) ∧ 268 + 1 = 269 := ⟨by decide +kernel, rfl⟩
theorem dL_law_269 : decode cL_law 269 = .ok (.iconst 1, 1) ∧ 269 + 1 = 270 := ⟨by decide +kernel, rfl⟩
theorem dL_law_270 : decode cL_law 270 = .ok (.iadd, 1) ∧ 270 + 1 = 271 := ⟨by decide +kernel, rfl⟩
theorem dL_law_271 : decode cL_law 271 = .ok (.iaload, 1) ∧ 271 + 1 = 272 := ⟨by decide +kernel, rfl⟩
theorem dL_law_272 : decode cL_law 272 = .ok (.aload_n 0, 1) ∧ 272 + 1 = 273 := ⟨by decide +kernel, rfl⟩
theorem dL_law_273 : decode cL_law 273 = .ok (.iload_n 3, 1) ∧ 273 + 1 = 274 := ⟨by decide +kernel, rfl⟩
theorem dL_law_274 : decode cL_law 274 = .ok (.iconst 2, 1) ∧ 274 + 1 = 275 := ⟨by decide +kernel, rfl⟩
theorem dL_law_275 : decode cL_law 275 = .ok (.iadd, 1) ∧ 275 + 1 = 276 := ⟨by decide +kernel, rfl⟩
theorem dL_law_276 : decode cL_law 276 = .ok (.iaload, 1) ∧ 276 + 1 = 277 := ⟨by decide +kernel, rfl⟩
theorem dL_law_277 : decode cL_law 277 = .ok (.invokevirtual 34, 3) ∧ 277 + 3 = 280 := ⟨by decide +kernel, rfl⟩
theorem dL_law_280 : decode cL_law 280 = .ok (.if_icmp .eq 457, 3) ∧ 280 + 3 = 283 ∧ ((280 : Nat) : Int) + (457) = ((737 : Nat) : Int) := ⟨by decide +kernel, rfl, rfl⟩
theorem dL_law_283 : decode cL_law 283 = .ok (.iconst 0, 1) ∧ 283 + 1 = 284 := ⟨by decide +kernel, rfl⟩
theorem dL_law_284 : decode cL_law 284 = .ok (.ireturn, 1) ∧ 284 + 1 = 285 := ⟨by decide +kernel, rfl⟩
theorem dL_law_285 : decode cL_law 285 = .ok (.aload_n 1, 1) ∧ 285 + 1 = 286 := ⟨by decide +kernel, rfl⟩
theorem dL_law_286 : decode cL_law 286 = .ok (.aload_n 0, 1) ∧ 286 + 1 = 287 := ⟨by decide +kernel, rfl⟩
theorem dL_law_287 : decode cL_law 287 = .ok (.iload_n 3, 1) ∧ 287 + 1 = 288 := ⟨by decide +kernel, rfl⟩
theorem dL_law_288 : decode cL_law 288 = .ok (.iconst 1, 1) ∧ 288 + 1 = 289 := ⟨by decide +kernel, rfl⟩
theorem dL_law_289 : decode cL_law 289 = .ok (.iadd, 1) ∧ 289 + 1 = 290 := ⟨by decide +kernel, rfl⟩
theorem dL_law_290 : decode cL_law 290 = .ok (.iaload, 1) ∧ 290 + 1 = 291 := ⟨by decide +kernel, rfl⟩
theorem dL_law_291 : decode cL_law 291 = .ok (.invokevirtual 35, 3) ∧ 291 + 3 = 294 := ⟨by decide +kernel, rfl⟩
theorem dL_law_294 : decode cL_law 294 = .ok (.aload_n 2, 1) ∧ 294 + 1 = 295 := ⟨by decide +kernel, rfl⟩
theorem dL_law_295 : decode cL_law 295 = .ok (.aload_n 0, 1) ∧ 295 + 1 = 296 := ⟨by decide +kernel, rfl⟩
theorem dL_law_296 : decode cL_law 296 = .ok (.iload_n 3, 1) ∧ 296 + 1 = 297 := ⟨by decide +kernel, rfl⟩
theorem dL_law_297 : decode cL_law 297 = .ok (.iconst 1, 1) ∧ 297 + 1 = 298 := ⟨by decide +kernel, rfl⟩
theorem dL_law_298 : decode cL_law 298 = .ok (.iadd, 1) ∧ 298 + 1 = 299 := ⟨by decide +kernel, rfl⟩
theorem dL_law_299 : decode cL_law 299 = .ok (.iaload, 1) ∧ 299 + 1 = 300 := ⟨by decide +kernel, rfl⟩
theorem dL_law_300 : decode cL_law 300 = .ok (.invokevirtual 38, 3) ∧ 300 + 3 = 303 := ⟨by decide +kernel, rfl⟩
theorem dL_law_303 : decode cL_law 303 = .ok (.if_icmp .eq 434, 3) ∧ 303 + 3 = 306 ∧ ((303 : Nat) : Int) + (434) = ((737 : Nat) : Int) := ⟨by decide +kernel, rfl, rfl⟩
theorem dL_law_306 : decode cL_law 306 = .ok (.iconst 0, 1) ∧ 306 + 1 = 307 := ⟨by decide +kernel, rfl⟩
theorem dL_law_307 : decode cL_law 307 = .ok (.ireturn, 1) ∧ 307 + 1 = 308 := ⟨by decide +kernel, rfl⟩
theorem dL_law_308 : decode cL_law 308 = .ok (.aload_n 1, 1) ∧ 308 + 1 = 309 := ⟨by decide +kernel, rfl⟩
theorem dL_law_309 : decode cL_law 309 = .ok (.aload_n 0, 1) ∧ 309 + 1 = 310 := ⟨by decide +kernel, rfl⟩
theorem dL_law_310 : decode cL_law 310 = .ok (.iload_n 3, 1) ∧ 310 + 1 = 311 := ⟨by decide +kernel, rfl⟩
theorem dL_law_311 : decode cL_law 311 = .ok (.iconst 1, 1) ∧ 311 + 1 = 312 := ⟨by decide +kernel, rfl⟩
theorem dL_law_312 : decode cL_law 312 = .ok (.iadd, 1) ∧ 312 + 1 = 313 := ⟨by decide +kernel, rfl⟩
theorem dL_law_313 : decode cL_law 313 = .ok (.iaload, 1) ∧ 313 + 1 = 314 := ⟨by decide +kernel, rfl⟩
theorem dL_law_314 : decode cL_law 314 = .ok (.aload_n 0, 1) ∧ 314 + 1 = 315 := ⟨by decide +kernel, rfl⟩
theorem dL_law_315 : decode cL_law 315 = .ok (.iload_n 3, 1) ∧ 315 + 1 = 316 := ⟨by decide +kernel, rfl⟩
theorem dL_law_316 : decode cL_law 316 = .ok (.iconst 2, 1) ∧ 316 + 1 = 317 := ⟨by decide +kernel, rfl⟩
theorem dL_law_317 : decode cL_law 317 = .ok (.iadd, 1) ∧ 317 + 1 = 318 := ⟨by decide +kernel, rfl⟩
theorem dL_law_318 : decode cL_law 318 = .ok (.iaload, 1) ∧ 318 + 1 = 319 := ⟨by decide +kernel, rfl⟩
theorem dL_law_319 : decode cL_law 319 = .ok (.invokevirtual 39, 3) ∧ 319 + 3 = 322 := ⟨by decide +kernel, rfl⟩
theorem dL_law_322 : decode cL_law 322 = .ok (.aload_n 2, 1) ∧ 322 + 1 = 323 := ⟨by decide +kernel, rfl⟩
theorem dL_law_323 : decode cL_law 323 = .ok (.aload_n 0, 1) ∧ 323 + 1 = 324 := ⟨by decide +kernel, rfl⟩
theorem dL_law_324 : decode cL_law 324 = .ok (.iload_n 3, 1) ∧ 324 + 1 = 325 := ⟨by decide +kernel, rfl⟩
theorem dL_law_325 : decode cL_law 325 = .ok (.iconst 1, 1) ∧ 325 + 1 = 326 := ⟨by decide +kernel, rfl⟩
theorem dL_law_326 : decode cL_law 326 = .ok (.iadd, 1) ∧ 326 + 1 = 327 := ⟨by decide +kernel, rfl⟩
theorem dL_law_327 : decode cL_law 327 = .ok (.iaload, 1) ∧ 327 + 1 = 328 := ⟨by decide +kernel, rfl⟩
theorem dL_law_328 : decode cL_law 328 = .ok (.aload_n 0, 1) ∧ 328 + 1 = 329 := ⟨by decide +kernel, rfl⟩
theorem dL_law_329 : decode cL_law 329 = .ok (.iload_n 3, 1) ∧ 329 + 1 = 330 := ⟨by decide +kernel, rfl⟩
theorem dL_law_330 : decode cL_law 330 = .ok (.iconst 2, 1) ∧ 330 + 1 = 331 := ⟨by decide +kernel, rfl⟩
theorem dL_law_331 : decode cL_law 331 = .ok (.iadd, 1) ∧ 331 + 1 = 332 := ⟨by decide +kernel, rfl⟩
theorem dL_law_332 : decode cL_law 332 = .ok (.iaload, 1) ∧ 332 + 1 = 333 := ⟨by decide +kernel, rfl⟩
theorem dL_law_333 : decode cL_law 333 = .ok (.invokevirtual 42, 3) ∧ 333 + 3 = 336 := ⟨by decide +kernel, rfl⟩
theorem dL_law_336 : decode cL_law 336 = .ok (.if_icmp .eq 401, 3) ∧ 336 + 3 = 339 ∧ ((336 : Nat) : Int) + (401) = ((737 : Nat) : Int) := ⟨by decide +kernel, rfl, rfl⟩
theorem dL_law_339 : decode cL_law 339 = .ok (.iconst 0, 1) ∧ 339 + 1 = 340 := ⟨by decide +kernel, rfl⟩
theorem dL_law_340 : decode cL_law 340 = .ok (.ireturn, 1) ∧ 340 + 1 = 341 := ⟨by decide +kernel, rfl⟩
theorem dL_law_341 : decode cL_law 341 = .ok (.aload_n 1, 1) ∧ 341 + 1 = 342 := ⟨by decide +kernel, rfl⟩
theorem dL_law_342 : decode cL_law 342 = .ok (.aload_n 0, 1) ∧ 342 + 1 = 343 := ⟨by decide +kernel, rfl⟩
theorem dL_law_343 : decode cL_law 343 = .ok (.iload_n 3, 1) ∧ 343 + 1 = 344 := ⟨by decide +kernel, rfl⟩
theorem dL_law_344 : decode cL_law 344 = .ok (.iconst 1, 1) ∧ 344 + 1 = 345 := ⟨by decide +kernel, rfl⟩
theorem dL_law_345 : decode cL_law 345 = .ok (.iadd, 1) ∧ 345 + 1 = 346 := ⟨by decide +kernel, rfl⟩
theorem dL_law_346 : decode cL_law 346 = .ok (.iaload, 1) ∧ 346 + 1 = 347 := ⟨by decide +kernel, rfl⟩
theorem dL_law_347 : decode cL_law 347 = .ok (.aload_n 0, 1) ∧ 347 + 1 = 348 := ⟨by decide +kernel, rfl⟩
theorem dL_law_348 : decode cL_law 348 = .ok (.iload_n 3, 1) ∧ 348 + 1 = 349 := ⟨by decide +kernel, rfl⟩
theorem dL_law_349 : decode cL_law 349 = .ok (.iconst 2, 1) ∧ 349 + 1 = 350 := ⟨by decide +kernel, rfl⟩
theorem dL_law_350 : decode cL_law 350 = .ok (.iadd, 1) ∧ 350 + 1 = 351 := ⟨by decide +kernel, rfl⟩
theorem dL_law_351 : decode cL_law 351 = .ok (.iaload, 1) ∧ 351 + 1 = 352 := ⟨by decide +kernel, rfl⟩
theorem dL_law_352 : decode cL_law 352 = .ok (.ifCond .eq 7, 3) ∧ 352 + 3 = 355 ∧ ((352 : Nat) : Int) + (7) = ((359 : Nat) : Int) := ⟨by decide +kernel, rfl, rfl⟩
theorem dL_law_355 : decode cL_law 355 = .ok (.iconst 1, 1) ∧ 355 + 1 = 356 := ⟨by decide +kernel, rfl⟩
theorem dL_law_356 : decode cL_law 356 = .ok (.goto 4, 3) ∧ 356 + 3 = 359 ∧ ((356 : Nat) : Int) + (4) = ((360 : Nat) : Int) := ⟨by decide +kernel, rfl, rfl⟩
theorem dL_law_359 : decode cL_law 359 = .ok (.iconst 0, 1) ∧ 359 + 1 = 360 := ⟨by decide +kernel, rfl⟩
theorem dL_law_360 : decode cL_law 360 = .ok (.invokevirtual 43, 3) ∧ 360 + 3 = 363 := ⟨by decide +kernel, rfl⟩
theorem dL_law_363 : decode cL_law 363 = .ok (.aload_n 2, 1) ∧ 363 + 1 = 364 := ⟨by decide +kernel, rfl⟩
theorem dL_law_364 : decode cL_law 364 = .ok (.aload_n 0, 1) ∧ 364 + 1 = 365 := ⟨by decide +kernel, rfl⟩
theorem dL_law_365 : decode cL_law 365 = .ok (.iload_n 3, 1) ∧ 365 + 1 = 366 := ⟨by decide +kernel, rfl⟩
theorem dL_law_366 : decode cL_law 366 = .ok (.iconst 1, 1) ∧ 366 + 1 = 367 := ⟨by decide +kernel, rfl⟩
theorem dL_law_367 : decode cL_law 367 = .ok (.iadd, 1) ∧ 367 + 1 = 368 := ⟨by decide +kernel, rfl⟩
theorem dL_law_368 : decode cL_law 368 = .ok (.iaload, 1) ∧ 368 + 1 = 369 := ⟨by decide +kernel, rfl⟩
theorem dL_law_369 : decode cL_law 369 = .ok (.aload_n 0, 1) ∧ 369 + 1 = 370 := ⟨by decide +kernel, rfl⟩
theorem dL_law_370 : decode cL_law 370 = .ok (.iload_n 3, 1) ∧ 370 + 1 = 371 := ⟨by decide +kernel, rfl⟩
theorem dL_law_371 : decode cL_law 371 = .ok (.iconst 2, 1) ∧ 371 + 1 = 372 := ⟨by decide +kernel, rfl⟩
theorem dL_law_372 : decode cL_law 372 = .ok (.iadd, 1) ∧ 372 + 1 = 373 := ⟨by decide +kernel, rfl⟩
theorem dL_law_373 : decode cL_law 373 = .ok (.iaload, 1) ∧ 373 + 1 = 374 := ⟨by decide +kernel, rfl⟩
theorem dL_law_374 : decode cL_law 374 = .ok (.ifCond .eq 7, 3) ∧ 374 + 3 = 377 ∧ ((374 : Nat) : Int) + (7) = ((381 : Nat) : Int) := ⟨by decide +kernel, rfl, rfl⟩
theorem dL_law_377 : decode cL_law 377 = .ok (.iconst 1, 1) ∧ 377 + 1 = 378 := ⟨by decide +kernel, rfl⟩
theorem dL_law_378 : decode cL_law 378 = .ok (.goto 4, 3) ∧ 378 + 3 = 381 ∧ ((378 : Nat) : Int) + (4) = ((382 : Nat) : Int) := ⟨by decide +kernel, rfl, rfl⟩
theorem dL_law_381 : decode cL_law 381 = .ok (.iconst 0, 1) ∧ 381 + 1 = 382 := ⟨by decide +kernel, rfl⟩
theorem dL_law_382 : decode cL_law 382 = .ok (.invokevirtual 47, 3) ∧ 382 + 3 = 385 := ⟨by decide +kernel, rfl⟩
theorem dL_law_385 : decode cL_law 385 = .ok (.if_icmp .eq 352, 3) ∧ 385 + 3 = 388 ∧ ((385 : Nat) : Int) + (352) = ((737 : Nat) : Int) := ⟨by decide +kernel, rfl, rfl⟩
theorem dL_law_388 : decode cL_law 388 = .ok (.iconst 0, 1) ∧ 388 + 1 = 389 := ⟨by decide +kernel, rfl⟩
theorem dL_law_389 : decode cL_law 389 = .ok (.ireturn, 1) ∧ 389 + 1 = 390 := ⟨by decide +kernel, rfl⟩
theorem dL_law_390 : decode cL_law 390 = .ok (.aload_n 1, 1) ∧ 390 + 1 = 391 := ⟨by decide +kernel, rfl⟩
theorem dL_law_391 : decode cL_law 391 = .ok (.aload_n 0, 1) ∧ 391 + 1 = 392 := ⟨by decide +kernel, rfl⟩
theorem dL_law_392 : decode cL_law 392 = .ok (.iload_n 3, 1) ∧ 392 + 1 = 393 := ⟨by decide +kernel, rfl⟩
theorem dL_law_393 : decode cL_law 393 = .ok (.iconst 1, 1) ∧ 393 + 1 = 394 := ⟨by decide +kernel, rfl⟩
theorem dL_law_394 : decode cL_law 394 = .ok (.iadd, 1) ∧ 394 + 1 = 395 := ⟨by decide +kernel, rfl⟩
theorem dL_law_395 : decode cL_law 395 = .ok (.iaload, 1) ∧ 395 + 1 = 396 := ⟨by decide +kernel, rfl⟩
theorem dL_law_396 : decode cL_law 396 = .ok (.invokevirtual 48, 3) ∧ 396 + 3 = 399 := ⟨by decide +kernel, rfl⟩
theorem dL_law_399 : decode cL_law 399 = .ok (.aload_n 2, 1) ∧ 399 + 1 = 400 := ⟨by decide +kernel, rfl⟩
theorem dL_law_400 : decode cL_law 400 = .ok (.aload_n 0, 1) ∧ 400 + 1 = 401 := ⟨by decide +kernel, rfl⟩
theorem dL_law_401 : decode cL_law 401 = .ok (.iload_n 3, 1) ∧ 401 + 1 = 402 := ⟨by decide +kernel, rfl⟩
theorem dL_law_402 : decode cL_law 402 = .ok (.iconst 1, 1) ∧ 402 + 1 = 403 := ⟨by decide +kernel, rfl⟩
theorem dL_law_403 : decode cL_law 403 = .ok (.iadd, 1) ∧ 403 + 1 = 404 := ⟨by decide +kernel, rfl⟩
theorem dL_law_404 : decode cL_law 404 = .ok (.iaload, 1) ∧ 404 + 1 = 405 := ⟨by decide +kernel, rfl⟩
theorem dL_law_405 : decode cL_law 405 = .ok (.invokevirtual 51, 3) ∧ 405 + 3 = 408 := ⟨by decide +kernel, rfl⟩
theorem dL_law_408 : decode cL_law 408 = .ok (.if_icmp .eq 329, 3) ∧ 408 + 3 = 411 ∧ ((408 : Nat) : Int) + (329) = ((737 : Nat) : Int) := ⟨by decide +kernel, rfl, rfl⟩
theorem dL_law_411 : decode cL_law 411 = .ok (.iconst 0, 1) ∧ 411 + 1 = 412 := ⟨by decide +kernel, rfl⟩
theorem dL_law_412 : decode cL_law 412 = .ok (.ireturn, 1) ∧ 412 + 1 = 413 := ⟨by decide +kernel, rfl⟩
theorem dL_law_413 : decode cL_law 413 = .ok (.aload_n 1, 1) ∧ 413 + 1 = 414 := ⟨by decide +kernel, rfl⟩
theorem dL_law_414 : decode cL_law 414 = .ok (.aload_n 0, 1) ∧ 414 + 1 = 415 := ⟨by decide +kernel, rfl⟩
theorem dL_law_415 : decode cL_law 415 = .ok (.iload_n 3, 1) ∧ 415 + 1 = 416 := ⟨by decide +kernel, rfl⟩
theorem dL_law_416 : decode cL_law 416 = .ok (.iconst 1, 1) ∧ 416 + 1 = 417 := ⟨by decide +kernel, rfl⟩
theorem dL_law_417 : decode cL_law 417 = .ok (.iadd, 1) ∧ 417 + 1 = 418 := ⟨by decide +kernel, rfl⟩
theorem dL_law_418 : decode cL_law 418 = .ok (.iaload, 1) ∧ 418 + 1 = 419 := ⟨by decide +kernel, rfl⟩
theorem dL_law_419 : decode cL_law 419 = .ok (.invokevirtual 52, 3) ∧ 419 + 3 = 422 := ⟨by decide +kernel, rfl⟩
theorem dL_law_422 : decode cL_law 422 = .ok (.aload_n 2, 1) ∧ 422 + 1 = 423 := ⟨by decide +kernel, rfl⟩
theorem dL_law_423 : decode cL_law 423 = .ok (.aload_n 0, 1) ∧ 423 + 1 = 424 := ⟨by decide +kernel, rfl⟩
theorem dL_law_424 : decode cL_law 424 = .ok (.iload_n 3, 1) ∧ 424 + 1 = 425 := ⟨by decide +kernel, rfl⟩
theorem dL_law_425 : decode cL_law 425 = .ok (.iconst 1, 1) ∧ 425 + 1 = 426 := ⟨by decide +kernel, rfl⟩
theorem dL_law_426 : decode cL_law 426 = .ok (.iadd, 1) ∧ 426 + 1 = 427 := ⟨by decide +kernel, rfl⟩
theorem dL_law_427 : decode cL_law 427 = .ok (.iaload, 1) ∧ 427 + 1 = 428 := ⟨by decide +kernel, rfl⟩
theorem dL_law_428 : decode cL_law 428 = .ok (.invokevirtual 55, 3) ∧ 428 + 3 = 431 := ⟨by decide +kernel, rfl⟩
theorem dL_law_431 : decode cL_law 431 = .ok (.if_icmp .eq 306, 3) ∧ 431 + 3 = 434 ∧ ((431 : Nat) : Int) + (306) = ((737 : Nat) : Int) := ⟨by decide +kernel, rfl, rfl⟩
theorem dL_law_434 : decode cL_law 434 = .ok (.iconst 0, 1) ∧ 434 + 1 = 435 := ⟨by decide +kernel, rfl⟩
theorem dL_law_435 : decode cL_law 435 = .ok (.ireturn, 1) ∧ 435 + 1 = 436 := ⟨by decide +kernel, rfl⟩
theorem dL_law_436 : decode cL_law 436 = .ok (.aload_n 1, 1) ∧ 436 + 1 = 437 := ⟨by decide +kernel, rfl⟩
theorem dL_law_437 : decode cL_law 437 = .ok (.aload_n 0, 1) ∧ 437 + 1 = 438 := ⟨by decide +kernel, rfl⟩
theorem dL_law_438 : decode cL_law 438 = .ok (.iload_n 3, 1) ∧ 438 + 1 = 439 := ⟨by decide +kernel, rfl⟩
theorem dL_law_439 : decode cL_law 439 = .ok (.iconst 1, 1) ∧ 439 + 1 = 440 := ⟨by decide +kernel, rfl⟩
theorem dL_law_440 : decode cL_law 440 = .ok (.iadd, 1) ∧ 440 + 1 = 441 := ⟨by decide +kernel, rfl⟩
theorem dL_law_441 : decode cL_law 441 = .ok (.iaload, 1) ∧ 441 + 1 = 442 := ⟨by decide +kernel, rfl⟩
theorem dL_law_442 : decode cL_law 442 = .ok (.i2c, 1) ∧ 442 + 1 = 443 := ⟨by decide +kernel, rfl⟩
theorem dL_law_443 : decode cL_law 443 = .ok (.invokevirtual 56, 3) ∧ 443 + 3 = 446 := ⟨by decide +kernel, rfl⟩
theorem dL_law_446 : decode cL_law 446 = .ok (.aload_n 2, 1) ∧ 446 + 1 = 447 := ⟨by decide +kernel, rfl⟩
theorem dL_law_447 : decode cL_law 447 = .ok (.aload_n 0, 1) ∧ 447 + 1 = 448 := ⟨by decide +kernel, rfl⟩
theorem dL_law_448 : decode cL_law 448 = .ok (.iload_n 3, 1) ∧ 448 + 1 = 449 := ⟨by decide +kernel, rfl⟩
theorem dL_law_449 : decode cL_law 449 = .ok (.iconst 1, 1) ∧ 449 + 1 = 450 := ⟨by decide +kernel, rfl⟩
theorem dL_law_450 : decode cL_law 450 = .ok (.iadd, 1) ∧ 450 + 1 = 451 := ⟨by decide +kernel, rfl⟩
theorem dL_law_451 : decode cL_law 451 = .ok (.iaload, 1) ∧ 451 + 1 = 452 := ⟨by decide +kernel, rfl⟩
theorem dL_law_452 : decode cL_law 452 = .ok (.i2c, 1) ∧ 452 + 1 = 453 := ⟨by decide +kernel, rfl⟩
theorem dL_law_453 : decode cL_law 453 = .ok (.invokevirtual 60, 3) ∧ 453 + 3 = 456 := ⟨by decide +kernel, rfl⟩
theorem dL_law_456 : decode cL_law 456 = .ok (.if_icmp .eq 281, 3) ∧ 456 + 3 = 459 ∧ ((456 : Nat) : Int) + (281) = ((737 : Nat) : Int) := ⟨by decide +kernel, rfl, rfl⟩
theorem dL_law_459 : decode cL_law 459 = .ok (.iconst 0, 1) ∧ 459 + 1 = 460 := ⟨by decide +kernel, rfl⟩
theorem dL_law_460 : decode cL_law 460 = .ok (.ireturn, 1) ∧ 460 + 1 = 461 := ⟨by decide +kernel, rfl⟩
theorem dL_law_461 : decode cL_law 461 = .ok (.aload_n 1, 1) ∧ 461 + 1 = 462 := ⟨by decide +kernel, rfl⟩
theorem dL_law_462 : decode cL_law 462 = .ok (.invokevirtual 61, 3) ∧ 462 + 3 = 465 := ⟨by decide +kernel, rfl⟩
theorem dL_law_465 : decode cL_law 465 = .ok (.aload_n 2, 1) ∧ 465 + 1 = 466 := ⟨by decide +kernel, rfl⟩
theorem dL_law_466 : decode cL_law 466 = .ok (.invokevirtual 65, 3) ∧ 466 + 3 = 469 := ⟨by decide +kernel, rfl⟩
theorem dL_law_469 : decode cL_law 469 = .ok (.if_icmp .eq 268, 3) ∧ 469 + 3 = 472 ∧ ((469 : Nat) : Int) + (268) = ((737 : Nat) : Int) := ⟨by decide +kernel, rfl, rfl⟩
theorem dL_law_472 : decode cL_law 472 = .ok (.iconst 0, 1) ∧ 472 + 1 = 473 := ⟨by decide +kernel, rfl⟩
theorem dL_law_473 : decode cL_law 473 = .ok (.ireturn, 1) ∧ 473 + 1 = 474 := ⟨by decide +kernel, rfl⟩
theorem dL_law_474 : decode cL_law 474 = .ok (.aload_n 1, 1) ∧ 474 + 1 = 475 := ⟨by decide +kernel, rfl⟩
theorem dL_law_475 : decode cL_law 475 = .ok (.invokevirtual 66, 3) ∧ 475 + 3 = 478 := ⟨by decide +kernel, rfl⟩
theorem dL_law_478 : decode cL_law 478 = .ok (.aload_n 2, 1) ∧ 478 + 1 = 479 := ⟨by decide +kernel, rfl⟩
theorem dL_law_479 : decode cL_law 479 = .ok (.invokevirtual 69, 3) ∧ 479 + 3 = 482 := ⟨by decide +kernel, rfl⟩
theorem dL_law_482 : decode cL_law 482 = .ok (.if_icmp .eq 255, 3) ∧ 482 + 3 = 485 ∧ ((482 : Nat) : Int) + (255) = ((737 : Nat) : Int) := ⟨by decide +kernel, rfl, rfl⟩
theorem dL_law_485 : decode cL_law 485 = .ok (.iconst 0, 1) ∧ 485 + 1 = 486 := ⟨by decide +kernel, rfl⟩
theorem dL_law_486 : decode cL_law 486 = .ok (.ireturn, 1) ∧ 486 + 1 = 487 := ⟨by decide +kernel, rfl⟩
theorem dL_law_487 : decode cL_law 487 = .ok (.aload_n 1, 1) ∧ 487 + 1 = 488 := ⟨by decide +kernel, rfl⟩
theorem dL_law_488 : decode cL_law 488 = .ok (.invokevirtual 70, 3) ∧ 488 + 3 = 491 := ⟨by decide +kernel, rfl⟩
theorem dL_law_491 : decode cL_law 491 = .ok (.aload_n 2, 1) ∧ 491 + 1 = 492 := ⟨by decide +kernel, rfl⟩
theorem dL_law_492 : decode cL_law 492 = .ok (.invokevirtual 73, 3) ∧ 492 + 3 = 495 := ⟨by decide +kernel, rfl⟩
theorem dL_law_495 : decode cL_law 495 = .ok (.if_icmp .eq 242, 3) ∧ 495 + 3 = 498 ∧ ((495 : Nat) : Int) + (242) = ((737 : Nat) : Int) := ⟨by decide +kernel, rfl, rfl⟩
theorem dL_law_498 : decode cL_law 498 = .ok (.iconst 0, 1) ∧ 498 + 1 = 499 := ⟨by decide +kernel, rfl⟩
theorem dL_law_499 : decode cL_law 499 = .ok (.ireturn, 1) ∧ 499 + 1 = 500 := ⟨by decide +kernel, rfl⟩
theorem dL_law_500 : decode cL_law 500 = .ok (.aload_n 1, 1) ∧ 500 + 1 = 501 := ⟨by decide +kernel, rfl⟩
theorem dL_law_501 : decode cL_law 501 = .ok (.invokevirtual 74, 3) ∧ 501 + 3 = 504 := ⟨by decide +kernel, rfl⟩
theorem dL_law_504 : decode cL_law 504 = .ok (.aload_n 2, 1) ∧ 504 + 1 = 505 := ⟨by decide +kernel, rfl⟩
theorem dL_law_505 : decode cL_law 505 = .ok (.invokevirtual 77, 3) ∧ 505 + 3 = 508 := ⟨by decide +kernel, rfl⟩
theorem dL_law_508 : decode cL_law 508 = .ok (.if_icmp .eq 229, 3) ∧ 508 + 3 = 511 ∧ ((508 : Nat) : Int) + (229) = ((737 : Nat) : Int) := ⟨by decide +kernel, rfl, rfl⟩
theorem dL_law_511 : decode cL_law 511 = .ok (.iconst 0, 1) ∧ 511 + 1 = 512 := ⟨by decide +kernel, rfl⟩
theorem dL_law_512 : decode cL_law 512 = .ok (.ireturn, 1) ∧ 512 + 1 = 513 := ⟨by decide +kernel, rfl⟩
theorem dL_law_513 : decode cL_law 513 = .ok (.aload_n 1, 1) ∧ 513 + 1 = 514 := ⟨by decide +kernel, rfl⟩
theorem dL_law_514 : decode cL_law 514 = .ok (.invokevirtual 78, 3) ∧ 514 + 3 = 517 := ⟨by decide +kernel, rfl⟩
theorem dL_law_517 : decode cL_law 517 = .ok (.aload_n 2, 1) ∧ 517 + 1 = 518 := ⟨by decide +kernel, rfl⟩
theorem dL_law_518 : decode cL_law 518 = .ok (.invokevirtual 81, 3) ∧ 518 + 3 = 521 := ⟨by decide +kernel, rfl⟩
theorem dL_law_521 : decode cL_law 521 = .ok (.if_icmp .eq 216, 3) ∧ 521 + 3 = 524 ∧ ((521 : Nat) : Int) + (216) = ((737 : Nat) : Int) := ⟨by decide +kernel, rfl, rfl⟩
theorem dL_law_524 : decode cL_law 524 = .ok (.iconst 0, 1) ∧ 524 + 1 = 525 := ⟨by decide +kernel, rfl⟩
theorem dL_law_525 : decode cL_law 525 = .ok (.ireturn, 1) ∧ 525 + 1 = 526 := ⟨by decide +kernel, rfl⟩
theorem dL_law_526 : decode cL_law 526 = .ok (.aload_n 1, 1) ∧ 526 + 1 = 527 := ⟨by decide +kernel, rfl⟩
theorem dL_law_527 : decode cL_law 527 = .ok (.aload_n 0, 1) ∧ 527 + 1 = 528 := ⟨by decide +kernel, rfl⟩
theorem dL_law_528 : decode cL_law 528 = .ok (.iload_n 3, 1) ∧ 528 + 1 = 529 := ⟨by decide +kernel, rfl⟩
theorem dL_law_529 : decode cL_law 529 = .ok (.iconst 1, 1) ∧ 529 + 1 = 530 := ⟨by decide +kernel, rfl⟩
theorem dL_law_530 : decode cL_law 530 = .ok (.iadd, 1) ∧ 530 + 1 = 531 := ⟨by decide +kernel, rfl⟩
theorem dL_law_531 : decode cL_law 531 = .ok (.iaload, 1) ∧ 531 + 1 = 532 := ⟨by decide +kernel, rfl⟩
theorem dL_law_532 : decode cL_law 532 = .ok (.aload_n 0, 1) ∧ 532 + 1 = 533 := ⟨by decide +kernel, rfl⟩
theorem dL_law_533 : decode cL_law 533 = .ok (.iload_n 3, 1) ∧ 533 + 1 = 534 := ⟨by decide +kernel, rfl⟩
theorem dL_law_534 : decode cL_law 534 = .ok (.iconst 2, 1) ∧ 534 + 1 = 535 := ⟨by decide +kernel, rfl⟩
theorem dL_law_535 : decode cL_law 535 = .ok (.iadd, 1) ∧ 535 + 1 = 536 := ⟨by decide +kernel, rfl⟩
theorem dL_law_536 : decode cL_law 536 = .ok (.iaload, 1) ∧ 536 + 1 = 537 := ⟨by decide +kernel, rfl⟩
theorem dL_law_537 : decode cL_law 537 = .ok (.invokevirtual 82, 3) ∧ 537 + 3 = 540 := ⟨by decide +kernel, rfl⟩
theorem dL_law_540 : decode cL_law 540 = .ok (.aload_n 2, 1) ∧ 540 + 1 = 541 := ⟨by decide +kernel, rfl⟩
theorem dL_law_541 : decode cL_law 541 = .ok (.aload_n 0, 1) ∧ 541 + 1 = 542 := ⟨by decide +kernel, rfl⟩
theorem dL_law_542 : decode cL_law 542 = .ok (.iload_n 3, 1) ∧ 542 + 1 = 543 := ⟨by decide +kernel, rfl⟩
theorem dL_law_543 : decode cL_law 543 = .ok (.iconst 1, 1) ∧ 543 + 1 = 544 := ⟨by decide +kernel, rfl⟩
theorem dL_law_544 : decode cL_law 544 = .ok (.iadd, 1) ∧ 544 + 1 = 545 := ⟨by decide +kernel, rfl⟩
theorem dL_law_545 : decode cL_law 545 = .ok (.iaload, 1) ∧ 545 + 1 = 546 := ⟨by decide +kernel, rfl⟩
theorem dL_law_546 : decode cL_law 546 = .ok (.aload_n 0, 1) ∧ 546 + 1 = 547 := ⟨by decide +kernel, rfl⟩
theorem dL_law_547 : decode cL_law 547 = .ok (.iload_n 3, 1) ∧ 547 + 1 = 548 := ⟨by decide +kernel, rfl⟩
theorem dL_law_548 : decode cL_law 548 = .ok (.iconst 2, 1) ∧ 548 + 1 = 549 := ⟨by decide +kernel, rfl⟩
theorem dL_law_549 : decode cL_law 549 = .ok (.iadd, 1) ∧ 549 + 1 = 550 := ⟨by decide +kernel, rfl⟩
theorem dL_law_550 : decode cL_law 550 = .ok (.iaload, 1) ∧ 550 + 1 = 551 := ⟨by decide +kernel, rfl⟩
theorem dL_law_551 : decode cL_law 551 = .ok (.invokevirtual 85, 3) ∧ 551 + 3 = 554 := ⟨by decide +kernel, rfl⟩
theorem dL_law_554 : decode cL_law 554 = .ok (.if_icmp .eq 183, 3) ∧ 554 + 3 = 557 ∧ ((554 : Nat) : Int) + (183) = ((737 : Nat) : Int) := ⟨by decide +kernel, rfl, rfl⟩
theorem dL_law_557 : decode cL_law 557 = .ok (.iconst 0, 1) ∧ 557 + 1 = 558 := ⟨by decide +kernel, rfl⟩
theorem dL_law_558 : decode cL_law 558 = .ok (.ireturn, 1) ∧ 558 + 1 = 559 := ⟨by decide +kernel, rfl⟩
theorem dL_law_559 : decode cL_law 559 = .ok (.aload_n 1, 1) ∧ 559 + 1 = 560 := ⟨by decide +kernel, rfl⟩
theorem dL_law_560 : decode cL_law 560 = .ok (.aload_n 0, 1) ∧ 560 + 1 = 561 := ⟨by decide +kernel, rfl⟩
theorem dL_law_561 : decode cL_law 561 = .ok (.iload_n 3, 1) ∧ 561 + 1 = 562 := ⟨by decide +kernel, rfl⟩
theorem dL_law_562 : decode cL_law 562 = .ok (.iconst 1, 1) ∧ 562 + 1 = 563 := ⟨by decide +kernel, rfl⟩
theorem dL_law_563 : decode cL_law 563 = .ok (.iadd, 1) ∧ 563 + 1 = 564 := ⟨by decide +kernel, rfl⟩
theorem dL_law_564 : decode cL_law 564 = .ok (.iaload, 1) ∧ 564 + 1 = 565 := ⟨by decide +kernel, rfl⟩
theorem dL_law_565 : decode cL_law 565 = .ok (.aload_n 0, 1) ∧ 565 + 1 = 566 := ⟨by decide +kernel, rfl⟩
theorem dL_law_566 : decode cL_law 566 = .ok (.iload_n 3, 1) ∧ 566 + 1 = 567 := ⟨by decide +kernel, rfl⟩
theorem dL_law_567 : decode cL_law 567 = .ok (.iconst 2, 1) ∧ 567 + 1 = 568 := ⟨by decide +kernel, rfl⟩
theorem dL_law_568 : decode cL_law 568 = .ok (.iadd, 1) ∧ 568 + 1 = 569 := ⟨by decide +kernel, rfl⟩
theorem dL_law_569 : decode cL_law 569 = .ok (.iaload, 1) ∧ 569 + 1 = 570 := ⟨by decide +kernel, rfl⟩
theorem dL_law_570 : decode cL_law 570 = .ok (.invokevirtual 86, 3) ∧ 570 + 3 = 573 := ⟨by decide +kernel, rfl⟩
theorem dL_law_573 : decode cL_law 573 = .ok (.aload_n 2, 1) ∧ 573 + 1 = 574 := ⟨by decide +kernel, rfl⟩
theorem dL_law_574 : decode cL_law 574 = .ok (.aload_n 0, 1) ∧ 574 + 1 = 575 := ⟨by decide +kernel, rfl⟩
theorem dL_law_575 : decode cL_law 575 = .ok (.iload_n 3, 1) ∧ 575 + 1 = 576 := ⟨by decide +kernel, rfl⟩
theorem dL_law_576 : decode cL_law 576 = .ok (.iconst 1, 1) ∧ 576 + 1 = 577 := ⟨by decide +kernel, rfl⟩
theorem dL_law_577 : decode cL_law 577 = .ok (.iadd, 1) ∧ 577 + 1 = 578 := ⟨by decide +kernel, rfl⟩
theorem dL_law_578 : decode cL_law 578 = .ok (.iaload, 1) ∧ 578 + 1 = 579 := ⟨by decide +kernel, rfl⟩
theorem dL_law_579 : decode cL_law 579 = .ok (.aload_n 0, 1) ∧ 579 + 1 = 580 := ⟨by decide +kernel, rfl⟩
theorem dL_law_580 : decode cL_law 580 = .ok (.iload_n 3, 1) ∧ 580 + 1 = 581 := ⟨by decide +kernel, rfl⟩
theorem dL_law_581 : decode cL_law 581 = .ok (.iconst 2, 1) ∧ 581 + 1 = 582 := ⟨by decide +kernel, rfl⟩
theorem dL_law_582 : decode cL_law 582 = .ok (.iadd, 1) ∧ 582 + 1 = 583 := ⟨by decide +kernel, rfl⟩
theorem dL_law_583 : decode cL_law 583 = .ok (.iaload, 1) ∧ 583 + 1 = 584 := ⟨by decide +kernel, rfl⟩
theorem dL_law_584 : decode cL_law 584 = .ok (.invokevirtual 89, 3) ∧ 584 + 3 = 587 := ⟨by decide +kernel, rfl⟩
theorem dL_law_587 : decode cL_law 587 = .ok (.if_icmp .eq 150, 3) ∧ 587 + 3 = 590 ∧ ((587 : Nat) : Int) + (150) = ((737 : Nat) : Int) := ⟨by decide +kernel, rfl, rfl⟩
theorem dL_law_590 : decode cL_law 590 = .ok (.iconst 0, 1) ∧ 590 + 1 = 591 := ⟨by decide +kernel, rfl⟩
theorem dL_law_591 : decode cL_law 591 = .ok (.ireturn, 1) ∧ 591 + 1 = 592 := ⟨by decide +kernel, rfl⟩
theorem dL_law_592 : decode cL_law 592 = .ok (.aload_n 1, 1) ∧ 592 + 1 = 593 := ⟨by decide +kernel, rfl⟩
theorem dL_law_593 : decode cL_law 593 = .ok (.aload_n 0, 1) ∧ 593 + 1 = 594 := ⟨by decide +kernel, rfl⟩
theorem dL_law_594 : decode cL_law 594 = .ok (.iload_n 3, 1) ∧ 594 + 1 = 595 := ⟨by decide +kernel, rfl⟩
theorem dL_law_595 : decode cL_law 595 = .ok (.iconst 1, 1) ∧ 595 + 1 = 596 := ⟨by decide +kernel, rfl⟩
theorem dL_law_596 : decode cL_law 596 = .ok (.iadd, 1) ∧ 596 + 1 = 597 := ⟨by decide +kernel, rfl⟩
theorem dL_law_597 : decode cL_law 597 = .ok (.iaload, 1) ∧ 597 + 1 = 598 := ⟨by decide +kernel, rfl⟩
theorem dL_law_598 : decode cL_law 598 = .ok (.aload_n 0, 1) ∧ 598 + 1 = 599 := ⟨by decide +kernel, rfl⟩
theorem dL_law_599 : decode cL_law 599 = .ok (.iload_n 3, 1) ∧ 599 + 1 = 600 := ⟨by decide +kernel, rfl⟩
theorem dL_law_600 : decode cL_law 600 = .ok (.iconst 2, 1) ∧ 600 + 1 = 601 := ⟨by decide +kernel, rfl⟩
theorem dL_law_601 : decode cL_law 601 = .ok (.iadd, 1) ∧ 601 + 1 = 602 := ⟨by decide +kernel, rfl⟩
theorem dL_law_602 : decode cL_law 602 = .ok (.iaload, 1) ∧ 602 + 1 = 603 := ⟨by decide +kernel, rfl⟩
theorem dL_law_603 : decode cL_law 603 = .ok (.invokevirtual 90, 3) ∧ 603 + 3 = 606 := ⟨by decide +kernel, rfl⟩
theorem dL_law_606 : decode cL_law 606 = .ok (.aload_n 2, 1) ∧ 606 + 1 = 607 := ⟨by decide +kernel, rfl⟩
theorem dL_law_607 : decode cL_law 607 = .ok (.aload_n 0, 1) ∧ 607 + 1 = 608 := ⟨by decide +kernel, rfl⟩
theorem dL_law_608 : decode cL_law 608 = .ok (.iload_n 3, 1) ∧ 608 + 1 = 609 := ⟨by decide +kernel, rfl⟩
theorem dL_law_609 : decode cL_law 609 = .ok (.iconst 1, 1) ∧ 609 + 1 = 610 := ⟨by decide +kernel, rfl⟩
theorem dL_law_610 : decode cL_law 610 = .ok (.iadd, 1) ∧ 610 + 1 = 611 := ⟨by decide +kernel, rfl⟩
theorem dL_law_611 : decode cL_law 611 = .ok (.iaload, 1) ∧ 611 + 1 = 612 := ⟨by decide +kernel, rfl⟩
theorem dL_law_612 : decode cL_law 612 = .ok (.aload_n 0, 1) ∧ 612 + 1 = 613 := ⟨by decide +kernel, rfl⟩
theorem dL_law_613 : decode cL_law 613 = .ok (.iload_n 3, 1) ∧ 613 + 1 = 614 := ⟨by decide +kernel, rfl⟩
theorem dL_law_614 : decode cL_law 614 = .ok (.iconst 2, 1) ∧ 614 + 1 = 615 := ⟨by decide +kernel, rfl⟩
theorem dL_law_615 : decode cL_law 615 = .ok (.iadd, 1) ∧ 615 + 1 = 616 := ⟨by decide +kernel, rfl⟩
theorem dL_law_616 : decode cL_law 616 = .ok (.iaload, 1) ∧ 616 + 1 = 617 := ⟨by decide +kernel, rfl⟩
theorem dL_law_617 : decode cL_law 617 = .ok (.invokevirtual 93, 3) ∧ 617 + 3 = 620 := ⟨by decide +kernel, rfl⟩
theorem dL_law_620 : decode cL_law 620 = .ok (.if_icmp .eq 117, 3) ∧ 620 + 3 = 623 ∧ ((620 : Nat) : Int) + (117) = ((737 : Nat) : Int) := ⟨by decide +kernel, rfl, rfl⟩
theorem dL_law_623 : decode cL_law 623 = .ok (.iconst 0, 1) ∧ 623 + 1 = 624 := ⟨by decide +kernel, rfl⟩
theorem dL_law_624 : decode cL_law 624 = .ok (.ireturn, 1) ∧ 624 + 1 = 625 := ⟨by decide +kernel, rfl⟩
theorem dL_law_625 : decode cL_law 625 = .ok (.aload_n 1, 1) ∧ 625 + 1 = 626 := ⟨by decide +kernel, rfl⟩
theorem dL_law_626 : decode cL_law 626 = .ok (.aload_n 0, 1) ∧ 626 + 1 = 627 := ⟨by decide +kernel, rfl⟩
theorem dL_law_627 : decode cL_law 627 = .ok (.iload_n 3, 1) ∧ 627 + 1 = 628 := ⟨by decide +kernel, rfl⟩
theorem dL_law_628 : decode cL_law 628 = .ok (.iconst 1, 1) ∧ 628 + 1 = 629 := ⟨by decide +kernel, rfl⟩
theorem dL_law_629 : decode cL_law 629 = .ok (.iadd, 1) ∧ 629 + 1 = 630 := ⟨by decide +kernel, rfl⟩
theorem dL_law_630 : decode cL_law 630 = .ok (.iaload, 1) ∧ 630 + 1 = 631 := ⟨by decide +kernel, rfl⟩
theorem dL_law_631 : decode cL_law 631 = .ok (.aload_n 0, 1) ∧ 631 + 1 = 632 := ⟨by decide +kernel, rfl⟩
theorem dL_law_632 : decode cL_law 632 = .ok (.iload_n 3, 1) ∧ 632 + 1 = 633 := ⟨by decide +kernel, rfl⟩
theorem dL_law_633 : decode cL_law 633 = .ok (.iconst 2, 1) ∧ 633 + 1 = 634 := ⟨by decide +kernel, rfl⟩
theorem dL_law_634 : decode cL_law 634 = .ok (.iadd, 1) ∧ 634 + 1 = 635 := ⟨by decide +kernel, rfl⟩
theorem dL_law_635 : decode cL_law 635 = .ok (.iaload, 1) ∧ 635 + 1 = 636 := ⟨by decide +kernel, rfl⟩
theorem dL_law_636 : decode cL_law 636 = .ok (.invokevirtual 94, 3) ∧ 636 + 3 = 639 := ⟨by decide +kernel, rfl⟩
theorem dL_law_639 : decode cL_law 639 = .ok (.aload_n 2, 1) ∧ 639 + 1 = 640 := ⟨by decide +kernel, rfl⟩
theorem dL_law_640 : decode cL_law 640 = .ok (.aload_n 0, 1) ∧ 640 + 1 = 641 := ⟨by decide +kernel, rfl⟩
theorem dL_law_641 : decode cL_law 641 = .ok (.iload_n 3, 1) ∧ 641 + 1 = 642 := ⟨by decide +kernel, rfl⟩
theorem dL_law_642 : decode cL_law 642 = .ok (.iconst 1, 1) ∧ 642 + 1 = 643 := ⟨by decide +kernel, rfl⟩
theorem dL_law_643 : decode cL_law 643 = .ok (.iadd, 1) ∧ 643 + 1 = 644 := ⟨by decide +kernel, rfl⟩
theorem dL_law_644 : decode cL_law 644 = .ok (.iaload, 1) ∧ 644 + 1 = 645 := ⟨by decide +kernel, rfl⟩
theorem dL_law_645 : decode cL_law 645 = .ok (.aload_n 0, 1) ∧ 645 + 1 = 646 := ⟨by decide +kernel, rfl⟩
theorem dL_law_646 : decode cL_law 646 = .ok (.iload_n 3, 1) ∧ 646 + 1 = 647 := ⟨by decide +kernel, rfl⟩
theorem dL_law_647 : decode cL_law 647 = .ok (.iconst 2, 1) ∧ 647 + 1 = 648 := ⟨by decide +kernel, rfl⟩
theorem dL_law_648 : decode cL_law 648 = .ok (.iadd, 1) ∧ 648 + 1 = 649 := ⟨by decide +kernel, rfl⟩
theorem dL_law_649 : decode cL_law 649 = .ok (.iaload, 1) ∧ 649 + 1 = 650 := ⟨by decide +kernel, rfl⟩
theorem dL_law_650 : decode cL_law 650 = .ok (.invokevirtual 97, 3) ∧ 650 + 3 = 653 := ⟨by decide +kernel, rfl⟩
theorem dL_law_653 : decode cL_law 653 = .ok (.if_icmp .eq 84, 3) ∧ 653 + 3 = 656 ∧ ((653 : Nat) : Int) + (84) = ((737 : Nat) : Int) := ⟨by decide +kernel, rfl, rfl⟩
theorem dL_law_656 : decode cL_law 656 = .ok (.iconst 0, 1) ∧ 656 + 1 = 657 := ⟨by decide +kernel, rfl⟩
theorem dL_law_657 : decode cL_law 657 = .ok (.ireturn, 1) ∧ 657 + 1 = 658 := ⟨by decide +kernel, rfl⟩
theorem dL_law_658 : decode cL_law 658 = .ok (.aload_n 1, 1) ∧ 658 + 1 = 659 := ⟨by decide +kernel, rfl⟩
theorem dL_law_659 : decode cL_law 659 = .ok (.aload_n 0, 1) ∧ 659 + 1 = 660 := ⟨by decide +kernel, rfl⟩
theorem dL_law_660 : decode cL_law 660 = .ok (.iload_n 3, 1) ∧ 660 + 1 = 661 := ⟨by decide +kernel, rfl⟩
theorem dL_law_661 : decode cL_law 661 = .ok (.iconst 1, 1) ∧ 661 + 1 = 662 := ⟨by decide +kernel, rfl⟩
theorem dL_law_662 : decode cL_law 662 = .ok (.iadd, 1) ∧ 662 + 1 = 663 := ⟨by decide +kernel, rfl⟩
theorem dL_law_663 : decode cL_law 663 = .ok (.iaload, 1) ∧ 663 + 1 = 664 := ⟨by decide +kernel, rfl⟩
theorem dL_law_664 : decode cL_law 664 = .ok (.aload_n 0, 1) ∧ 664 + 1 = 665 := ⟨by decide +kernel, rfl⟩
theorem dL_law_665 : decode cL_law 665 = .ok (.iload_n 3, 1) ∧ 665 + 1 = 666 := ⟨by decide +kernel, rfl⟩
theorem dL_law_666 : decode cL_law 666 = .ok (.iconst 2, 1) ∧ 666 + 1 = 667 := ⟨by decide +kernel, rfl⟩
theorem dL_law_667 : decode cL_law 667 = .ok (.iadd, 1) ∧ 667 + 1 = 668 := ⟨by decide +kernel, rfl⟩
theorem dL_law_668 : decode cL_law 668 = .ok (.iaload, 1) ∧ 668 + 1 = 669 := ⟨by decide +kernel, rfl⟩
theorem dL_law_669 : decode cL_law 669 = .ok (.invokevirtual 98, 3) ∧ 669 + 3 = 672 := ⟨by decide +kernel, rfl⟩
theorem dL_law_672 : decode cL_law 672 = .ok (.aload_n 2, 1) ∧ 672 + 1 = 673 := ⟨by decide +kernel, rfl⟩
theorem dL_law_673 : decode cL_law 673 = .ok (.aload_n 0, 1) ∧ 673 + 1 = 674 := ⟨by decide +kernel, rfl⟩
theorem dL_law_674 : decode cL_law 674 = .ok (.iload_n 3, 1) ∧ 674 + 1 = 675 := ⟨by decide +kernel, rfl⟩
theorem dL_law_675 : decode cL_law 675 = .ok (.iconst 1, 1) ∧ 675 + 1 = 676 := ⟨by decide +kernel, rfl⟩
theorem dL_law_676 : decode cL_law 676 = .ok (.iadd, 1) ∧ 676 + 1 = 677 := ⟨by decide +kernel, rfl⟩
theorem dL_law_677 : decode cL_law 677 = .ok (.iaload, 1) ∧ 677 + 1 = 678 := ⟨by decide +kernel, rfl⟩
theorem dL_law_678 : decode cL_law 678 = .ok (.aload_n 0, 1) ∧ 678 + 1 = 679 := ⟨by decide +kernel, rfl⟩
theorem dL_law_679 : decode cL_law 679 = .ok (.iload_n 3, 1) ∧ 679 + 1 = 680 := ⟨by decide +kernel, rfl⟩
theorem dL_law_680 : decode cL_law 680 = .ok (.iconst 2, 1) ∧ 680 + 1 = 681 := ⟨by decide +kernel, rfl⟩
theorem dL_law_681 : decode cL_law 681 = .ok (.iadd, 1) ∧ 681 + 1 = 682 := ⟨by decide +kernel, rfl⟩
theorem dL_law_682 : decode cL_law 682 = .ok (.iaload, 1) ∧ 682 + 1 = 683 := ⟨by decide +kernel, rfl⟩
theorem dL_law_683 : decode cL_law 683 = .ok (.invokevirtual 101, 3) ∧ 683 + 3 = 686 := ⟨by decide +kernel, rfl⟩
theorem dL_law_686 : decode cL_law 686 = .ok (.if_icmp .eq 51, 3) ∧ 686 + 3 = 689 ∧ ((686 : Nat) : Int) + (51) = ((737 : Nat) : Int) := ⟨by decide +kernel, rfl, rfl⟩
theorem dL_law_689 : decode cL_law 689 = .ok (.iconst 0, 1) ∧ 689 + 1 = 690 := ⟨by decide +kernel, rfl⟩
theorem dL_law_690 : decode cL_law 690 = .ok (.ireturn, 1) ∧ 690 + 1 = 691 := ⟨by decide +kernel, rfl⟩
theorem dL_law_691 : decode cL_law 691 = .ok (.aload_n 1, 1) ∧ 691 + 1 = 692 := ⟨by decide +kernel, rfl⟩
theorem dL_law_692 : decode cL_law 692 = .ok (.aload_n 0, 1) ∧ 692 + 1 = 693 := ⟨by decide +kernel, rfl⟩
theorem dL_law_693 : decode cL_law 693 = .ok (.iload_n 3, 1) ∧ 693 + 1 = 694 := ⟨by decide +kernel, rfl⟩
theorem dL_law_694 : decode cL_law 694 = .ok (.iconst 1, 1) ∧ 694 + 1 = 695 := ⟨by decide +kernel, rfl⟩
theorem dL_law_695 : decode cL_law 695 = .ok (.iadd, 1) ∧ 695 + 1 = 696 := ⟨by decide +kernel, rfl⟩
theorem dL_law_696 : decode cL_law 696 = .ok (.iaload, 1) ∧ 696 + 1 = 697 := ⟨by decide +kernel, rfl⟩
theorem dL_law_697 : decode cL_law 697 = .ok (.invokevirtual 102, 3) ∧ 697 + 3 = 700 := ⟨by decide +kernel, rfl⟩
theorem dL_law_700 : decode cL_law 700 = .ok (.aload_n 2, 1) ∧ 700 + 1 = 701 := ⟨by decide +kernel, rfl⟩
theorem dL_law_701 : decode cL_law 701 = .ok (.aload_n 0, 1) ∧ 701 + 1 = 702 := ⟨by decide +kernel, rfl⟩
theorem dL_law_702 : decode cL_law 702 = .ok (.iload_n 3, 1) ∧ 702 + 1 = 703 := ⟨by decide +kernel, rfl⟩
theorem dL_law_703 : decode cL_law 703 = .ok (.iconst 1, 1) ∧ 703 + 1 = 704 := ⟨by decide +kernel, rfl⟩
theorem dL_law_704 : decode cL_law 704 = .ok (.iadd, 1) ∧ 704 + 1 = 705 := ⟨by decide +kernel, rfl⟩
theorem dL_law_705 : decode cL_law 705 = .ok (.iaload, 1) ∧ 705 + 1 = 706 := ⟨by decide +kernel, rfl⟩
theorem dL_law_706 : decode cL_law 706 = .ok (.invokevirtual 105, 3) ∧ 706 + 3 = 709 := ⟨by decide +kernel, rfl⟩
theorem dL_law_709 : decode cL_law 709 = .ok (.if_icmp .eq 28, 3) ∧ 709 + 3 = 712 ∧ ((709 : Nat) : Int) + (28) = ((737 : Nat) : Int) := ⟨by decide +kernel, rfl, rfl⟩
theorem dL_law_712 : decode cL_law 712 = .ok (.iconst 0, 1) ∧ 712 + 1 = 713 := ⟨by decide +kernel, rfl⟩
theorem dL_law_713 : decode cL_law 713 = .ok (.ireturn, 1) ∧ 713 + 1 = 714 := ⟨by decide +kernel, rfl⟩
theorem dL_law_714 : decode cL_law 714 = .ok (.aload_n 1, 1) ∧ 714 + 1 = 715 := ⟨by decide +kernel, rfl⟩
theorem dL_law_715 : decode cL_law 715 = .ok (.aload_n 0, 1) ∧ 715 + 1 = 716 := ⟨by decide +kernel, rfl⟩
theorem dL_law_716 : decode cL_law 716 = .ok (.iload_n 3, 1) ∧ 716 + 1 = 717 := ⟨by decide +kernel, rfl⟩
theorem dL_law_717 : decode cL_law 717 = .ok (.iconst 1, 1) ∧ 717 + 1 = 718 := ⟨by decide +kernel, rfl⟩
theorem dL_law_718 : decode cL_law 718 = .ok (.iadd, 1) ∧ 718 + 1 = 719 := ⟨by decide +kernel, rfl⟩
theorem dL_law_719 : decode cL_law 719 = .ok (.iaload, 1) ∧ 719 + 1 = 720 := ⟨by decide +kernel, rfl⟩
theorem dL_law_720 : decode cL_law 720 = .ok (.invokevirtual 106, 3) ∧ 720 + 3 = 723 := ⟨by decide +kernel, rfl⟩
theorem dL_law_723 : decode cL_law 723 = .ok (.aload_n 2, 1) ∧ 723 + 1 = 724 := ⟨by decide +kernel, rfl⟩
theorem dL_law_724 : decode cL_law 724 = .ok (.aload_n 0, 1) ∧ 724 + 1 = 725 := ⟨by decide +kernel, rfl⟩
theorem dL_law_725 : decode cL_law 725 = .ok (.iload_n 3, 1) ∧ 725 + 1 = 726 := ⟨by decide +kernel, rfl⟩
theorem dL_law_726 : decode cL_law 726 = .ok (.iconst 1, 1) ∧ 726 + 1 = 727 := ⟨by decide +kernel, rfl⟩
theorem dL_law_727 : decode cL_law 727 = .ok (.iadd, 1) ∧ 727 + 1 = 728 := ⟨by decide +kernel, rfl⟩
theorem dL_law_728 : decode cL_law 728 = .ok (.iaload, 1) ∧ 728 + 1 = 729 := ⟨by decide +kernel, rfl⟩
theorem dL_law_729 : decode cL_law 729 = .ok (.invokevirtual 109, 3) ∧ 729 + 3 = 732 := ⟨by decide +kernel, rfl⟩
theorem dL_law_732 : decode cL_law 732 = .ok (.if_icmp .eq 5, 3) ∧ 732 + 3 = 735 ∧ ((732 : Nat) : Int) + (5) = ((737 : Nat) : Int) := ⟨by decide +kernel, rfl, rfl⟩
theorem dL_law_735 : decode cL_law 735 = .ok (.iconst 0, 1) ∧ 735 + 1 = 736 := ⟨by decide +kernel, rfl⟩
theorem dL_law_736 : decode cL_law 736 = .ok (.ireturn, 1) ∧ 736 + 1 = 737 := ⟨by decide +kernel, rfl⟩
theorem dL_law_737 : decode cL_law 737 = .ok (.iinc 3 3, 3) ∧ 737 + 3 = 740 := ⟨by decide +kernel, rfl⟩
theorem dL_law_740 : decode cL_law 740 = .ok (.goto (-722), 3) ∧ 740 + 3 = 743 ∧ ((740 : Nat) : Int) + (-722) = ((18 : Nat) : Int) := ⟨by decide +kernel, rfl, rfl⟩
theorem dL_law_743 : decode cL_law 743 = .ok (.iconst 1, 1) ∧ 743 + 1 = 744 := ⟨by decide +kernel, rfl⟩
theorem dL_law_744 : decode cL_law 744 = .ok (.ireturn, 1) ∧ 744 + 1 = 745 := ⟨by decide +kernel, rfl⟩
