theorem dX8_show_50 : decode cX8_show 50 = .ok (.invokevirtual 131, 3) ∧ 50 + 3 = 53 := ⟨by decide +kernel, rfl⟩
theorem dX8_show_53 : decode cX8_show 53 = .ok (.aload_n 0, 1) ∧ 53 + 1 = 54 := ⟨by decide +kernel, rfl⟩
theorem dX8_show_54 : decode cX8_show 54 = .ok (.getfield 26, 3) ∧ 54 + 3 = 57 := ⟨by decide +kernel, rfl⟩
theorem dX8_show_57 : decode cX8_show 57 = .ok (.iload_n 2, 1) ∧ 57 + 1 = 58 := ⟨by decide +kernel, rfl⟩
theorem dX8_show_58 : decode cX8_show 58 = .ok (.invokevirtual 182, 3) ∧ 58 + 3 = 61 := ⟨by decide +kernel, rfl⟩
theorem dX8_show_61 : decode cX8_show 61 = .ok (.ireturn, 1) ∧ 61 + 1 = 62 := ⟨by decide +kernel, rfl⟩
theorem dX8_type_0 : decode cX8_type 0 = .ok (.aload_n 0, 1) ∧ 0 + 1 = 1 := ⟨by decide +kernel, rfl⟩
theorem dX8_type_1 : decode cX8_type 1 = .ok (.getfield 10, 3) ∧ 1 + 3 = 4 := ⟨by decide +kernel, rfl⟩
theorem dX8_type_4 : decode cX8_type 4 = .ok (.iload_n 1, 1) ∧ 4 + 1 = 5 := ⟨by decide +kernel, rfl⟩
theorem dX8_type_5 : decode cX8_type 5 = .ok (.invokevirtual 185, 3) ∧ 5 + 3 = 8 := ⟨by decide +kernel, rfl⟩
theorem dX8_type_8 : decode cX8_type 8 = .ok (.ifCond .eq 13, 3) ∧ 8 + 3 = 11 ∧ ((8 : Nat) : Int) + (13) = ((21 : Nat) : Int) := ⟨by decide +kernel, rfl, rfl⟩
theorem dX8_type_11 : decode cX8_type 11 = .ok (.aload_n 0, 1) ∧ 11 + 1 = 12 := ⟨by decide +kernel, rfl⟩
theorem dX8_type_12 : decode cX8_type 12 = .ok (.getfield 10, 3) ∧ 12 + 3 = 15 := ⟨by decide +kernel, rfl⟩
theorem dX8_type_15 : decode cX8_type 15 = .ok (.getfield 189, 3) ∧ 15 + 3 = 18 := ⟨by decide +kernel, rfl⟩
theorem dX8_type_18 : decode cX8_type 18 = .ok (.goto 5, 3) ∧ 18 + 3 = 21 ∧ ((18 : Nat) : Int) + (5) = ((23 : Nat) : Int) := ⟨by decide +kernel, rfl, rfl⟩
theorem dX8_type_21 : decode cX8_type 21 = .ok (.bipush (-4), 2) ∧ 21 + 2 = 23 := ⟨by decide +kernel, rfl⟩
theorem dX8_type_23 : decode cX8_type 23 = .ok (.ireturn, 1) ∧ 23 + 1 = 24 := ⟨by decide +kernel, rfl⟩
theorem dX8_clearText_0 : decode cX8_clearText 0 = .ok (.aload_n 0, 1) ∧ 0 + 1 = 1 := ⟨by decide +kernel, rfl⟩
theorem dX8_clearText_1 : decode cX8_clearText 1 = .ok (.getfield 10, 3) ∧ 1 + 3 = 4 := ⟨by decide +kernel, rfl⟩
theorem dX8_clearText_4 : decode cX8_clearText 4 = .ok (.getfield 189, 3) ∧ 4 + 3 = 7 := ⟨by decide +kernel, rfl⟩
theorem dX8_clearText_7 : decode cX8_clearText 7 = .ok (.istore_n 1, 1) ∧ 7 + 1 = 8 := ⟨by decide +kernel, rfl⟩
theorem dX8_clearText_8 : decode cX8_clearText 8 = .ok (.aload_n 0, 1) ∧ 8 + 1 = 9 := ⟨by decide +kernel, rfl⟩
theorem dX8_clearText_9 : decode cX8_clearText 9 = .ok (.getfield 10, 3) ∧ 9 + 3 = 12 := ⟨by decide +kernel, rfl⟩
theorem dX8_clearText_12 : decode cX8_clearText 12 = .ok (.iconst 0, 1) ∧ 12 + 1 = 13 := ⟨by decide +kernel, rfl⟩
theorem dX8_clearText_13 : decode cX8_clearText 13 = .ok (.putfield 189, 3) ∧ 13 + 3 = 16 := ⟨by decide +kernel, rfl⟩
theorem dX8_clearText_16 : decode cX8_clearText 16 = .ok (.iload_n 1, 1) ∧ 16 + 1 = 17 := ⟨by decide +kernel, rfl⟩
theorem dX8_clearText_17 : decode cX8_clearText 17 = .ok (.ireturn, 1) ∧ 17 + 1 = 18 := ⟨by decide +kernel, rfl⟩
theorem dX8_readOutline_0 : decode cX8_readOutline 0 = .ok (.aload_n 0, 1) ∧ 0 + 1 = 1 := ⟨by decide +kernel, rfl⟩
theorem dX8_readOutline_1 : decode cX8_readOutline 1 = .ok (.getfield 51, 3) ∧ 1 + 3 = 4 := ⟨by decide +kernel, rfl⟩
theorem dX8_readOutline_4 : decode cX8_readOutline 4 = .ok (.invokevirtual 192, 3) ∧ 4 + 3 = 7 := ⟨by decide +kernel, rfl⟩
theorem dX8_readOutline_7 : decode cX8_readOutline 7 = .ok (.aload_n 0, 1) ∧ 7 + 1 = 8 := ⟨by decide +kernel, rfl⟩
theorem dX8_readOutline_8 : decode cX8_readOutline 8 = .ok (.getfield 19, 3) ∧ 8 + 3 = 11 := ⟨by decide +kernel, rfl⟩
theorem dX8_readOutline_11 : decode cX8_readOutline 11 = .ok (.aload_n 0, 1) ∧ 11 + 1 = 12 := ⟨by decide +kernel, rfl⟩
theorem dX8_readOutline_12 : decode cX8_readOutline 12 = .ok (.getfield 10, 3) ∧ 12 + 3 = 15 := ⟨by decide +kernel, rfl⟩
theorem dX8_readOutline_15 : decode cX8_readOutline 15 = .ok (.aload_n 0, 1) ∧ 15 + 1 = 16 := ⟨by decide +kernel, rfl⟩
theorem dX8_readOutline_16 : decode cX8_readOutline 16 = .ok (.getfield 51, 3) ∧ 16 + 3 = 19 := ⟨by decide +kernel, rfl⟩
theorem dX8_readOutline_19 : decode cX8_readOutline 19 = .ok (.invokevirtual 195, 3) ∧ 19 + 3 = 22 := ⟨by decide +kernel, rfl⟩
theorem dX8_readOutline_22 : decode cX8_readOutline 22 = .ok (.istore_n 1, 1) ∧ 22 + 1 = 23 := ⟨by decide +kernel, rfl⟩
theorem dX8_readOutline_23 : decode cX8_readOutline 23 = .ok (.iload_n 1, 1) ∧ 23 + 1 = 24 := ⟨by decide +kernel, rfl⟩
theorem dX8_readOutline_24 : decode cX8_readOutline 24 = .ok (.iconst (-1), 1) ∧ 24 + 1 = 25 := ⟨by decide +kernel, rfl⟩
theorem dX8_readOutline_25 : decode cX8_readOutline 25 = .ok (.if_icmp .eq 8, 3) ∧ 25 + 3 = 28 ∧ ((25 : Nat) : Int) + (8) = ((33 : Nat) : Int) := ⟨by decide +kernel, rfl, rfl⟩
theorem dX8_readOutline_28 : decode cX8_readOutline 28 = .ok (.bipush (-100), 2) ∧ 28 + 2 = 30 := ⟨by decide +kernel, rfl⟩
theorem dX8_readOutline_30 : decode cX8_readOutline 30 = .ok (.iload_n 1, 1) ∧ 30 + 1 = 31 := ⟨by decide +kernel, rfl⟩
theorem dX8_readOutline_31 : decode cX8_readOutline 31 = .ok (.isub, 1) ∧ 31 + 1 = 32 := ⟨by decide +kernel, rfl⟩
theorem dX8_readOutline_32 : decode cX8_readOutline 32 = .ok (.ireturn, 1) ∧ 32 + 1 = 33 := ⟨by decide +kernel, rfl⟩
theorem dX8_readOutline_33 : decode cX8_readOutline 33 = .ok (.aload_n 0, 1) ∧ 33 + 1 = 34 := ⟨by decide +kernel, rfl⟩
theorem dX8_readOutline_34 : decode cX8_readOutline 34 = .ok (.getfield 51, 3) ∧ 34 + 3 = 37 := ⟨by decide +kernel, rfl⟩
theorem dX8_readOutline_37 : decode cX8_readOutline 37 = .ok (.invokevirtual 199, 3) ∧ 37 + 3 = 40 := ⟨by decide +kernel, rfl⟩
theorem dX8_readOutline_40 : decode cX8_readOutline 40 = .ok (.ifCond .ne 6, 3) ∧ 40 + 3 = 43 ∧ ((40 : Nat) : Int) + (6) = ((46 : Nat) : Int) := ⟨by decide +kernel, rfl, rfl⟩
theorem dX8_readOutline_43 : decode cX8_readOutline 43 = .ok (.bipush (-4), 2) ∧ 43 + 2 = 45 := ⟨by decide +kernel, rfl⟩
theorem dX8_readOutline_45 : decode cX8_readOutline 45 = .ok (.ireturn, 1) ∧ 45 + 1 = 46 := ⟨by decide +kernel, rfl⟩
theorem dX8_readOutline_46 : decode cX8_readOutline 46 = .ok (.aload_n 0, 1) ∧ 46 + 1 = 47 := ⟨by decide +kernel, rfl⟩
theorem dX8_readOutline_47 : decode cX8_readOutline 47 = .ok (.invokevirtual 131, 3) ∧ 47 + 3 = 50 := ⟨by decide +kernel, rfl⟩
theorem dX8_readOutline_50 : decode cX8_readOutline 50 = .ok (.aload_n 0, 1) ∧ 50 + 1 = 51 := ⟨by decide +kernel, rfl⟩
theorem dX8_readOutline_51 : decode cX8_readOutline 51 = .ok (.getfield 48, 3) ∧ 51 + 3 = 54 := ⟨by decide +kernel, rfl⟩
theorem dX8_readOutline_54 : decode cX8_readOutline 54 = .ok (.getfield 84, 3) ∧ 54 + 3 = 57 := ⟨by decide +kernel, rfl⟩
theorem dX8_readOutline_57 : decode cX8_readOutline 57 = .ok (.getfield 202, 3) ∧ 57 + 3 = 60 := ⟨by decide +kernel, rfl⟩
theorem dX8_readOutline_60 : decode cX8_readOutline 60 = .ok (.ireturn, 1) ∧ 60 + 1 = 61 := ⟨by decide +kernel, rfl⟩
theorem dX8_undo_0 : decode cX8_undo 0 = .ok (.aload_n 0, 1) ∧ 0 + 1 = 1 := ⟨by decide +kernel, rfl⟩
theorem dX8_undo_1 : decode cX8_undo 1 = .ok (.getfield 33, 3) ∧ 1 + 3 = 4 := ⟨by decide +kernel, rfl⟩
theorem dX8_undo_4 : decode cX8_undo 4 = .ok (.aload_n 0, 1) ∧ 4 + 1 = 5 := ⟨by decide +kernel, rfl⟩
theorem dX8_undo_5 : decode cX8_undo 5 = .ok (.getfield 48, 3) ∧ 5 + 3 = 8 := ⟨by decide +kernel, rfl⟩
theorem dX8_undo_8 : decode cX8_undo 8 = .ok (.invokevirtual 203, 3) ∧ 8 + 3 = 11 := ⟨by decide +kernel, rfl⟩
theorem dX8_undo_11 : decode cX8_undo 11 = .ok (.ifCond .ne 6, 3) ∧ 11 + 3 = 14 ∧ ((11 : Nat) : Int) + (6) = ((17 : Nat) : Int) := ⟨by decide +kernel, rfl, rfl⟩
theorem dX8_undo_14 : decode cX8_undo 14 = .ok (.bipush (-6), 2) ∧ 14 + 2 = 16 := ⟨by decide +kernel, rfl⟩
theorem dX8_undo_16 : decode cX8_undo 16 = .ok (.ireturn, 1) ∧ 16 + 1 = 17 := ⟨by decide +kernel, rfl⟩
theorem dX8_undo_17 : decode cX8_undo 17 = .ok (.aload_n 0, 1) ∧ 17 + 1 = 18 := ⟨by decide +kernel, rfl⟩
theorem dX8_undo_18 : decode cX8_undo 18 = .ok (.getfield 26, 3) ∧ 18 + 3 = 21 := ⟨by decide +kernel, rfl⟩
theorem dX8_undo_21 : decode cX8_undo 21 = .ok (.aload_n 0, 1) ∧ 21 + 1 = 22 := ⟨by decide +kernel, rfl⟩
theorem dX8_undo_22 : decode cX8_undo 22 = .ok (.getfield 48, 3) ∧ 22 + 3 = 25 := ⟨by decide +kernel, rfl⟩
theorem dX8_undo_25 : decode cX8_undo 25 = .ok (.getfield 84, 3) ∧ 25 + 3 = 28 := ⟨by decide +kernel, rfl⟩
theorem dX8_undo_28 : decode cX8_undo 28 = .ok (.invokevirtual 207, 3) ∧ 28 + 3 = 31 := ⟨by decide +kernel, rfl⟩
theorem dX8_undo_31 : decode cX8_undo 31 = .ok (.aload_n 0, 1) ∧ 31 + 1 = 32 := ⟨by decide +kernel, rfl⟩
theorem dX8_undo_32 : decode cX8_undo 32 = .ok (.getfield 33, 3) ∧ 32 + 3 = 35 := ⟨by decide +kernel, rfl⟩
theorem dX8_undo_35 : decode cX8_undo 35 = .ok (.getfield 211, 3) ∧ 35 + 3 = 38 := ⟨by decide +kernel, rfl⟩
theorem dX8_undo_38 : decode cX8_undo 38 = .ok (.ireturn, 1) ∧ 38 + 1 = 39 := ⟨by decide +kernel, rfl⟩
theorem dX8_restore_0 : decode cX8_restore 0 = .ok (.aload_n 0, 1) ∧ 0 + 1 = 1 := ⟨by decide +kernel, rfl⟩
theorem dX8_restore_1 : decode cX8_restore 1 = .ok (.getfield 44, 3) ∧ 1 + 3 = 4 := ⟨by decide +kernel, rfl⟩
theorem dX8_restore_4 : decode cX8_restore 4 = .ok (.ifCond .ne 6, 3) ∧ 4 + 3 = 7 ∧ ((4 : Nat) : Int) + (6) = ((10 : Nat) : Int) := ⟨by decide +kernel, rfl, rfl⟩
theorem dX8_restore_7 : decode cX8_restore 7 = .ok (.bipush (-6), 2) ∧ 7 + 2 = 9 := ⟨by decide +kernel, rfl⟩
theorem dX8_restore_9 : decode cX8_restore 9 = .ok (.ireturn, 1) ∧ 9 + 1 = 10 := ⟨by decide +kernel, rfl⟩
theorem dX8_restore_10 : decode cX8_restore 10 = .ok (.aload_n 0, 1) ∧ 10 + 1 = 11 := ⟨by decide +kernel, rfl⟩
theorem dX8_restore_11 : decode cX8_restore 11 = .ok (.getfield 51, 3) ∧ 11 + 3 = 14 := ⟨by decide +kernel, rfl⟩
theorem dX8_restore_14 : decode cX8_restore 14 = .ok (.aload_n 0, 1) ∧ 14 + 1 = 15 := ⟨by decide +kernel, rfl⟩
theorem dX8_restore_15 : decode cX8_restore 15 = .ok (.getfield 40, 3) ∧ 15 + 3 = 18 := ⟨by decide +kernel, rfl⟩
theorem dX8_restore_18 : decode cX8_restore 18 = .ok (.invokevirtual 72, 3) ∧ 18 + 3 = 21 := ⟨by decide +kernel, rfl⟩
theorem dX8_restore_21 : decode cX8_restore 21 = .ok (.aload_n 0, 1) ∧ 21 + 1 = 22 := ⟨by decide +kernel, rfl⟩
theorem dX8_restore_22 : decode cX8_restore 22 = .ok (.invokevirtual 131, 3) ∧ 22 + 3 = 25 := ⟨by decide +kernel, rfl⟩
theorem dX8_restore_25 : decode cX8_restore 25 = .ok (.aload_n 0, 1) ∧ 25 + 1 = 26 := ⟨by decide +kernel, rfl⟩
theorem dX8_restore_26 : decode cX8_restore 26 = .ok (.getfield 26, 3) ∧ 26 + 3 = 29 := ⟨by decide +kernel, rfl⟩
theorem dX8_restore_29 : decode cX8_restore 29 = .ok (.getfield 170, 3) ∧ 29 + 3 = 32 := ⟨by decide +kernel, rfl⟩
theorem dX8_restore_32 : decode cX8_restore 32 = .ok (.ireturn, 1) ∧ 32 + 1 = 33 := ⟨by decide +kernel, rfl⟩
theorem dX8_row_0 : decode cX8_row 0 = .ok (.aload_n 0, 1) ∧ 0 + 1 = 1 := ⟨by decide +kernel, rfl⟩
theorem dX8_row_1 : decode cX8_row 1 = .ok (.getfield 26, 3) ∧ 1 + 3 = 4 := ⟨by decide +kernel, rfl⟩
theorem dX8_row_4 : decode cX8_row 4 = .ok (.iload_n 1, 1) ∧ 4 + 1 = 5 := ⟨by decide +kernel, rfl⟩
theorem dX8_row_5 : decode cX8_row 5 = .ok (.invokevirtual 107, 3) ∧ 5 + 3 = 8 := ⟨by decide +kernel, rfl⟩
theorem dX8_row_8 : decode cX8_row 8 = .ok (.istore_n 3, 1) ∧ 8 + 1 = 9 := ⟨by decide +kernel, rfl⟩
theorem dX8_row_9 : decode cX8_row 9 = .ok (.iload_n 3, 1) ∧ 9 + 1 = 10 := ⟨by decide +kernel, rfl⟩
theorem dX8_row_10 : decode cX8_row 10 = .ok (.bipush (-2), 2) ∧ 10 + 2 = 12 := ⟨by decide +kernel, rfl⟩
theorem dX8_row_12 : decode cX8_row 12 = .ok (.if_icmp .ne 6, 3) ∧ 12 + 3 = 15 ∧ ((12 : Nat) : Int) + (6) = ((18 : Nat) : Int) := ⟨by decide +kernel, rfl, rfl⟩
theorem dX8_row_15 : decode cX8_row 15 = .ok (.bipush (-2), 2) ∧ 15 + 2 = 17 := ⟨by decide +kernel, rfl⟩
theorem dX8_row_17 : decode cX8_row 17 = .ok (.ireturn, 1) ∧ 17 + 1 = 18 := ⟨by decide +kernel, rfl⟩
theorem dX8_row_18 : decode cX8_row 18 = .ok (.aload_n 0, 1) ∧ 18 + 1 = 19 := ⟨by decide +kernel, rfl⟩
theorem dX8_row_19 : decode cX8_row 19 = .ok (.getfield 48, 3) ∧ 19 + 3 = 22 := ⟨by decide +kernel, rfl⟩
theorem dX8_row_22 : decode cX8_row 22 = .ok (.getfield 84, 3) ∧ 22 + 3 = 25 := ⟨by decide +kernel, rfl⟩
theorem dX8_row_25 : decode cX8_row 25 = .ok (.astore 4, 2) ∧ 25 + 2 = 27 := ⟨by decide +kernel, rfl⟩
theorem dX8_row_27 : decode cX8_row 27 = .ok (.aload 4, 2) ∧ 27 + 2 = 29 := ⟨by decide +kernel, rfl⟩
theorem dX8_row_29 : decode cX8_row 29 = .ok (.iload_n 3, 1) ∧ 29 + 1 = 30 := ⟨by decide +kernel, rfl⟩
theorem dX8_row_30 : decode cX8_row 30 = .ok (.invokevirtual 88, 3) ∧ 30 + 3 = 33 := ⟨by decide +kernel, rfl⟩
theorem dX8_row_33 : decode cX8_row 33 = .ok (.istore 5, 2) ∧ 33 + 2 = 35 := ⟨by decide +kernel, rfl⟩
theorem dX8_row_35 : decode cX8_row 35 = .ok (.iload_n 2, 1) ∧ 35 + 1 = 36 := ⟨by decide +kernel, rfl⟩
theorem dX8_row_36 : decode cX8_row 36 = .ok (.tableswitch 132 0 8 #[52, 55, 62, 68, 81, 88, 101, 109, 115], 52) ∧ 36 + 52 = 88 := ⟨by decide +kernel, rfl⟩
theorem dX8_row_88 : decode cX8_row 88 = .ok (.iload 5, 2) ∧ 88 + 2 = 90 := ⟨by decide +kernel, rfl⟩
theorem dX8_row_90 : decode cX8_row 90 = .ok (.ireturn, 1) ∧ 90 + 1 = 91 := ⟨by decide +kernel, rfl⟩
theorem dX8_row_91 : decode cX8_row 91 = .ok (.aload 4, 2) ∧ 91 + 2 = 93 := ⟨by decide +kernel, rfl⟩
theorem dX8_row_93 : decode cX8_row 93 = .ok (.iload_n 3, 1) ∧ 93 + 1 = 94 := ⟨by decide +kernel, rfl⟩
theorem dX8_row_94 : decode cX8_row 94 = .ok (.invokevirtual 212, 3) ∧ 94 + 3 = 97 := ⟨by decide +kernel, rfl⟩
theorem dX8_row_97 : decode cX8_row 97 = .ok (.ireturn, 1) ∧ 97 + 1 = 98 := ⟨by decide +kernel, rfl⟩
theorem dX8_row_98 : decode cX8_row 98 = .ok (.aload_n 0, 1) ∧ 98 + 1 = 99 := ⟨by decide +kernel, rfl⟩
theorem dX8_row_99 : decode cX8_row 99 = .ok (.iload_n 3, 1) ∧ 99 + 1 = 100 := ⟨by decide +kernel, rfl⟩
theorem dX8_row_100 : decode cX8_row 100 = .ok (.invokevirtual 215, 3) ∧ 100 + 3 = 103 := ⟨by decide +kernel, rfl⟩
theorem dX8_row_103 : decode cX8_row 103 = .ok (.ireturn, 1) ∧ 103 + 1 = 104 := ⟨by decide +kernel, rfl⟩
theorem dX8_row_104 : decode cX8_row 104 = .ok (.aload_n 0, 1) ∧ 104 + 1 = 105 := ⟨by decide +kernel, rfl⟩
theorem dX8_row_105 : decode cX8_row 105 = .ok (.getfield 48, 3) ∧ 105 + 3 = 108 := ⟨by decide +kernel, rfl⟩
theorem dX8_row_108 : decode cX8_row 108 = .ok (.getfield 103, 3) ∧ 108 + 3 = 111 := ⟨by decide +kernel, rfl⟩
theorem dX8_row_111 : decode cX8_row 111 = .ok (.iload 5, 2) ∧ 111 + 2 = 113 := ⟨by decide +kernel, rfl⟩
theorem dX8_row_113 : decode cX8_row 113 = .ok (.invokevirtual 137, 3) ∧ 113 + 3 = 116 := ⟨by decide +kernel, rfl⟩
theorem dX8_row_116 : decode cX8_row 116 = .ok (.ireturn, 1) ∧ 116 + 1 = 117 := ⟨by decide +kernel, rfl⟩
theorem dX8_row_117 : decode cX8_row 117 = .ok (.aload 4, 2) ∧ 117 + 2 = 119 := ⟨by decide +kernel, rfl⟩
theorem dX8_row_119 : decode cX8_row 119 = .ok (.iload_n 3, 1) ∧ 119 + 1 = 120 := ⟨by decide +kernel, rfl⟩
theorem dX8_row_120 : decode cX8_row 120 = .ok (.invokevirtual 164, 3) ∧ 120 + 3 = 123 := ⟨by decide +kernel, rfl⟩
theorem dX8_row_123 : decode cX8_row 123 = .ok (.ireturn, 1) ∧ 123 + 1 = 124 := ⟨by decide +kernel, rfl⟩
theorem dX8_row_124 : decode cX8_row 124 = .ok (.aload_n 0, 1) ∧ 124 + 1 = 125 := ⟨by decide +kernel, rfl⟩
theorem dX8_row_125 : decode cX8_row 125 = .ok (.getfield 48, 3) ∧ 125 + 3 = 128 := ⟨by decide +kernel, rfl⟩
theorem dX8_row_128 : decode cX8_row 128 = .ok (.getfield 62, 3) ∧ 128 + 3 = 131 := ⟨by decide +kernel, rfl⟩
theorem dX8_row_131 : decode cX8_row 131 = .ok (.iload 5, 2) ∧ 131 + 2 = 133 := ⟨by decide +kernel, rfl⟩
theorem dX8_row_133 : decode cX8_row 133 = .ok (.invokevirtual 158, 3) ∧ 133 + 3 = 136 := ⟨by decide +kernel, rfl⟩
theorem dX8_row_136 : decode cX8_row 136 = .ok (.ireturn, 1) ∧ 136 + 1 = 137 := ⟨by decide +kernel, rfl⟩
theorem dX8_row_137 : decode cX8_row 137 = .ok (.aload 4, 2) ∧ 137 + 2 = 139 := ⟨by decide +kernel, rfl⟩
theorem dX8_row_139 : decode cX8_row 139 = .ok (.iload 5, 2) ∧ 139 + 2 = 141 := ⟨by decide +kernel, rfl⟩
theorem dX8_row_141 : decode cX8_row 141 = .ok (.invokevirtual 148, 3) ∧ 141 + 3 = 144 := ⟨by decide +kernel, rfl⟩
theorem dX8_row_144 : decode cX8_row 144 = .ok (.ireturn, 1) ∧ 144 + 1 = 145 := ⟨by decide +kernel, rfl⟩
theorem dX8_row_145 : decode cX8_row 145 = .ok (.aload_n 0, 1) ∧ 145 + 1 = 146 := ⟨by decide +kernel, rfl⟩
theorem dX8_row_146 : decode cX8_row 146 = .ok (.iload_n 3, 1) ∧ 146 + 1 = 147 := ⟨by decide +kernel, rfl⟩
theorem dX8_row_147 : decode cX8_row 147 = .ok (.invokevirtual 218, 3) ∧ 147 + 3 = 150 := ⟨by decide +kernel, rfl⟩
theorem dX8_row_150 : decode cX8_row 150 = .ok (.ireturn, 1) ∧ 150 + 1 = 151 := ⟨by decide +kernel, rfl⟩
theorem dX8_row_151 : decode cX8_row 151 = .ok (.aload_n 0, 1) ∧ 151 + 1 = 152 := ⟨by decide +kernel, rfl⟩
theorem dX8_row_152 : decode cX8_row 152 = .ok (.getfield 26, 3) ∧ 152 + 3 = 155 := ⟨by decide +kernel, rfl⟩
theorem dX8_row_155 : decode cX8_row 155 = .ok (.iload_n 3, 1) ∧ 155 + 1 = 156 := ⟨by decide +kernel, rfl⟩
theorem dX8_row_156 : decode cX8_row 156 = .ok (.iconst 1, 1) ∧ 156 + 1 = 157 := ⟨by decide +kernel, rfl⟩
theorem dX8_row_157 : decode cX8_row 157 = .ok (.iadd, 1) ∧ 157 + 1 = 158 := ⟨by decide +kernel, rfl⟩
theorem dX8_row_158 : decode cX8_row 158 = .ok (.aload 4, 2) ∧ 158 + 2 = 160 := ⟨by decide +kernel, rfl⟩
theorem dX8_row_160 : decode cX8_row 160 = .ok (.iload_n 3, 1) ∧ 160 + 1 = 161 := ⟨by decide +kernel, rfl⟩
theorem dX8_row_161 : decode cX8_row 161 = .ok (.invokevirtual 221, 3) ∧ 161 + 3 = 164 := ⟨by decide +kernel, rfl⟩
theorem dX8_row_164 : decode cX8_row 164 = .ok (.invokevirtual 224, 3) ∧ 164 + 3 = 167 := ⟨by decide +kernel, rfl⟩
theorem dX8_row_167 : decode cX8_row 167 = .ok (.ireturn, 1) ∧ 167 + 1 = 168 := ⟨by decide +kernel, rfl⟩
theorem dX8_row_168 : decode cX8_row 168 = .ok (.bipush (-3), 2) ∧ 168 + 2 = 170 := ⟨by decide +kernel, rfl⟩
theorem dX8_row_170 : decode cX8_row 170 = .ok (.ireturn, 1) ∧ 170 + 1 = 171 := ⟨by decide +kernel, rfl⟩
theorem dX8_number_0 : decode cX8_number 0 = .ok (.aload_n 0, 1) ∧ 0 + 1 = 1 := ⟨by decide +kernel, rfl⟩
theorem dX8_number_1 : decode cX8_number 1 = .ok (.getfield 26, 3) ∧ 1 + 3 = 4 := ⟨by decide +kernel, rfl⟩
theorem dX8_number_4 : decode cX8_number 4 = .ok (.iload_n 1, 1) ∧ 4 + 1 = 5 := ⟨by decide +kernel, rfl⟩
theorem dX8_number_5 : decode cX8_number 5 = .ok (.invokevirtual 107, 3) ∧ 5 + 3 = 8 := ⟨by decide +kernel, rfl⟩
theorem dX8_number_8 : decode cX8_number 8 = .ok (.istore_n 3, 1) ∧ 8 + 1 = 9 := ⟨by decide +kernel, rfl⟩
theorem dX8_number_9 : decode cX8_number 9 = .ok (.iload_n 3, 1) ∧ 9 + 1 = 10 := ⟨by decide +kernel, rfl⟩
theorem dX8_number_10 : decode cX8_number 10 = .ok (.bipush (-2), 2) ∧ 10 + 2 = 12 := ⟨by decide +kernel, rfl⟩
theorem dX8_number_12 : decode cX8_number 12 = .ok (.if_icmp .ne 6, 3) ∧ 12 + 3 = 15 ∧ ((12 : Nat) : Int) + (6) = ((18 : Nat) : Int) := ⟨by decide +kernel, rfl, rfl⟩
theorem dX8_number_15 : decode cX8_number 15 = .ok (.bipush (-2), 2) ∧ 15 + 2 = 17 := ⟨by decide +kernel, rfl⟩
theorem dX8_number_17 : decode cX8_number 17 = .ok (.ireturn, 1) ∧ 17 + 1 = 18 := ⟨by decide +kernel, rfl⟩
theorem dX8_number_18 : decode cX8_number 18 = .ok (.iload_n 2, 1) ∧ 18 + 1 = 19 := ⟨by decide +kernel, rfl⟩
theorem dX8_number_19 : decode cX8_number 19 = .ok (.iconst 1, 1) ∧ 19 + 1 = 20 := ⟨by decide +kernel, rfl⟩
theorem dX8_number_20 : decode cX8_number 20 = .ok (.if_icmp .ge 6, 3) ∧ 20 + 3 = 23 ∧ ((20 : Nat) : Int) + (6) = ((26 : Nat) : Int) := ⟨by decide +kernel, rfl, rfl⟩
theorem dX8_number_23 : decode cX8_number 23 = .ok (.bipush (-3), 2) ∧ 23 + 2 = 25 := ⟨by decide +kernel, rfl⟩
theorem dX8_number_25 : decode cX8_number 25 = .ok (.ireturn, 1) ∧ 25 + 1 = 26 := ⟨by decide +kernel, rfl⟩
theorem dX8_number_26 : decode cX8_number 26 = .ok (.iload_n 2, 1) ∧ 26 + 1 = 27 := ⟨by decide +kernel, rfl⟩
theorem dX8_number_27 : decode cX8_number 27 = .ok (.aload_n 0, 1) ∧ 27 + 1 = 28 := ⟨by decide +kernel, rfl⟩
theorem dX8_number_28 : decode cX8_number 28 = .ok (.getfield 48, 3) ∧ 28 + 3 = 31 := ⟨by decide +kernel, rfl⟩
theorem dX8_number_31 : decode cX8_number 31 = .ok (.getfield 84, 3) ∧ 31 + 3 = 34 := ⟨by decide +kernel, rfl⟩
theorem dX8_number_34 : decode cX8_number 34 = .ok (.iload_n 3, 1) ∧ 34 + 1 = 35 := ⟨by decide +kernel, rfl⟩
theorem dX8_number_35 : decode cX8_number 35 = .ok (.invokevirtual 212, 3) ∧ 35 + 3 = 38 := ⟨by decide +kernel, rfl⟩
theorem dX8_number_38 : decode cX8_number 38 = .ok (.if_icmp .le 6, 3) ∧ 38 + 3 = 41 ∧ ((38 : Nat) : Int) + (6) = ((44 : Nat) : Int) := ⟨by decide +kernel, rfl, rfl⟩
theorem dX8_number_41 : decode cX8_number 41 = .ok (.bipush (-6), 2) ∧ 41 + 2 = 43 := ⟨by decide +kernel, rfl⟩
theorem dX8_number_43 : decode cX8_number 43 = .ok (.ireturn, 1) ∧ 43 + 1 = 44 := ⟨by decide +kernel, rfl⟩
theorem dX8_number_44 : decode cX8_number 44 = .ok (.aload_n 0, 1) ∧ 44 + 1 = 45 := ⟨by decide +kernel, rfl⟩
theorem dX8_number_45 : decode cX8_number 45 = .ok (.aload_n 0, 1) ∧ 45 + 1 = 46 := ⟨by decide +kernel, rfl⟩
theorem dX8_number_46 : decode cX8_number 46 = .ok (.getfield 48, 3) ∧ 46 + 3 = 49 := ⟨by decide +kernel, rfl⟩
theorem dX8_number_49 : decode cX8_number 49 = .ok (.getfield 84, 3) ∧ 49 + 3 = 52 := ⟨by decide +kernel, rfl⟩
theorem dX8_number_52 : decode cX8_number 52 = .ok (.iload_n 3, 1) ∧ 52 + 1 = 53 := ⟨by decide +kernel, rfl⟩
theorem dX8_number_53 : decode cX8_number 53 = .ok (.iload_n 2, 1) ∧ 53 + 1 = 54 := ⟨by decide +kernel, rfl⟩
theorem dX8_number_54 : decode cX8_number 54 = .ok (.invokevirtual 227, 3) ∧ 54 + 3 = 57 := ⟨by decide +kernel, rfl⟩
theorem dX8_number_57 : decode cX8_number 57 = .ok (.invokevirtual 215, 3) ∧ 57 + 3 = 60 := ⟨by decide +kernel, rfl⟩
theorem dX8_number_60 : decode cX8_number 60 = .ok (.iconst 1, 1) ∧ 60 + 1 = 61 := ⟨by decide +kernel, rfl⟩
theorem dX8_number_61 : decode cX8_number 61 = .ok (.iadd, 1) ∧ 61 + 1 = 62 := ⟨by decide +kernel, rfl⟩
theorem dX8_number_62 : decode cX8_number 62 = .ok (.ireturn, 1) ∧ 62 + 1 = 63 := ⟨by decide +kernel, rfl⟩
theorem dX8_charAt_0 : decode cX8_charAt 0 = .ok (.aload_n 0, 1) ∧ 0 + 1 = 1 := ⟨by decide +kernel, rfl⟩
theorem dX8_charAt_1 : decode cX8_charAt 1 = .ok (.getfield 26, 3) ∧ 1 + 3 = 4 := ⟨by decide +kernel, rfl⟩
theorem dX8_charAt_4 : decode cX8_charAt 4 = .ok (.iload_n 1, 1) ∧ 4 + 1 = 5 := ⟨by decide +kernel, rfl⟩
theorem dX8_charAt_5 : decode cX8_charAt 5 = .ok (.invokevirtual 107, 3) ∧ 5 + 3 = 8 := ⟨by decide +kernel, rfl⟩
theorem dX8_charAt_8 : decode cX8_charAt 8 = .ok (.istore_n 3, 1) ∧ 8 + 1 = 9 := ⟨by decide +kernel, rfl⟩
theorem dX8_charAt_9 : decode cX8_charAt 9 = .ok (.iload_n 3, 1) ∧ 9 + 1 = 10 := ⟨by decide +kernel, rfl⟩
theorem dX8_charAt_10 : decode cX8_charAt 10 = .ok (.bipush (-2), 2) ∧ 10 + 2 = 12 := ⟨by decide +kernel, rfl⟩
theorem dX8_charAt_12 : decode cX8_charAt 12 = .ok (.if_icmp .ne 6, 3) ∧ 12 + 3 = 15 ∧ ((12 : Nat) : Int) + (6) = ((18 : Nat) : Int) := ⟨by decide +kernel, rfl, rfl⟩
theorem dX8_charAt_15 : decode cX8_charAt 15 = .ok (.bipush (-2), 2) ∧ 15 + 2 = 17 := ⟨by decide +kernel, rfl⟩
theorem dX8_charAt_17 : decode cX8_charAt 17 = .ok (.ireturn, 1) ∧ 17 + 1 = 18 := ⟨by decide +kernel, rfl⟩
theorem dX8_charAt_18 : decode cX8_charAt 18 = .ok (.iload_n 2, 1) ∧ 18 + 1 = 19 := ⟨by decide +kernel, rfl⟩
theorem dX8_charAt_19 : decode cX8_charAt 19 = .ok (.ifCond .ge 6, 3) ∧ 19 + 3 = 22 ∧ ((19 : Nat) : Int) + (6) = ((25 : Nat) : Int) := ⟨by decide +kernel, rfl, rfl⟩
theorem dX8_charAt_22 : decode cX8_charAt 22 = .ok (.bipush (-3), 2) ∧ 22 + 2 = 24 := ⟨by decide +kernel, rfl⟩
theorem dX8_charAt_24 : decode cX8_charAt 24 = .ok (.ireturn, 1) ∧ 24 + 1 = 25 := ⟨by decide +kernel, rfl⟩
theorem dX8_charAt_25 : decode cX8_charAt 25 = .ok (.aload_n 0, 1) ∧ 25 + 1 = 26 := ⟨by decide +kernel, rfl⟩
theorem dX8_charAt_26 : decode cX8_charAt 26 = .ok (.getfield 48, 3) ∧ 26 + 3 = 29 := ⟨by decide +kernel, rfl⟩
theorem dX8_charAt_29 : decode cX8_charAt 29 = .ok (.getfield 84, 3) ∧ 29 + 3 = 32 := ⟨by decide +kernel, rfl⟩
theorem dX8_charAt_32 : decode cX8_charAt 32 = .ok (.iload_n 3, 1) ∧ 32 + 1 = 33 := ⟨by decide +kernel, rfl⟩
theorem dX8_charAt_33 : decode cX8_charAt 33 = .ok (.invokevirtual 88, 3) ∧ 33 + 3 = 36 := ⟨by decide +kernel, rfl⟩
theorem dX8_charAt_36 : decode cX8_charAt 36 = .ok (.istore 4, 2) ∧ 36 + 2 = 38 := ⟨by decide +kernel, rfl⟩
theorem dX8_charAt_38 : decode cX8_charAt 38 = .ok (.iload_n 2, 1) ∧ 38 + 1 = 39 := ⟨by decide +kernel, rfl⟩
theorem dX8_charAt_39 : decode cX8_charAt 39 = .ok (.aload_n 0, 1) ∧ 39 + 1 = 40 := ⟨by decide +kernel, rfl⟩
theorem dX8_charAt_40 : decode cX8_charAt 40 = .ok (.getfield 48, 3) ∧ 40 + 3 = 43 := ⟨by decide +kernel, rfl⟩
theorem dX8_charAt_43 : decode cX8_charAt 43 = .ok (.getfield 62, 3) ∧ 43 + 3 = 46 := ⟨by decide +kernel, rfl⟩
theorem dX8_charAt_46 : decode cX8_charAt 46 = .ok (.iload 4, 2) ∧ 46 + 2 = 48 := ⟨by decide +kernel, rfl⟩
theorem dX8_charAt_48 : decode cX8_charAt 48 = .ok (.invokevirtual 230, 3) ∧ 48 + 3 = 51 := ⟨by decide +kernel, rfl⟩
theorem dX8_charAt_51 : decode cX8_charAt 51 = .ok (.if_icmp .lt 6, 3) ∧ 51 + 3 = 54 ∧ ((51 : Nat) : Int) + (6) = ((57 : Nat) : Int) := ⟨by decide +kernel, rfl, rfl⟩
theorem dX8_charAt_54 : decode cX8_charAt 54 = .ok (.bipush (-6), 2) ∧ 54 + 2 = 56 := ⟨by decide +kernel, rfl⟩
theorem dX8_charAt_56 : decode cX8_charAt 56 = .ok (.ireturn, 1) ∧ 56 + 1 = 57 := ⟨by decide +kernel, rfl⟩
theorem dX8_charAt_57 : decode cX8_charAt 57 = .ok (.aload_n 0, 1) ∧ 57 + 1 = 58 := ⟨by decide +kernel, rfl⟩
theorem dX8_charAt_58 : decode cX8_charAt 58 = .ok (.getfield 48, 3) ∧ 58 + 3 = 61 := ⟨by decide +kernel, rfl⟩
theorem dX8_charAt_61 : decode cX8_charAt 61 = .ok (.getfield 62, 3) ∧ 61 + 3 = 64 := ⟨by decide +kernel, rfl⟩
theorem dX8_charAt_64 : decode cX8_charAt 64 = .ok (.iload 4, 2) ∧ 64 + 2 = 66 := ⟨by decide +kernel, rfl⟩
theorem dX8_charAt_66 : decode cX8_charAt 66 = .ok (.iload_n 2, 1) ∧ 66 + 1 = 67 := ⟨by decide +kernel, rfl⟩
theorem dX8_charAt_67 : decode cX8_charAt 67 = .ok (.invokevirtual 233, 3) ∧ 67 + 3 = 70 := ⟨by decide +kernel, rfl⟩
theorem dX8_charAt_70 : decode cX8_charAt 70 = .ok (.ireturn, 1) ∧ 70 + 1 = 71 := ⟨by decide +kernel, rfl⟩
theorem dX8_node_0 : decode cX8_node 0 = .ok (.aload_n 0, 1) ∧ 0 + 1 = 1 := ⟨by decide +kernel, rfl⟩
theorem dX8_node_1 : decode cX8_node 1 = .ok (.getfield 48, 3) ∧ 1 + 3 = 4 := ⟨by decide +kernel, rfl⟩
theorem dX8_node_4 : decode cX8_node 4 = .ok (.getfield 84, 3) ∧ 4 + 3 = 7 := ⟨by decide +kernel, rfl⟩
theorem dX8_node_7 : decode cX8_node 7 = .ok (.astore_n 3, 1) ∧ 7 + 1 = 8 := ⟨by decide +kernel, rfl⟩
theorem dX8_node_8 : decode cX8_node 8 = .ok (.aload_n 3, 1) ∧ 8 + 1 = 9 := ⟨by decide +kernel, rfl⟩
theorem dX8_node_9 : decode cX8_node 9 = .ok (.iload_n 1, 1) ∧ 9 + 1 = 10 := ⟨by decide +kernel, rfl⟩
theorem dX8_node_10 : decode cX8_node 10 = .ok (.invokevirtual 176, 3) ∧ 10 + 3 = 13 := ⟨by decide +kernel, rfl⟩
theorem dX8_node_13 : decode cX8_node 13 = .ok (.istore 4, 2) ∧ 13 + 2 = 15 := ⟨by decide +kernel, rfl⟩
theorem dX8_node_15 : decode cX8_node 15 = .ok (.iload 4, 2) ∧ 15 + 2 = 17 := ⟨by decide +kernel, rfl⟩
theorem dX8_node_17 : decode cX8_node 17 = .ok (.bipush (-2), 2) ∧ 17 + 2 = 19 := ⟨by decide +kernel, rfl⟩
theorem dX8_node_19 : decode cX8_node 19 = .ok (.if_icmp .ne 6, 3) ∧ 19 + 3 = 22 ∧ ((19 : Nat) : Int) + (6) = ((25 : Nat) : Int) := ⟨by decide +kernel, rfl, rfl⟩
theorem dX8_node_22 : decode cX8_node 22 = .ok (.bipush (-2), 2) ∧ 22 + 2 = 24 := ⟨by decide +kernel, rfl⟩
theorem dX8_node_24 : decode cX8_node 24 = .ok (.ireturn, 1) ∧ 24 + 1 = 25 := ⟨by decide +kernel, rfl⟩
theorem dX8_node_25 : decode cX8_node 25 = .ok (.iload_n 2, 1) ∧ 25 + 1 = 26 := ⟨by decide +kernel, rfl⟩
theorem dX8_node_26 : decode cX8_node 26 = .ok (.tableswitch 130 0 7 #[46, 58, 64, 74, 86, 98, 108, 120], 46) ∧ 26 + 46 = 72 := ⟨by decide +kernel, rfl⟩
theorem dX8_node_72 : decode cX8_node 72 = .ok (.aload_n 0, 1) ∧ 72 + 1 = 73 := ⟨by decide +kernel, rfl⟩
theorem dX8_node_73 : decode cX8_node 73 = .ok (.getfield 48, 3) ∧ 73 + 3 = 76 := ⟨by decide +kernel, rfl⟩
theorem dX8_node_76 : decode cX8_node 76 = .ok (.getfield 103, 3) ∧ 76 + 3 = 79 := ⟨by decide +kernel, rfl⟩
theorem dX8_node_79 : decode cX8_node 79 = .ok (.iload_n 1, 1) ∧ 79 + 1 = 80 := ⟨by decide +kernel, rfl⟩
theorem dX8_node_80 : decode cX8_node 80 = .ok (.invokevirtual 236, 3) ∧ 80 + 3 = 83 := ⟨by decide +kernel, rfl⟩
theorem dX8_node_83 : decode cX8_node 83 = .ok (.ireturn, 1) ∧ 83 + 1 = 84 := ⟨by decide +kernel, rfl⟩
theorem dX8_node_84 : decode cX8_node 84 = .ok (.aload_n 3, 1) ∧ 84 + 1 = 85 := ⟨by decide +kernel, rfl⟩
theorem dX8_node_85 : decode cX8_node 85 = .ok (.iload_n 1, 1) ∧ 85 + 1 = 86 := ⟨by decide +kernel, rfl⟩
theorem dX8_node_86 : decode cX8_node 86 = .ok (.invokevirtual 148, 3) ∧ 86 + 3 = 89 := ⟨by decide +kernel, rfl⟩
theorem dX8_node_89 : decode cX8_node 89 = .ok (.ireturn, 1) ∧ 89 + 1 = 90 := ⟨by decide +kernel, rfl⟩
theorem dX8_node_90 : decode cX8_node 90 = .ok (.aload_n 0, 1) ∧ 90 + 1 = 91 := ⟨by decide +kernel, rfl⟩
theorem dX8_node_91 : decode cX8_node 91 = .ok (.getfield 26, 3) ∧ 91 + 3 = 94 := ⟨by decide +kernel, rfl⟩
theorem dX8_node_94 : decode cX8_node 94 = .ok (.aload_n 3, 1) ∧ 94 + 1 = 95 := ⟨by decide +kernel, rfl⟩
theorem dX8_node_95 : decode cX8_node 95 = .ok (.iload_n 1, 1) ∧ 95 + 1 = 96 := ⟨by decide +kernel, rfl⟩
theorem dX8_node_96 : decode cX8_node 96 = .ok (.invokevirtual 239, 3) ∧ 96 + 3 = 99 := ⟨by decide +kernel, rfl⟩
theorem dX8_node_99 : decode cX8_node 99 = .ok (.ireturn, 1) ∧ 99 + 1 = 100 := ⟨by decide +kernel, rfl⟩
theorem dX8_node_100 : decode cX8_node 100 = .ok (.aload_n 0, 1) ∧ 100 + 1 = 101 := ⟨by decide +kernel, rfl⟩
theorem dX8_node_101 : decode cX8_node 101 = .ok (.getfield 48, 3) ∧ 101 + 3 = 104 := ⟨by decide +kernel, rfl⟩
theorem dX8_node_104 : decode cX8_node 104 = .ok (.getfield 103, 3) ∧ 104 + 3 = 107 := ⟨by decide +kernel, rfl⟩
theorem dX8_node_107 : decode cX8_node 107 = .ok (.iload_n 1, 1) ∧ 107 + 1 = 108 := ⟨by decide +kernel, rfl⟩
theorem dX8_node_108 : decode cX8_node 108 = .ok (.invokevirtual 137, 3) ∧ 108 + 3 = 111 := ⟨by decide +kernel, rfl⟩
theorem dX8_node_111 : decode cX8_node 111 = .ok (.ireturn, 1) ∧ 111 + 1 = 112 := ⟨by decide +kernel, rfl⟩
theorem dX8_node_112 : decode cX8_node 112 = .ok (.aload_n 0, 1) ∧ 112 + 1 = 113 := ⟨by decide +kernel, rfl⟩
theorem dX8_node_113 : decode cX8_node 113 = .ok (.getfield 48, 3) ∧ 113 + 3 = 116 := ⟨by decide +kernel, rfl⟩
theorem dX8_node_116 : decode cX8_node 116 = .ok (.getfield 62, 3) ∧ 116 + 3 = 119 := ⟨by decide +kernel, rfl⟩
theorem dX8_node_119 : decode cX8_node 119 = .ok (.iload_n 1, 1) ∧ 119 + 1 = 120 := ⟨by decide +kernel, rfl⟩
theorem dX8_node_120 : decode cX8_node 120 = .ok (.invokevirtual 158, 3) ∧ 120 + 3 = 123 := ⟨by decide +kernel, rfl⟩
theorem dX8_node_123 : decode cX8_node 123 = .ok (.ireturn, 1) ∧ 123 + 1 = 124 := ⟨by decide +kernel, rfl⟩
theorem dX8_node_124 : decode cX8_node 124 = .ok (.aload_n 0, 1) ∧ 124 + 1 = 125 := ⟨by decide +kernel, rfl⟩
theorem dX8_node_125 : decode cX8_node 125 = .ok (.getfield 26, 3) ∧ 125 + 3 = 128 := ⟨by decide +kernel, rfl⟩
theorem dX8_node_128 : decode cX8_node 128 = .ok (.aload_n 3, 1) ∧ 128 + 1 = 129 := ⟨by decide +kernel, rfl⟩
theorem dX8_node_129 : decode cX8_node 129 = .ok (.iload_n 1, 1) ∧ 129 + 1 = 130 := ⟨by decide +kernel, rfl⟩
theorem dX8_node_130 : decode cX8_node 130 = .ok (.invokevirtual 243, 3) ∧ 130 + 3 = 133 := ⟨by decide +kernel, rfl⟩
theorem dX8_node_133 : decode cX8_node 133 = .ok (.ireturn, 1) ∧ 133 + 1 = 134 := ⟨by decide +kernel, rfl⟩
theorem dX8_node_134 : decode cX8_node 134 = .ok (.aload_n 0, 1) ∧ 134 + 1 = 135 := ⟨by decide +kernel, rfl⟩
theorem dX8_node_135 : decode cX8_node 135 = .ok (.getfield 48, 3) ∧ 135 + 3 = 138 := ⟨by decide +kernel, rfl⟩
theorem dX8_node_138 : decode cX8_node 138 = .ok (.getfield 62, 3) ∧ 138 + 3 = 141 := ⟨by decide +kernel, rfl⟩
theorem dX8_node_141 : decode cX8_node 141 = .ok (.iload_n 1, 1) ∧ 141 + 1 = 142 := ⟨by decide +kernel, rfl⟩
theorem dX8_node_142 : decode cX8_node 142 = .ok (.invokevirtual 230, 3) ∧ 142 + 3 = 145 := ⟨by decide +kernel, rfl⟩
theorem dX8_node_145 : decode cX8_node 145 = .ok (.ireturn, 1) ∧ 145 + 1 = 146 := ⟨by decide +kernel, rfl⟩
theorem dX8_node_146 : decode cX8_node 146 = .ok (.aload_n 3, 1) ∧ 146 + 1 = 147 := ⟨by decide +kernel, rfl⟩
theorem dX8_node_147 : decode cX8_node 147 = .ok (.iload 4, 2) ∧ 147 + 2 = 149 := ⟨by decide +kernel, rfl⟩
theorem dX8_node_149 : decode cX8_node 149 = .ok (.invokevirtual 245, 3) ∧ 149 + 3 = 152 := ⟨by decide +kernel, rfl⟩
theorem dX8_node_152 : decode cX8_node 152 = .ok (.invokestatic 249, 3) ∧ 152 + 3 = 155 := ⟨by decide +kernel, rfl⟩
theorem dX8_node_155 : decode cX8_node 155 = .ok (.ireturn, 1) ∧ 155 + 1 = 156 := ⟨by decide +kernel, rfl⟩
theorem dX8_node_156 : decode cX8_node 156 = .ok (.bipush (-3), 2) ∧ 156 + 2 = 158 := ⟨by decide +kernel, rfl⟩
theorem dX8_node_158 : decode cX8_node 158 = .ok (.ireturn, 1) ∧ 158 + 1 = 159 := ⟨by decide +kernel, rfl⟩
theorem dX8_nextMarked_0 : decode cX8_nextMarked 0 = .ok (.aload_n 0, 1) ∧ 0 + 1 = 1 := ⟨by decide +kernel, rfl⟩
theorem dX8_nextMarked_1 : decode cX8_nextMarked 1 = .ok (.iload_n 1, 1) ∧ 1 + 1 = 2 := ⟨by decide +kernel, rfl⟩
theorem dX8_nextMarked_2 : decode cX8_nextMarked 2 = .ok (.invokevirtual 54, 3) ∧ 2 + 3 = 5 := ⟨by decide +kernel, rfl⟩
theorem dX8_nextMarked_5 : decode cX8_nextMarked 5 = .ok (.bipush (-2), 2) ∧ 5 + 2 = 7 := ⟨by decide +kernel, rfl⟩
theorem dX8_nextMarked_7 : decode cX8_nextMarked 7 = .ok (.if_icmp .ne 6, 3) ∧ 7 + 3 = 10 ∧ ((7 : Nat) : Int) + (6) = ((13 : Nat) : Int) := ⟨by decide +kernel, rfl, rfl⟩
theorem dX8_nextMarked_10 : decode cX8_nextMarked 10 = .ok (.bipush (-2), 2) ∧ 10 + 2 = 12 := ⟨by decide +kernel, rfl⟩
theorem dX8_nextMarked_12 : decode cX8_nextMarked 12 = .ok (.ireturn, 1) ∧ 12 + 1 = 13 := ⟨by decide +kernel, rfl⟩
theorem dX8_nextMarked_13 : decode cX8_nextMarked 13 = .ok (.iload_n 2, 1) ∧ 13 + 1 = 14 := ⟨by decide +kernel, rfl⟩
theorem dX8_nextMarked_14 : decode cX8_nextMarked 14 = .ok (.invokestatic 151, 3) ∧ 14 + 3 = 17 := ⟨by decide +kernel, rfl⟩
theorem dX8_nextMarked_17 : decode cX8_nextMarked 17 = .ok (.ifCond .ne 6, 3) ∧ 17 + 3 = 20 ∧ ((17 : Nat) : Int) + (6) = ((23 : Nat) : Int) := ⟨by decide +kernel, rfl, rfl⟩
theorem dX8_nextMarked_20 : decode cX8_nextMarked 20 = .ok (.bipush (-3), 2) ∧ 20 + 2 = 22 := ⟨by decide +kernel, rfl⟩
theorem dX8_nextMarked_22 : decode cX8_nextMarked 22 = .ok (.ireturn, 1) ∧ 22 + 1 = 23 := ⟨by decide +kernel, rfl⟩
theorem dX8_nextMarked_23 : decode cX8_nextMarked 23 = .ok (.iload_n 1, 1) ∧ 23 + 1 = 24 := ⟨by decide +kernel, rfl⟩
theorem dX8_nextMarked_24 : decode cX8_nextMarked 24 = .ok (.iconst 1, 1) ∧ 24 + 1 = 25 := ⟨by decide +kernel, rfl⟩
theorem dX8_nextMarked_25 : decode cX8_nextMarked 25 = .ok (.iadd, 1) ∧ 25 + 1 = 26 := ⟨by decide +kernel, rfl⟩
theorem dX8_nextMarked_26 : decode cX8_nextMarked 26 = .ok (.istore_n 3, 1) ∧ 26 + 1 = 27 := ⟨by decide +kernel, rfl⟩
theorem dX8_nextMarked_27 : decode cX8_nextMarked 27 = .ok (.iload_n 3, 1) ∧ 27 + 1 = 28 := ⟨by decide +kernel, rfl⟩
theorem dX8_nextMarked_28 : decode cX8_nextMarked 28 = .ok (.aload_n 0, 1) ∧ 28 + 1 = 29 := ⟨by decide +kernel, rfl⟩
theorem dX8_nextMarked_29 : decode cX8_nextMarked 29 = .ok (.getfield 26, 3) ∧ 29 + 3 = 32 := ⟨by decide +kernel, rfl⟩
theorem dX8_nextMarked_32 : decode cX8_nextMarked 32 = .ok (.getfield 170, 3) ∧ 32 + 3 = 35 := ⟨by decide +kernel, rfl⟩
theorem dX8_nextMarked_35 : decode cX8_nextMarked 35 = .ok (.if_icmp .ge 34, 3) ∧ 35 + 3 = 38 ∧ ((35 : Nat) : Int) + (34) = ((69 : Nat) : Int) := ⟨by decide +kernel, rfl, rfl⟩
theorem dX8_nextMarked_38 : decode cX8_nextMarked 38 = .ok (.aload_n 0, 1) ∧ 38 + 1 = 39 := ⟨by decide +kernel, rfl⟩
theorem dX8_nextMarked_39 : decode cX8_nextMarked 39 = .ok (.getfield 48, 3) ∧ 39 + 3 = 42 := ⟨by decide +kernel, rfl⟩
theorem dX8_nextMarked_42 : decode cX8_nextMarked 42 = .ok (.getfield 62, 3) ∧ 42 + 3 = 45 := ⟨by decide +kernel, rfl⟩
theorem dX8_nextMarked_45 : decode cX8_nextMarked 45 = .ok (.aload_n 0, 1) ∧ 45 + 1 = 46 := ⟨by decide +kernel, rfl⟩
theorem dX8_nextMarked_46 : decode cX8_nextMarked 46 = .ok (.iload_n 3, 1) ∧ 46 + 1 = 47 := ⟨by decide +kernel, rfl⟩
theorem dX8_nextMarked_47 : decode cX8_nextMarked 47 = .ok (.invokevirtual 100, 3) ∧ 47 + 3 = 50 := ⟨by decide +kernel, rfl⟩
theorem dX8_nextMarked_50 : decode cX8_nextMarked 50 = .ok (.invokevirtual 158, 3) ∧ 50 + 3 = 53 := ⟨by decide +kernel, rfl⟩
theorem dX8_nextMarked_53 : decode cX8_nextMarked 53 = .ok (.iload_n 2, 1) ∧ 53 + 1 = 54 := ⟨by decide +kernel, rfl⟩
theorem dX8_nextMarked_54 : decode cX8_nextMarked 54 = .ok (.ishr, 1) ∧ 54 + 1 = 55 := ⟨by decide +kernel, rfl⟩
theorem dX8_nextMarked_55 : decode cX8_nextMarked 55 = .ok (.iconst 1, 1) ∧ 55 + 1 = 56 := ⟨by decide +kernel, rfl⟩
theorem dX8_nextMarked_56 : decode cX8_nextMarked 56 = .ok (.iand, 1) ∧ 56 + 1 = 57 := ⟨by decide +kernel, rfl⟩
theorem dX8_nextMarked_57 : decode cX8_nextMarked 57 = .ok (.iconst 1, 1) ∧ 57 + 1 = 58 := ⟨by decide +kernel, rfl⟩
theorem dX8_nextMarked_58 : decode cX8_nextMarked 58 = .ok (.if_icmp .ne 5, 3) ∧ 58 + 3 = 61 ∧ ((58 : Nat) : Int) + (5) = ((63 : Nat) : Int) := ⟨by decide +kernel, rfl, rfl⟩
theorem dX8_nextMarked_61 : decode cX8_nextMarked 61 = .ok (.iload_n 3, 1) ∧ 61 + 1 = 62 := ⟨by decide +kernel, rfl⟩
theorem dX8_nextMarked_62 : decode cX8_nextMarked 62 = .ok (.ireturn, 1) ∧ 62 + 1 = 63 := ⟨by decide +kernel, rfl⟩
theorem dX8_nextMarked_63 : decode cX8_nextMarked 63 = .ok (.iinc 3 1, 3) ∧ 63 + 3 = 66 := ⟨by decide +kernel, rfl⟩
theorem dX8_nextMarked_66 : decode cX8_nextMarked 66 = .ok (.goto (-39), 3) ∧ 66 + 3 = 69 ∧ ((66 : Nat) : Int) + (-39) = ((27 : Nat) : Int) := ⟨by decide +kernel, rfl, rfl⟩
theorem dX8_nextMarked_69 : decode cX8_nextMarked 69 = .ok (.bipush (-6), 2) ∧ 69 + 2 = 71 := ⟨by decide +kernel, rfl⟩
theorem dX8_nextMarked_71 : decode cX8_nextMarked 71 = .ok (.ireturn, 1) ∧ 71 + 1 = 72 := ⟨by decide +kernel, rfl⟩
theorem dX8_find_0 : decode cX8_find 0 = .ok (.aload_n 0, 1) ∧ 0 + 1 = 1 := ⟨by decide +kernel, rfl⟩
theorem dX8_find_1 : decode cX8_find 1 = .ok (.iload_n 1, 1) ∧ 1 + 1 = 2 := ⟨by decide +kernel, rfl⟩
theorem dX8_find_2 : decode cX8_find 2 = .ok (.invokevirtual 54, 3) ∧ 2 + 3 = 5 := ⟨by decide +kernel, rfl⟩
theorem dX8_find_5 : decode cX8_find 5 = .ok (.bipush (-2), 2) ∧ 5 + 2 = 7 := ⟨by decide +kernel, rfl⟩
theorem dX8_find_7 : decode cX8_find 7 = .ok (.if_icmp .ne 6, 3) ∧ 7 + 3 = 10 ∧ ((7 : Nat) : Int) + (6) = ((13 : Nat) : Int) := ⟨by decide +kernel, rfl, rfl⟩
theorem dX8_find_10 : decode cX8_find 10 = .ok (.bipush (-2), 2) ∧ 10 + 2 = 12 := ⟨by decide +kernel, rfl⟩
theorem dX8_find_12 : decode cX8_find 12 = .ok (.ireturn, 1) ∧ 12 + 1 = 13 := ⟨by decide +kernel, rfl⟩
theorem dX8_find_13 : decode cX8_find 13 = .ok (.iload_n 1, 1) ∧ 13 + 1 = 14 := ⟨by decide +kernel, rfl⟩
theorem dX8_find_14 : decode cX8_find 14 = .ok (.iconst 1, 1) ∧ 14 + 1 = 15 := ⟨by decide +kernel, rfl⟩
theorem dX8_find_15 : decode cX8_find 15 = .ok (.iadd, 1) ∧ 15 + 1 = 16 := ⟨by decide +kernel, rfl⟩
theorem dX8_find_16 : decode cX8_find 16 = .ok (.istore_n 2, 1) ∧ 16 + 1 = 17 := ⟨by decide +kernel, rfl⟩
theorem dX8_find_17 : decode cX8_find 17 = .ok (.iload_n 2, 1) ∧ 17 + 1 = 18 := ⟨by decide +kernel, rfl⟩
theorem dX8_find_18 : decode cX8_find 18 = .ok (.aload_n 0, 1) ∧ 18 + 1 = 19 := ⟨by decide +kernel, rfl⟩
theorem dX8_find_19 : decode cX8_find 19 = .ok (.getfield 26, 3) ∧ 19 + 3 = 22 := ⟨by decide +kernel, rfl⟩
theorem dX8_find_22 : decode cX8_find 22 = .ok (.getfield 170, 3) ∧ 22 + 3 = 25 := ⟨by decide +kernel, rfl⟩
theorem dX8_find_25 : decode cX8_find 25 = .ok (.if_icmp .ge 33, 3) ∧ 25 + 3 = 28 ∧ ((25 : Nat) : Int) + (33) = ((58 : Nat) : Int) := ⟨by decide +kernel, rfl, rfl⟩
theorem dX8_find_28 : decode cX8_find 28 = .ok (.aload_n 0, 1) ∧ 28 + 1 = 29 := ⟨by decide +kernel, rfl⟩
theorem dX8_find_29 : decode cX8_find 29 = .ok (.getfield 48, 3) ∧ 29 + 3 = 32 := ⟨by decide +kernel, rfl⟩
theorem dX8_find_32 : decode cX8_find 32 = .ok (.getfield 62, 3) ∧ 32 + 3 = 35 := ⟨by decide +kernel, rfl⟩
theorem dX8_find_35 : decode cX8_find 35 = .ok (.aload_n 0, 1) ∧ 35 + 1 = 36 := ⟨by decide +kernel, rfl⟩
theorem dX8_find_36 : decode cX8_find 36 = .ok (.iload_n 2, 1) ∧ 36 + 1 = 37 := ⟨by decide +kernel, rfl⟩
theorem dX8_find_37 : decode cX8_find 37 = .ok (.invokevirtual 100, 3) ∧ 37 + 3 = 40 := ⟨by decide +kernel, rfl⟩
theorem dX8_find_40 : decode cX8_find 40 = .ok (.aload_n 0, 1) ∧ 40 + 1 = 41 := ⟨by decide +kernel, rfl⟩
theorem dX8_find_41 : decode cX8_find 41 = .ok (.getfield 10, 3) ∧ 41 + 3 = 44 := ⟨by decide +kernel, rfl⟩
theorem dX8_find_44 : decode cX8_find 44 = .ok (.invokevirtual 144, 3) ∧ 44 + 3 = 47 := ⟨by decide +kernel, rfl⟩
theorem dX8_find_47 : decode cX8_find 47 = .ok (.ifCond .eq 5, 3) ∧ 47 + 3 = 50 ∧ ((47 : Nat) : Int) + (5) = ((52 : Nat) : Int) := ⟨by decide +kernel, rfl, rfl⟩
theorem dX8_find_50 : decode cX8_find 50 = .ok (.iload_n 2, 1) ∧ 50 + 1 = 51 := ⟨by decide +kernel, rfl⟩
theorem dX8_find_51 : decode cX8_find 51 = .ok (.ireturn, 1) ∧ 51 + 1 = 52 := ⟨by decide +kernel, rfl⟩
theorem dX8_find_52 : decode cX8_find 52 = .ok (.iinc 2 1, 3) ∧ 52 + 3 = 55 := ⟨by decide +kernel, rfl⟩
theorem dX8_find_55 : decode cX8_find 55 = .ok (.goto (-38), 3) ∧ 55 + 3 = 58 ∧ ((55 : Nat) : Int) + (-38) = ((17 : Nat) : Int) := ⟨by decide +kernel, rfl, rfl⟩
theorem dX8_find_58 : decode cX8_find 58 = .ok (.bipush (-6), 2) ∧ 58 + 2 = 60 := ⟨by decide +kernel, rfl⟩
theorem dX8_find_60 : decode cX8_find 60 = .ok (.ireturn, 1) ∧ 60 + 1 = 61 := ⟨by decide +kernel, rfl⟩
theorem dX8_count_0 : decode cX8_count 0 = .ok (.iload_n 1, 1) ∧ 0 + 1 = 1 := ⟨by decide +kernel, rfl⟩
theorem dX8_count_1 : decode cX8_count 1 = .ok (.tableswitch 144 0 8 #[51, 65, 76, 87, 95, 106, 117, 128, 136], 51) ∧ 1 + 51 = 52 := ⟨by decide +kernel, rfl⟩
theorem dX8_count_52 : decode cX8_count 52 = .ok (.aload_n 0, 1) ∧ 52 + 1 = 53 := ⟨by decide +kernel, rfl⟩
theorem dX8_count_53 : decode cX8_count 53 = .ok (.getfield 48, 3) ∧ 53 + 3 = 56 := ⟨by decide +kernel, rfl⟩
theorem dX8_count_56 : decode cX8_count 56 = .ok (.getfield 84, 3) ∧ 56 + 3 = 59 := ⟨by decide +kernel, rfl⟩
theorem dX8_count_59 : decode cX8_count 59 = .ok (.invokevirtual 123, 3) ∧ 59 + 3 = 62 := ⟨by decide +kernel, rfl⟩
theorem dX8_count_62 : decode cX8_count 62 = .ok (.invokestatic 249, 3) ∧ 62 + 3 = 65 := ⟨by decide +kernel, rfl⟩
theorem dX8_count_65 : decode cX8_count 65 = .ok (.ireturn, 1) ∧ 65 + 1 = 66 := ⟨by decide +kernel, rfl⟩
theorem dX8_count_66 : decode cX8_count 66 = .ok (.aload_n 0, 1) ∧ 66 + 1 = 67 := ⟨by decide +kernel, rfl⟩
theorem dX8_count_67 : decode cX8_count 67 = .ok (.getfield 48, 3) ∧ 67 + 3 = 70 := ⟨by decide +kernel, rfl⟩
theorem dX8_count_70 : decode cX8_count 70 = .ok (.getfield 62, 3) ∧ 70 + 3 = 73 := ⟨by decide +kernel, rfl⟩
theorem dX8_count_73 : decode cX8_count 73 = .ok (.getfield 66, 3) ∧ 73 + 3 = 76 := ⟨by decide +kernel, rfl⟩
theorem dX8_count_76 : decode cX8_count 76 = .ok (.ireturn, 1) ∧ 76 + 1 = 77 := ⟨by decide +kernel, rfl⟩
theorem dX8_count_77 : decode cX8_count 77 = .ok (.aload_n 0, 1) ∧ 77 + 1 = 78 := ⟨by decide +kernel, rfl⟩
theorem dX8_count_78 : decode cX8_count 78 = .ok (.getfield 48, 3) ∧ 78 + 3 = 81 := ⟨by decide +kernel, rfl⟩
theorem dX8_count_81 : decode cX8_count 81 = .ok (.getfield 84, 3) ∧ 81 + 3 = 84 := ⟨by decide +kernel, rfl⟩
theorem dX8_count_84 : decode cX8_count 84 = .ok (.getfield 202, 3) ∧ 84 + 3 = 87 := ⟨by decide +kernel, rfl⟩
theorem dX8_count_87 : decode cX8_count 87 = .ok (.ireturn, 1) ∧ 87 + 1 = 88 := ⟨by decide +kernel, rfl⟩
theorem dX8_count_88 : decode cX8_count 88 = .ok (.aload_n 0, 1) ∧ 88 + 1 = 89 := ⟨by decide +kernel, rfl⟩
theorem dX8_count_89 : decode cX8_count 89 = .ok (.getfield 26, 3) ∧ 89 + 3 = 92 := ⟨by decide +kernel, rfl⟩
theorem dX8_count_92 : decode cX8_count 92 = .ok (.getfield 170, 3) ∧ 92 + 3 = 95 := ⟨by decide +kernel, rfl⟩
theorem dX8_count_95 : decode cX8_count 95 = .ok (.ireturn, 1) ∧ 95 + 1 = 96 := ⟨by decide +kernel, rfl⟩
theorem dX8_count_96 : decode cX8_count 96 = .ok (.aload_n 0, 1) ∧ 96 + 1 = 97 := ⟨by decide +kernel, rfl⟩
theorem dX8_count_97 : decode cX8_count 97 = .ok (.getfield 48, 3) ∧ 97 + 3 = 100 := ⟨by decide +kernel, rfl⟩
theorem dX8_count_100 : decode cX8_count 100 = .ok (.getfield 84, 3) ∧ 100 + 3 = 103 := ⟨by decide +kernel, rfl⟩
theorem dX8_count_103 : decode cX8_count 103 = .ok (.invokevirtual 254, 3) ∧ 103 + 3 = 106 := ⟨by decide +kernel, rfl⟩
theorem dX8_count_106 : decode cX8_count 106 = .ok (.ireturn, 1) ∧ 106 + 1 = 107 := ⟨by decide +kernel, rfl⟩
theorem dX8_count_107 : decode cX8_count 107 = .ok (.aload_n 0, 1) ∧ 107 + 1 = 108 := ⟨by decide +kernel, rfl⟩
theorem dX8_count_108 : decode cX8_count 108 = .ok (.getfield 48, 3) ∧ 108 + 3 = 111 := ⟨by decide +kernel, rfl⟩
theorem dX8_count_111 : decode cX8_count 111 = .ok (.getfield 103, 3) ∧ 111 + 3 = 114 := ⟨by decide +kernel, rfl⟩
theorem dX8_count_114 : decode cX8_count 114 = .ok (.invokevirtual 257, 3) ∧ 114 + 3 = 117 := ⟨by decide +kernel, rfl⟩
theorem dX8_count_117 : decode cX8_count 117 = .ok (.ireturn, 1) ∧ 117 + 1 = 118 := ⟨by decide +kernel, rfl⟩
theorem dX8_count_118 : decode cX8_count 118 = .ok (.aload_n 0, 1) ∧ 118 + 1 = 119 := ⟨by decide +kernel, rfl⟩
theorem dX8_count_119 : decode cX8_count 119 = .ok (.getfield 48, 3) ∧ 119 + 3 = 122 := ⟨by decide +kernel, rfl⟩
theorem dX8_count_122 : decode cX8_count 122 = .ok (.getfield 84, 3) ∧ 122 + 3 = 125 := ⟨by decide +kernel, rfl⟩
theorem dX8_count_125 : decode cX8_count 125 = .ok (.invokevirtual 260, 3) ∧ 125 + 3 = 128 := ⟨by decide +kernel, rfl⟩
theorem dX8_count_128 : decode cX8_count 128 = .ok (.ireturn, 1) ∧ 128 + 1 = 129 := ⟨by decide +kernel, rfl⟩
theorem dX8_count_129 : decode cX8_count 129 = .ok (.aload_n 0, 1) ∧ 129 + 1 = 130 := ⟨by decide +kernel, rfl⟩
theorem dX8_count_130 : decode cX8_count 130 = .ok (.getfield 33, 3) ∧ 130 + 3 = 133 := ⟨by decide +kernel, rfl⟩
theorem dX8_count_133 : decode cX8_count 133 = .ok (.getfield 211, 3) ∧ 133 + 3 = 136 := ⟨by decide +kernel, rfl⟩
theorem dX8_count_136 : decode cX8_count 136 = .ok (.ireturn, 1) ∧ 136 + 1 = 137 := ⟨by decide +kernel, rfl⟩
theorem dX8_count_137 : decode cX8_count 137 = .ok (.aload_n 0, 1) ∧ 137 + 1 = 138 := ⟨by decide +kernel, rfl⟩
theorem dX8_count_138 : decode cX8_count 138 = .ok (.getfield 10, 3) ∧ 138 + 3 = 141 := ⟨by decide +kernel, rfl⟩
theorem dX8_count_141 : decode cX8_count 141 = .ok (.getfield 189, 3) ∧ 141 + 3 = 144 := ⟨by decide +kernel, rfl⟩
theorem dX8_count_144 : decode cX8_count 144 = .ok (.ireturn, 1) ∧ 144 + 1 = 145 := ⟨by decide +kernel, rfl⟩
theorem dX8_count_145 : decode cX8_count 145 = .ok (.bipush (-3), 2) ∧ 145 + 2 = 147 := ⟨by decide +kernel, rfl⟩
theorem dX8_count_147 : decode cX8_count 147 = .ok (.ireturn, 1) ∧ 147 + 1 = 148 := ⟨by decide +kernel, rfl⟩
theorem dX8_isMark_0 : decode cX8_isMark 0 = .ok (.iload_n 0, 1) ∧ 0 + 1 = 1 := ⟨by decide +kernel, rfl⟩
theorem dX8_isMark_1 : decode cX8_isMark 1 = .ok (.ifCond .lt 12, 3) ∧ 1 + 3 = 4 ∧ ((1 : Nat) : Int) + (12) = ((13 : Nat) : Int) := ⟨by decide +kernel, rfl, rfl⟩
theorem dX8_isMark_4 : decode cX8_isMark 4 = .ok (.iload_n 0, 1) ∧ 4 + 1 = 5 := ⟨by decide +kernel, rfl⟩
theorem dX8_isMark_5 : decode cX8_isMark 5 = .ok (.iconst 5, 1) ∧ 5 + 1 = 6 := ⟨by decide +kernel, rfl⟩
theorem dX8_isMark_6 : decode cX8_isMark 6 = .ok (.if_icmp .ge 7, 3) ∧ 6 + 3 = 9 ∧ ((6 : Nat) : Int) + (7) = ((13 : Nat) : Int) := ⟨by decide +kernel, rfl, rfl⟩
theorem dX8_isMark_9 : decode cX8_isMark 9 = .ok (.iconst 1, 1) ∧ 9 + 1 = 10 := ⟨by decide +kernel, rfl⟩
theorem dX8_isMark_10 : decode cX8_isMark 10 = .ok (.goto 4, 3) ∧ 10 + 3 = 13 ∧ ((10 : Nat) : Int) + (4) = ((14 : Nat) : Int) := ⟨by decide +kernel, rfl, rfl⟩
theorem dX8_isMark_13 : decode cX8_isMark 13 = .ok (.iconst 0, 1) ∧ 13 + 1 = 14 := ⟨by decide +kernel, rfl⟩
theorem dX8_isMark_14 : decode cX8_isMark 14 = .ok (.ireturn, 1) ∧ 14 + 1 = 15 := ⟨by decide +kernel, rfl⟩
theorem dX8_placeOrRoot_0 : decode cX8_placeOrRoot 0 = .ok (.iload_n 1, 1) ∧ 0 + 1 = 1 := ⟨by decide +kernel, rfl⟩
theorem dX8_placeOrRoot_1 : decode cX8_placeOrRoot 1 = .ok (.iconst (-1), 1) ∧ 1 + 1 = 2 := ⟨by decide +kernel, rfl⟩
theorem dX8_placeOrRoot_2 : decode cX8_placeOrRoot 2 = .ok (.if_icmp .ne 7, 3) ∧ 2 + 3 = 5 ∧ ((2 : Nat) : Int) + (7) = ((9 : Nat) : Int) := ⟨by decide +kernel, rfl, rfl⟩
theorem dX8_placeOrRoot_5 : decode cX8_placeOrRoot 5 = .ok (.iconst (-1), 1) ∧ 5 + 1 = 6 := ⟨by decide +kernel, rfl⟩
theorem dX8_placeOrRoot_6 : decode cX8_placeOrRoot 6 = .ok (.goto 11, 3) ∧ 6 + 3 = 9 ∧ ((6 : Nat) : Int) + (11) = ((17 : Nat) : Int) := ⟨by decide +kernel, rfl, rfl⟩
theorem dX8_placeOrRoot_9 : decode cX8_placeOrRoot 9 = .ok (.aload_n 0, 1) ∧ 9 + 1 = 10 := ⟨by decide +kernel, rfl⟩
theorem dX8_placeOrRoot_10 : decode cX8_placeOrRoot 10 = .ok (.getfield 26, 3) ∧ 10 + 3 = 13 := ⟨by decide +kernel, rfl⟩
theorem dX8_placeOrRoot_13 : decode cX8_placeOrRoot 13 = .ok (.iload_n 1, 1) ∧ 13 + 1 = 14 := ⟨by decide +kernel, rfl⟩
theorem dX8_placeOrRoot_14 : decode cX8_placeOrRoot 14 = .ok (.invokevirtual 107, 3) ∧ 14 + 3 = 17 := ⟨by decide +kernel, rfl⟩
theorem dX8_placeOrRoot_17 : decode cX8_placeOrRoot 17 = .ok (.ireturn, 1) ∧ 17 + 1 = 18 := ⟨by decide +kernel, rfl⟩
theorem dX8_nodeOfRow_0 : decode cX8_nodeOfRow 0 = .ok (.aload_n 0, 1) ∧ 0 + 1 = 1 := ⟨by decide +kernel, rfl⟩
theorem dX8_nodeOfRow_1 : decode cX8_nodeOfRow 1 = .ok (.getfield 48, 3) ∧ 1 + 3 = 4 := ⟨by decide +kernel, rfl⟩
theorem dX8_nodeOfRow_4 : decode cX8_nodeOfRow 4 = .ok (.getfield 84, 3) ∧ 4 + 3 = 7 := ⟨by decide +kernel, rfl⟩
theorem dX8_nodeOfRow_7 : decode cX8_nodeOfRow 7 = .ok (.aload_n 0, 1) ∧ 7 + 1 = 8 := ⟨by decide +kernel, rfl⟩
theorem dX8_nodeOfRow_8 : decode cX8_nodeOfRow 8 = .ok (.getfield 26, 3) ∧ 8 + 3 = 11 := ⟨by decide +kernel, rfl⟩
theorem dX8_nodeOfRow_11 : decode cX8_nodeOfRow 11 = .ok (.iload_n 1, 1) ∧ 11 + 1 = 12 := ⟨by decide +kernel, rfl⟩
theorem dX8_nodeOfRow_12 : decode cX8_nodeOfRow 12 = .ok (.invokevirtual 107, 3) ∧ 12 + 3 = 15 := ⟨by decide +kernel, rfl⟩
theorem dX8_nodeOfRow_15 : decode cX8_nodeOfRow 15 = .ok (.invokevirtual 88, 3) ∧ 15 + 3 = 18 := ⟨by decide +kernel, rfl⟩
theorem dX8_nodeOfRow_18 : decode cX8_nodeOfRow 18 = .ok (.ireturn, 1) ∧ 18 + 1 = 19 := ⟨by decide +kernel, rfl⟩
theorem dX8_parentNodeOf_0 : decode cX8_parentNodeOf 0 = .ok (.aload_n 0, 1) ∧ 0 + 1 = 1 := ⟨by decide +kernel, rfl⟩
theorem dX8_parentNodeOf_1 : decode cX8_parentNodeOf 1 = .ok (.getfield 48, 3) ∧ 1 + 3 = 4 := ⟨by decide +kernel, rfl⟩
theorem dX8_parentNodeOf_4 : decode cX8_parentNodeOf 4 = .ok (.getfield 84, 3) ∧ 4 + 3 = 7 := ⟨by decide +kernel, rfl⟩
theorem dX8_parentNodeOf_7 : decode cX8_parentNodeOf 7 = .ok (.aload_n 0, 1) ∧ 7 + 1 = 8 := ⟨by decide +kernel, rfl⟩
theorem dX8_parentNodeOf_8 : decode cX8_parentNodeOf 8 = .ok (.getfield 48, 3) ∧ 8 + 3 = 11 := ⟨by decide +kernel, rfl⟩
theorem dX8_parentNodeOf_11 : decode cX8_parentNodeOf 11 = .ok (.getfield 84, 3) ∧ 11 + 3 = 14 := ⟨by decide +kernel, rfl⟩
theorem dX8_parentNodeOf_14 : decode cX8_parentNodeOf 14 = .ok (.iload_n 1, 1) ∧ 14 + 1 = 15 := ⟨by decide +kernel, rfl⟩
theorem dX8_parentNodeOf_15 : decode cX8_parentNodeOf 15 = .ok (.invokevirtual 263, 3) ∧ 15 + 3 = 18 := ⟨by decide +kernel, rfl⟩
theorem dX8_parentNodeOf_18 : decode cX8_parentNodeOf 18 = .ok (.invokevirtual 88, 3) ∧ 18 + 3 = 21 := ⟨by decide +kernel, rfl⟩
theorem dX8_parentNodeOf_21 : decode cX8_parentNodeOf 21 = .ok (.ireturn, 1) ∧ 21 + 1 = 22 := ⟨by decide +kernel, rfl⟩
theorem dX8_parentRow_0 : decode cX8_parentRow 0 = .ok (.aload_n 0, 1) ∧ 0 + 1 = 1 := ⟨by decide +kernel, rfl⟩
theorem dX8_parentRow_1 : decode cX8_parentRow 1 = .ok (.getfield 48, 3) ∧ 1 + 3 = 4 := ⟨by decide +kernel, rfl⟩
theorem dX8_parentRow_4 : decode cX8_parentRow 4 = .ok (.getfield 84, 3) ∧ 4 + 3 = 7 := ⟨by decide +kernel, rfl⟩
theorem dX8_parentRow_7 : decode cX8_parentRow 7 = .ok (.iload_n 1, 1) ∧ 7 + 1 = 8 := ⟨by decide +kernel, rfl⟩
theorem dX8_parentRow_8 : decode cX8_parentRow 8 = .ok (.invokevirtual 263, 3) ∧ 8 + 3 = 11 := ⟨by decide +kernel, rfl⟩
theorem dX8_parentRow_11 : decode cX8_parentRow 11 = .ok (.istore_n 2, 1) ∧ 11 + 1 = 12 := ⟨by decide +kernel, rfl⟩
theorem dX8_parentRow_12 : decode cX8_parentRow 12 = .ok (.iload_n 2, 1) ∧ 12 + 1 = 13 := ⟨by decide +kernel, rfl⟩
theorem dX8_parentRow_13 : decode cX8_parentRow 13 = .ok (.iconst (-1), 1) ∧ 13 + 1 = 14 := ⟨by decide +kernel, rfl⟩
theorem dX8_parentRow_14 : decode cX8_parentRow 14 = .ok (.if_icmp .ne 7, 3) ∧ 14 + 3 = 17 ∧ ((14 : Nat) : Int) + (7) = ((21 : Nat) : Int) := ⟨by decide +kernel, rfl, rfl⟩
theorem dX8_parentRow_17 : decode cX8_parentRow 17 = .ok (.iconst (-1), 1) ∧ 17 + 1 = 18 := ⟨by decide +kernel, rfl⟩
theorem dX8_parentRow_18 : decode cX8_parentRow 18 = .ok (.goto 11, 3) ∧ 18 + 3 = 21 ∧ ((18 : Nat) : Int) + (11) = ((29 : Nat) : Int) := ⟨by decide +kernel, rfl, rfl⟩
theorem dX8_parentRow_21 : decode cX8_parentRow 21 = .ok (.aload_n 0, 1) ∧ 21 + 1 = 22 := ⟨by decide +kernel, rfl⟩
theorem dX8_parentRow_22 : decode cX8_parentRow 22 = .ok (.getfield 26, 3) ∧ 22 + 3 = 25 := ⟨by decide +kernel, rfl⟩
theorem dX8_parentRow_25 : decode cX8_parentRow 25 = .ok (.iload_n 2, 1) ∧ 25 + 1 = 26 := ⟨by decide +kernel, rfl⟩
theorem dX8_parentRow_26 : decode cX8_parentRow 26 = .ok (.invokevirtual 182, 3) ∧ 26 + 3 = 29 := ⟨by decide +kernel, rfl⟩
theorem dX8_parentRow_29 : decode cX8_parentRow 29 = .ok (.ireturn, 1) ∧ 29 + 1 = 30 := ⟨by decide +kernel, rfl⟩
theorem dX8_positionAt_0 : decode cX8_positionAt 0 = .ok (.aload_n 0, 1) ∧ 0 + 1 = 1 := ⟨by decide +kernel, rfl⟩
theorem dX8_positionAt_1 : decode cX8_positionAt 1 = .ok (.getfield 48, 3) ∧ 1 + 3 = 4 := ⟨by decide +kernel, rfl⟩
theorem dX8_positionAt_4 : decode cX8_positionAt 4 = .ok (.getfield 103, 3) ∧ 4 + 3 = 7 := ⟨by decide +kernel, rfl⟩
theorem dX8_positionAt_7 : decode cX8_positionAt 7 = .ok (.aload_n 0, 1) ∧ 7 + 1 = 8 := ⟨by decide +kernel, rfl⟩
theorem dX8_positionAt_8 : decode cX8_positionAt 8 = .ok (.iload_n 1, 1) ∧ 8 + 1 = 9 := ⟨by decide +kernel, rfl⟩
theorem dX8_positionAt_9 : decode cX8_positionAt 9 = .ok (.invokevirtual 110, 3) ∧ 9 + 3 = 12 := ⟨by decide +kernel, rfl⟩
theorem dX8_positionAt_12 : decode cX8_positionAt 12 = .ok (.aload_n 0, 1) ∧ 12 + 1 = 13 := ⟨by decide +kernel, rfl⟩
theorem dX8_positionAt_13 : decode cX8_positionAt 13 = .ok (.getfield 48, 3) ∧ 13 + 3 = 16 := ⟨by decide +kernel, rfl⟩
theorem dX8_positionAt_16 : decode cX8_positionAt 16 = .ok (.getfield 84, 3) ∧ 16 + 3 = 19 := ⟨by decide +kernel, rfl⟩
theorem dX8_positionAt_19 : decode cX8_positionAt 19 = .ok (.iload_n 1, 1) ∧ 19 + 1 = 20 := ⟨by decide +kernel, rfl⟩
theorem dX8_positionAt_20 : decode cX8_positionAt 20 = .ok (.invokevirtual 88, 3) ∧ 20 + 3 = 23 := ⟨by decide +kernel, rfl⟩
theorem dX8_positionAt_23 : decode cX8_positionAt 23 = .ok (.invokevirtual 134, 3) ∧ 23 + 3 = 26 := ⟨by decide +kernel, rfl⟩
theorem dX8_positionAt_26 : decode cX8_positionAt 26 = .ok (.ireturn, 1) ∧ 26 + 1 = 27 := ⟨by decide +kernel, rfl⟩
theorem dX8_refusalOfParent_0 : decode cX8_refusalOfParent 0 = .ok (.aload_n 0, 1) ∧ 0 + 1 = 1 := ⟨by decide +kernel, rfl⟩
theorem dX8_refusalOfParent_1 : decode cX8_refusalOfParent 1 = .ok (.getfield 26, 3) ∧ 1 + 3 = 4 := ⟨by decide +kernel, rfl⟩
theorem dX8_refusalOfParent_4 : decode cX8_refusalOfParent 4 = .ok (.iload_n 1, 1) ∧ 4 + 1 = 5 := ⟨by decide +kernel, rfl⟩
theorem dX8_refusalOfParent_5 : decode cX8_refusalOfParent 5 = .ok (.invokevirtual 107, 3) ∧ 5 + 3 = 8 := ⟨by decide +kernel, rfl⟩
theorem dX8_refusalOfParent_8 : decode cX8_refusalOfParent 8 = .ok (.istore_n 3, 1) ∧ 8 + 1 = 9 := ⟨by decide +kernel, rfl⟩
theorem dX8_refusalOfParent_9 : decode cX8_refusalOfParent 9 = .ok (.aload_n 0, 1) ∧ 9 + 1 = 10 := ⟨by decide +kernel, rfl⟩
theorem dX8_refusalOfParent_10 : decode cX8_refusalOfParent 10 = .ok (.iload_n 2, 1) ∧ 10 + 1 = 11 := ⟨by decide +kernel, rfl⟩
theorem dX8_refusalOfParent_11 : decode cX8_refusalOfParent 11 = .ok (.invokevirtual 54, 3) ∧ 11 + 3 = 14 := ⟨by decide +kernel, rfl⟩
theorem dX8_refusalOfParent_14 : decode cX8_refusalOfParent 14 = .ok (.istore 4, 2) ∧ 14 + 2 = 16 := ⟨by decide +kernel, rfl⟩
theorem dX8_refusalOfParent_16 : decode cX8_refusalOfParent 16 = .ok (.iload_n 3, 1) ∧ 16 + 1 = 17 := ⟨by decide +kernel, rfl⟩
theorem dX8_refusalOfParent_17 : decode cX8_refusalOfParent 17 = .ok (.bipush (-2), 2) ∧ 17 + 2 = 19 := ⟨by decide +kernel, rfl⟩
theorem dX8_refusalOfParent_19 : decode cX8_refusalOfParent 19 = .ok (.if_icmp .eq 10, 3) ∧ 19 + 3 = 22 ∧ ((19 : Nat) : Int) + (10) = ((29 : Nat) : Int) := ⟨by decide +kernel, rfl, rfl⟩
theorem dX8_refusalOfParent_22 : decode cX8_refusalOfParent 22 = .ok (.iload 4, 2) ∧ 22 + 2 = 24 := ⟨by decide +kernel, rfl⟩
theorem dX8_refusalOfParent_24 : decode cX8_refusalOfParent 24 = .ok (.bipush (-2), 2) ∧ 24 + 2 = 26 := ⟨by decide +kernel, rfl⟩
theorem dX8_refusalOfParent_26 : decode cX8_refusalOfParent 26 = .ok (.if_icmp .ne 6, 3) ∧ 26 + 3 = 29 ∧ ((26 : Nat) : Int) + (6) = ((32 : Nat) : Int) := ⟨by decide +kernel, rfl, rfl⟩
theorem dX8_refusalOfParent_29 : decode cX8_refusalOfParent 29 = .ok (.bipush (-2), 2) ∧ 29 + 2 = 31 := ⟨by decide +kernel, rfl⟩
theorem dX8_refusalOfParent_31 : decode cX8_refusalOfParent 31 = .ok (.ireturn, 1) ∧ 31 + 1 = 32 := ⟨by decide +kernel, rfl⟩
theorem dX8_refusalOfParent_32 : decode cX8_refusalOfParent 32 = .ok (.aload_n 0, 1) ∧ 32 + 1 = 33 := ⟨by decide +kernel, rfl⟩
theorem dX8_refusalOfParent_33 : decode cX8_refusalOfParent 33 = .ok (.getfield 48, 3) ∧ 33 + 3 = 36 := ⟨by decide +kernel, rfl⟩
theorem dX8_refusalOfParent_36 : decode cX8_refusalOfParent 36 = .ok (.getfield 84, 3) ∧ 36 + 3 = 39 := ⟨by decide +kernel, rfl⟩
theorem dX8_refusalOfParent_39 : decode cX8_refusalOfParent 39 = .ok (.iload_n 3, 1) ∧ 39 + 1 = 40 := ⟨by decide +kernel, rfl⟩
theorem dX8_refusalOfParent_40 : decode cX8_refusalOfParent 40 = .ok (.invokevirtual 88, 3) ∧ 40 + 3 = 43 := ⟨by decide +kernel, rfl⟩
theorem dX8_refusalOfParent_43 : decode cX8_refusalOfParent 43 = .ok (.istore 5, 2) ∧ 43 + 2 = 45 := ⟨by decide +kernel, rfl⟩
theorem dX8_refusalOfParent_45 : decode cX8_refusalOfParent 45 = .ok (.aload_n 0, 1) ∧ 45 + 1 = 46 := ⟨by decide +kernel, rfl⟩
theorem dX8_refusalOfParent_46 : decode cX8_refusalOfParent 46 = .ok (.getfield 48, 3) ∧ 46 + 3 = 49 := ⟨by decide +kernel, rfl⟩
theorem dX8_refusalOfParent_49 : decode cX8_refusalOfParent 49 = .ok (.getfield 84, 3) ∧ 49 + 3 = 52 := ⟨by decide +kernel, rfl⟩
theorem dX8_refusalOfParent_52 : decode cX8_refusalOfParent 52 = .ok (.iload 4, 2) ∧ 52 + 2 = 54 := ⟨by decide +kernel, rfl⟩
theorem dX8_refusalOfParent_54 : decode cX8_refusalOfParent 54 = .ok (.invokevirtual 88, 3) ∧ 54 + 3 = 57 := ⟨by decide +kernel, rfl⟩
theorem dX8_refusalOfParent_57 : decode cX8_refusalOfParent 57 = .ok (.istore 6, 2) ∧ 57 + 2 = 59 := ⟨by decide +kernel, rfl⟩
theorem dX8_refusalOfParent_59 : decode cX8_refusalOfParent 59 = .ok (.iload 6, 2) ∧ 59 + 2 = 61 := ⟨by decide +kernel, rfl⟩
theorem dX8_refusalOfParent_61 : decode cX8_refusalOfParent 61 = .ok (.iload 5, 2) ∧ 61 + 2 = 63 := ⟨by decide +kernel, rfl⟩
theorem dX8_refusalOfParent_63 : decode cX8_refusalOfParent 63 = .ok (.if_icmp .eq 24, 3) ∧ 63 + 3 = 66 ∧ ((63 : Nat) : Int) + (24) = ((87 : Nat) : Int) := ⟨by decide +kernel, rfl, rfl⟩
theorem dX8_refusalOfParent_66 : decode cX8_refusalOfParent 66 = .ok (.aload_n 0, 1) ∧ 66 + 1 = 67 := ⟨by decide +kernel, rfl⟩
theorem dX8_refusalOfParent_67 : decode cX8_refusalOfParent 67 = .ok (.getfield 48, 3) ∧ 67 + 3 = 70 := ⟨by decide +kernel, rfl⟩
theorem dX8_refusalOfParent_70 : decode cX8_refusalOfParent 70 = .ok (.getfield 84, 3) ∧ 70 + 3 = 73 := ⟨by decide +kernel, rfl⟩
theorem dX8_refusalOfParent_73 : decode cX8_refusalOfParent 73 = .ok (.iload_n 3, 1) ∧ 73 + 1 = 74 := ⟨by decide +kernel, rfl⟩
theorem dX8_refusalOfParent_74 : decode cX8_refusalOfParent 74 = .ok (.invokevirtual 245, 3) ∧ 74 + 3 = 77 := ⟨by decide +kernel, rfl⟩
theorem dX8_refusalOfParent_77 : decode cX8_refusalOfParent 77 = .ok (.iload 6, 2) ∧ 77 + 2 = 79 := ⟨by decide +kernel, rfl⟩
theorem dX8_refusalOfParent_79 : decode cX8_refusalOfParent 79 = .ok (.lshr, 1) ∧ 79 + 1 = 80 := ⟨by decide +kernel, rfl⟩
theorem dX8_refusalOfParent_80 : decode cX8_refusalOfParent 80 = .ok (.lconst 1, 1) ∧ 80 + 1 = 81 := ⟨by decide +kernel, rfl⟩
theorem dX8_refusalOfParent_81 : decode cX8_refusalOfParent 81 = .ok (.land, 1) ∧ 81 + 1 = 82 := ⟨by decide +kernel, rfl⟩
theorem dX8_refusalOfParent_82 : decode cX8_refusalOfParent 82 = .ok (.lconst 1, 1) ∧ 82 + 1 = 83 := ⟨by decide +kernel, rfl⟩
theorem dX8_refusalOfParent_83 : decode cX8_refusalOfParent 83 = .ok (.lcmp, 1) ∧ 83 + 1 = 84 := ⟨by decide +kernel, rfl⟩
theorem dX8_refusalOfParent_84 : decode cX8_refusalOfParent 84 = .ok (.ifCond .ne 7, 3) ∧ 84 + 3 = 87 ∧ ((84 : Nat) : Int) + (7) = ((91 : Nat) : Int) := ⟨by decide +kernel, rfl, rfl⟩
theorem dX8_refusalOfParent_87 : decode cX8_refusalOfParent 87 = .ok (.iconst 1, 1) ∧ 87 + 1 = 88 := ⟨by decide +kernel, rfl⟩
theorem dX8_refusalOfParent_88 : decode cX8_refusalOfParent 88 = .ok (.goto 4, 3) ∧ 88 + 3 = 91 ∧ ((88 : Nat) : Int) + (4) = ((92 : Nat) : Int) := ⟨by decide +kernel, rfl, rfl⟩
theorem dX8_refusalOfParent_91 : decode cX8_refusalOfParent 91 = .ok (.iconst 0, 1) ∧ 91 + 1 = 92 := ⟨by decide +kernel, rfl⟩
theorem dX8_refusalOfParent_92 : decode cX8_refusalOfParent 92 = .ok (.istore 7, 2) ∧ 92 + 2 = 94 := ⟨by decide +kernel, rfl⟩
theorem dX8_refusalOfParent_94 : decode cX8_refusalOfParent 94 = .ok (.aload_n 0, 1) ∧ 94 + 1 = 95 := ⟨by decide +kernel, rfl⟩
theorem dX8_refusalOfParent_95 : decode cX8_refusalOfParent 95 = .ok (.getfield 48, 3) ∧ 95 + 3 = 98 := ⟨by decide +kernel, rfl⟩
theorem dX8_refusalOfParent_98 : decode cX8_refusalOfParent 98 = .ok (.getfield 103, 3) ∧ 98 + 3 = 101 := ⟨by decide +kernel, rfl⟩
theorem dX8_refusalOfParent_101 : decode cX8_refusalOfParent 101 = .ok (.iload 6, 2) ∧ 101 + 2 = 103 := ⟨by decide +kernel, rfl⟩
theorem dX8_refusalOfParent_103 : decode cX8_refusalOfParent 103 = .ok (.iload 5, 2) ∧ 103 + 2 = 105 := ⟨by decide +kernel, rfl⟩
theorem dX8_refusalOfParent_105 : decode cX8_refusalOfParent 105 = .ok (.invokevirtual 266, 3) ∧ 105 + 3 = 108 := ⟨by decide +kernel, rfl⟩
theorem dX8_refusalOfParent_108 : decode cX8_refusalOfParent 108 = .ok (.iconst (-1), 1) ∧ 108 + 1 = 109 := ⟨by decide +kernel, rfl⟩
theorem dX8_refusalOfParent_109 : decode cX8_refusalOfParent 109 = .ok (.if_icmp .eq 7, 3) ∧ 109 + 3 = 112 ∧ ((109 : Nat) : Int) + (7) = ((116 : Nat) : Int) := ⟨by decide +kernel, rfl, rfl⟩
theorem dX8_refusalOfParent_112 : decode cX8_refusalOfParent 112 = .ok (.iconst 1, 1) ∧ 112 + 1 = 113 := ⟨by decide +kernel, rfl⟩
theorem dX8_refusalOfParent_113 : decode cX8_refusalOfParent 113 = .ok (.goto 4, 3) ∧ 113 + 3 = 116 ∧ ((113 : Nat) : Int) + (4) = ((117 : Nat) : Int) := ⟨by decide +kernel, rfl, rfl⟩
theorem dX8_refusalOfParent_116 : decode cX8_refusalOfParent 116 = .ok (.iconst 0, 1) ∧ 116 + 1 = 117 := ⟨by decide +kernel, rfl⟩
theorem dX8_refusalOfParent_117 : decode cX8_refusalOfParent 117 = .ok (.istore 8, 2) ∧ 117 + 2 = 119 := ⟨by decide +kernel, rfl⟩
theorem dX8_refusalOfParent_119 : decode cX8_refusalOfParent 119 = .ok (.iload 7, 2) ∧ 119 + 2 = 121 := ⟨by decide +kernel, rfl⟩
theorem dX8_refusalOfParent_121 : decode cX8_refusalOfParent 121 = .ok (.ifCond .ne 8, 3) ∧ 121 + 3 = 124 ∧ ((121 : Nat) : Int) + (8) = ((129 : Nat) : Int) := ⟨by decide +kernel, rfl, rfl⟩
theorem dX8_refusalOfParent_124 : decode cX8_refusalOfParent 124 = .ok (.iload 8, 2) ∧ 124 + 2 = 126 := ⟨by decide +kernel, rfl⟩
theorem dX8_refusalOfParent_126 : decode cX8_refusalOfParent 126 = .ok (.ifCond .eq 8, 3) ∧ 126 + 3 = 129 ∧ ((126 : Nat) : Int) + (8) = ((134 : Nat) : Int) := ⟨by decide +kernel, rfl, rfl⟩
theorem dX8_refusalOfParent_129 : decode cX8_refusalOfParent 129 = .ok (.bipush (-5), 2) ∧ 129 + 2 = 131 := ⟨by decide +kernel, rfl⟩
theorem dX8_refusalOfParent_131 : decode cX8_refusalOfParent 131 = .ok (.goto 4, 3) ∧ 131 + 3 = 134 ∧ ((131 : Nat) : Int) + (4) = ((135 : Nat) : Int) := ⟨by decide +kernel, rfl, rfl⟩
theorem dX8_refusalOfParent_134 : decode cX8_refusalOfParent 134 = .ok (.iconst 0, 1) ∧ 134 + 1 = 135 := ⟨by decide +kernel, rfl⟩
theorem dX8_refusalOfParent_135 : decode cX8_refusalOfParent 135 = .ok (.ireturn, 1) ∧ 135 + 1 = 136 := ⟨by decide +kernel, rfl⟩
theorem dX8_attach_0 : decode cX8_attach 0 = .ok (.aload_n 0, 1) ∧ 0 + 1 = 1 := ⟨by decide +kernel, rfl⟩
theorem dX8_attach_1 : decode cX8_attach 1 = .ok (.getfield 51, 3) ∧ 1 + 3 = 4 := ⟨by decide +kernel, rfl⟩
theorem dX8_attach_4 : decode cX8_attach 4 = .ok (.getfield 103, 3) ∧ 4 + 3 = 7 := ⟨by decide +kernel, rfl⟩
theorem dX8_attach_7 : decode cX8_attach 7 = .ok (.iload_n 2, 1) ∧ 7 + 1 = 8 := ⟨by decide +kernel, rfl⟩
theorem dX8_attach_8 : decode cX8_attach 8 = .ok (.iload_n 1, 1) ∧ 8 + 1 = 9 := ⟨by decide +kernel, rfl⟩
theorem dX8_attach_9 : decode cX8_attach 9 = .ok (.invokevirtual 269, 3) ∧ 9 + 3 = 12 := ⟨by decide +kernel, rfl⟩
theorem dX8_attach_12 : decode cX8_attach 12 = .ok (.ifCond .eq 20, 3) ∧ 12 + 3 = 15 ∧ ((12 : Nat) : Int) + (20) = ((32 : Nat) : Int) := ⟨by decide +kernel, rfl, rfl⟩
theorem dX8_attach_15 : decode cX8_attach 15 = .ok (.aload_n 0, 1) ∧ 15 + 1 = 16 := ⟨by decide +kernel, rfl⟩
theorem dX8_attach_16 : decode cX8_attach 16 = .ok (.getfield 51, 3) ∧ 16 + 3 = 19 := ⟨by decide +kernel, rfl⟩
theorem dX8_attach_19 : decode cX8_attach 19 = .ok (.aload_n 0, 1) ∧ 19 + 1 = 20 := ⟨by decide +kernel, rfl⟩
theorem dX8_attach_20 : decode cX8_attach 20 = .ok (.getfield 48, 3) ∧ 20 + 3 = 23 := ⟨by decide +kernel, rfl⟩
theorem dX8_attach_23 : decode cX8_attach 23 = .ok (.getfield 84, 3) ∧ 23 + 3 = 26 := ⟨by decide +kernel, rfl⟩
theorem dX8_attach_26 : decode cX8_attach 26 = .ok (.invokevirtual 119, 3) ∧ 26 + 3 = 29 := ⟨by decide +kernel, rfl⟩
theorem dX8_attach_29 : decode cX8_attach 29 = .ok (.ifCond .ne 6, 3) ∧ 29 + 3 = 32 ∧ ((29 : Nat) : Int) + (6) = ((35 : Nat) : Int) := ⟨by decide +kernel, rfl, rfl⟩
theorem dX8_attach_32 : decode cX8_attach 32 = .ok (.bipush (-4), 2) ∧ 32 + 2 = 34 := ⟨by decide +kernel, rfl⟩
theorem dX8_attach_34 : decode cX8_attach 34 = .ok (.ireturn, 1) ∧ 34 + 1 = 35 := ⟨by decide +kernel, rfl⟩
theorem dX8_attach_35 : decode cX8_attach 35 = .ok (.aload_n 0, 1) ∧ 35 + 1 = 36 := ⟨by decide +kernel, rfl⟩
theorem dX8_attach_36 : decode cX8_attach 36 = .ok (.invokevirtual 131, 3) ∧ 36 + 3 = 39 := ⟨by decide +kernel, rfl⟩
theorem dX8_attach_39 : decode cX8_attach 39 = .ok (.aload_n 0, 1) ∧ 39 + 1 = 40 := ⟨by decide +kernel, rfl⟩
theorem dX8_attach_40 : decode cX8_attach 40 = .ok (.getfield 48, 3) ∧ 40 + 3 = 43 := ⟨by decide +kernel, rfl⟩
theorem dX8_attach_43 : decode cX8_attach 43 = .ok (.getfield 84, 3) ∧ 43 + 3 = 46 := ⟨by decide +kernel, rfl⟩
theorem dX8_attach_46 : decode cX8_attach 46 = .ok (.iload_n 1, 1) ∧ 46 + 1 = 47 := ⟨by decide +kernel, rfl⟩
theorem dX8_attach_47 : decode cX8_attach 47 = .ok (.invokevirtual 148, 3) ∧ 47 + 3 = 50 := ⟨by decide +kernel, rfl⟩
theorem dX8_attach_50 : decode cX8_attach 50 = .ok (.ireturn, 1) ∧ 50 + 1 = 51 := ⟨by decide +kernel, rfl⟩
theorem dX8_accept_0 : decode cX8_accept 0 = .ok (.aload_n 0, 1) ∧ 0 + 1 = 1 := ⟨by decide +kernel, rfl⟩
theorem dX8_accept_1 : decode cX8_accept 1 = .ok (.getfield 33, 3) ∧ 1 + 3 = 4 := ⟨by decide +kernel, rfl⟩
theorem dX8_accept_4 : decode cX8_accept 4 = .ok (.aload_n 0, 1) ∧ 4 + 1 = 5 := ⟨by decide +kernel, rfl⟩
theorem dX8_accept_5 : decode cX8_accept 5 = .ok (.getfield 48, 3) ∧ 5 + 3 = 8 := ⟨by decide +kernel, rfl⟩
theorem dX8_accept_8 : decode cX8_accept 8 = .ok (.invokevirtual 272, 3) ∧ 8 + 3 = 11 := ⟨by decide +kernel, rfl⟩
theorem dX8_accept_11 : decode cX8_accept 11 = .ok (.aload_n 0, 1) ∧ 11 + 1 = 12 := ⟨by decide +kernel, rfl⟩
theorem dX8_accept_12 : decode cX8_accept 12 = .ok (.getfield 48, 3) ∧ 12 + 3 = 15 := ⟨by decide +kernel, rfl⟩
theorem dX8_accept_15 : decode cX8_accept 15 = .ok (.astore_n 1, 1) ∧ 15 + 1 = 16 := ⟨by decide +kernel, rfl⟩
theorem dX8_accept_16 : decode cX8_accept 16 = .ok (.aload_n 0, 1) ∧ 16 + 1 = 17 := ⟨by decide +kernel, rfl⟩
theorem dX8_accept_17 : decode cX8_accept 17 = .ok (.aload_n 0, 1) ∧ 17 + 1 = 18 := ⟨by decide +kernel, rfl⟩
theorem dX8_accept_18 : decode cX8_accept 18 = .ok (.getfield 51, 3) ∧ 18 + 3 = 21 := ⟨by decide +kernel, rfl⟩
theorem dX8_accept_21 : decode cX8_accept 21 = .ok (.putfield 48, 3) ∧ 21 + 3 = 24 := ⟨by decide +kernel, rfl⟩
theorem dX8_accept_24 : decode cX8_accept 24 = .ok (.aload_n 0, 1) ∧ 24 + 1 = 25 := ⟨by decide +kernel, rfl⟩
theorem dX8_accept_25 : decode cX8_accept 25 = .ok (.aload_n 1, 1) ∧ 25 + 1 = 26 := ⟨by decide +kernel, rfl⟩
theorem dX8_accept_26 : decode cX8_accept 26 = .ok (.putfield 51, 3) ∧ 26 + 3 = 29 := ⟨by decide +kernel, rfl⟩
theorem dX8_accept_29 : decode cX8_accept 29 = .ok (.aload_n 0, 1) ∧ 29 + 1 = 30 := ⟨by decide +kernel, rfl⟩
theorem dX8_accept_30 : decode cX8_accept 30 = .ok (.getfield 26, 3) ∧ 30 + 3 = 33 := ⟨by decide +kernel, rfl⟩
theorem dX8_accept_33 : decode cX8_accept 33 = .ok (.aload_n 0, 1) ∧ 33 + 1 = 34 := ⟨by decide +kernel, rfl⟩
theorem dX8_accept_34 : decode cX8_accept 34 = .ok (.getfield 48, 3) ∧ 34 + 3 = 37 := ⟨by decide +kernel, rfl⟩
theorem dX8_accept_37 : decode cX8_accept 37 = .ok (.getfield 84, 3) ∧ 37 + 3 = 40 := ⟨by decide +kernel, rfl⟩
theorem dX8_accept_40 : decode cX8_accept 40 = .ok (.invokevirtual 207, 3) ∧ 40 + 3 = 43 := ⟨by decide +kernel, rfl⟩
theorem dX8_accept_43 : decode cX8_accept 43 = .ok (.return_, 1) ∧ 43 + 1 = 44 := ⟨by decide +kernel, rfl⟩
theorem dJ13_bitCount_95d88_0 : decode cJ13_bitCount_95d88 0 = .ok (.lload_n 0, 1) ∧ 0 + 1 = 1 := ⟨by decide +kernel, rfl⟩
theorem dJ13_bitCount_95d88_1 : decode cJ13_bitCount_95d88 1 = .ok (.lload_n 0, 1) ∧ 1 + 1 = 2 := ⟨by decide +kernel, rfl⟩
theorem dJ13_bitCount_95d88_2 : decode cJ13_bitCount_95d88 2 = .ok (.iconst 1, 1) ∧ 2 + 1 = 3 := ⟨by decide +kernel, rfl⟩
theorem dJ13_bitCount_95d88_3 : decode cJ13_bitCount_95d88 3 = .ok (.lushr, 1) ∧ 3 + 1 = 4 := ⟨by decide +kernel, rfl⟩
theorem dJ13_bitCount_95d88_4 : decode cJ13_bitCount_95d88 4 = .ok (.ldc2_w 314, 3) ∧ 4 + 3 = 7 := ⟨by decide +kernel, rfl⟩
theorem dJ13_bitCount_95d88_7 : decode cJ13_bitCount_95d88 7 = .ok (.land, 1) ∧ 7 + 1 = 8 := ⟨by decide +kernel, rfl⟩
theorem dJ13_bitCount_95d88_8 : decode cJ13_bitCount_95d88 8 = .ok (.lsub, 1) ∧ 8 + 1 = 9 := ⟨by decide +kernel, rfl⟩
theorem dJ13_bitCount_95d88_9 : decode cJ13_bitCount_95d88 9 = .ok (.lstore_n 0, 1) ∧ 9 + 1 = 10 := ⟨by decide +kernel, rfl⟩
theorem dJ13_bitCount_95d88_10 : decode cJ13_bitCount_95d88 10 = .ok (.lload_n 0, 1) ∧ 10 + 1 = 11 := ⟨by decide +kernel, rfl⟩
theorem dJ13_bitCount_95d88_11 : decode cJ13_bitCount_95d88 11 = .ok (.ldc2_w 316, 3) ∧ 11 + 3 = 14 := ⟨by decide +kernel, rfl⟩
theorem dJ13_bitCount_95d88_14 : decode cJ13_bitCount_95d88 14 = .ok (.land, 1) ∧ 14 + 1 = 15 := ⟨by decide +kernel, rfl⟩
theorem dJ13_bitCount_95d88_15 : decode cJ13_bitCount_95d88 15 = .ok (.lload_n 0, 1) ∧ 15 + 1 = 16 := ⟨by decide +kernel, rfl⟩
theorem dJ13_bitCount_95d88_16 : decode cJ13_bitCount_95d88 16 = .ok (.iconst 2, 1) ∧ 16 + 1 = 17 := ⟨by decide +kernel, rfl⟩
theorem dJ13_bitCount_95d88_17 : decode cJ13_bitCount_95d88 17 = .ok (.lushr, 1) ∧ 17 + 1 = 18 := ⟨by decide +kernel, rfl⟩
theorem dJ13_bitCount_95d88_18 : decode cJ13_bitCount_95d88 18 = .ok (.ldc2_w 316, 3) ∧ 18 + 3 = 21 := ⟨by decide +kernel, rfl⟩
theorem dJ13_bitCount_95d88_21 : decode cJ13_bitCount_95d88 21 = .ok (.land, 1) ∧ 21 + 1 = 22 := ⟨by decide +kernel, rfl⟩
theorem dJ13_bitCount_95d88_22 : decode cJ13_bitCount_95d88 22 = .ok (.ladd, 1) ∧ 22 + 1 = 23 := ⟨by decide +kernel, rfl⟩
theorem dJ13_bitCount_95d88_23 : decode cJ13_bitCount_95d88 23 = .ok (.lstore_n 0, 1) ∧ 23 + 1 = 24 := ⟨by decide +kernel, rfl⟩
theorem dJ13_bitCount_95d88_24 : decode cJ13_bitCount_95d88 24 = .ok (.lload_n 0, 1) ∧ 24 + 1 = 25 := ⟨by decide +kernel, rfl⟩
theorem dJ13_bitCount_95d88_25 : decode cJ13_bitCount_95d88 25 = .ok (.lload_n 0, 1) ∧ 25 + 1 = 26 := ⟨by decide +kernel, rfl⟩
theorem dJ13_bitCount_95d88_26 : decode cJ13_bitCount_95d88 26 = .ok (.iconst 4, 1) ∧ 26 + 1 = 27 := ⟨by decide +kernel, rfl⟩
theorem dJ13_bitCount_95d88_27 : decode cJ13_bitCount_95d88 27 = .ok (.lushr, 1) ∧ 27 + 1 = 28 := ⟨by decide +kernel, rfl⟩
theorem dJ13_bitCount_95d88_28 : decode cJ13_bitCount_95d88 28 = .ok (.ladd, 1) ∧ 28 + 1 = 29 := ⟨by decide +kernel, rfl⟩
theorem dJ13_bitCount_95d88_29 : decode cJ13_bitCount_95d88 29 = .ok (.ldc2_w 318, 3) ∧ 29 + 3 = 32 := ⟨by decide +kernel, rfl⟩
theorem dJ13_bitCount_95d88_32 : decode cJ13_bitCount_95d88 32 = .ok (.land, 1) ∧ 32 + 1 = 33 := ⟨by decide +kernel, rfl⟩
theorem dJ13_bitCount_95d88_33 : decode cJ13_bitCount_95d88 33 = .ok (.lstore_n 0, 1) ∧ 33 + 1 = 34 := ⟨by decide +kernel, rfl⟩
theorem dJ13_bitCount_95d88_34 : decode cJ13_bitCount_95d88 34 = .ok (.lload_n 0, 1) ∧ 34 + 1 = 35 := ⟨by decide +kernel, rfl⟩
theorem dJ13_bitCount_95d88_35 : decode cJ13_bitCount_95d88 35 = .ok (.lload_n 0, 1) ∧ 35 + 1 = 36 := ⟨by decide +kernel, rfl⟩
theorem dJ13_bitCount_95d88_36 : decode cJ13_bitCount_95d88 36 = .ok (.bipush 8, 2) ∧ 36 + 2 = 38 := ⟨by decide +kernel, rfl⟩
theorem dJ13_bitCount_95d88_38 : decode cJ13_bitCount_95d88 38 = .ok (.lushr, 1) ∧ 38 + 1 = 39 := ⟨by decide +kernel, rfl⟩
theorem dJ13_bitCount_95d88_39 : decode cJ13_bitCount_95d88 39 = .ok (.ladd, 1) ∧ 39 + 1 = 40 := ⟨by decide +kernel, rfl⟩
theorem dJ13_bitCount_95d88_40 : decode cJ13_bitCount_95d88 40 = .ok (.lstore_n 0, 1) ∧ 40 + 1 = 41 := ⟨by decide +kernel, rfl⟩
theorem dJ13_bitCount_95d88_41 : decode cJ13_bitCount_95d88 41 = .ok (.lload_n 0, 1) ∧ 41 + 1 = 42 := ⟨by decide +kernel, rfl⟩
theorem dJ13_bitCount_95d88_42 : decode cJ13_bitCount_95d88 42 = .ok (.lload_n 0, 1) ∧ 42 + 1 = 43 := ⟨by decide +kernel, rfl⟩
theorem dJ13_bitCount_95d88_43 : decode cJ13_bitCount_95d88 43 = .ok (.bipush 16, 2) ∧ 43 + 2 = 45 := ⟨by decide +kernel, rfl⟩
theorem dJ13_bitCount_95d88_45 : decode cJ13_bitCount_95d88 45 = .ok (.lushr, 1) ∧ 45 + 1 = 46 := ⟨by decide +kernel, rfl⟩
theorem dJ13_bitCount_95d88_46 : decode cJ13_bitCount_95d88 46 = .ok (.ladd, 1) ∧ 46 + 1 = 47 := ⟨by decide +kernel, rfl⟩
theorem dJ13_bitCount_95d88_47 : decode cJ13_bitCount_95d88 47 = .ok (.lstore_n 0, 1) ∧ 47 + 1 = 48 := ⟨by decide +kernel, rfl⟩
theorem dJ13_bitCount_95d88_48 : decode cJ13_bitCount_95d88 48 = .ok (.lload_n 0, 1) ∧ 48 + 1 = 49 := ⟨by decide +kernel, rfl⟩
theorem dJ13_bitCount_95d88_49 : decode cJ13_bitCount_95d88 49 = .ok (.lload_n 0, 1) ∧ 49 + 1 = 50 := ⟨by decide +kernel, rfl⟩
theorem dJ13_bitCount_95d88_50 : decode cJ13_bitCount_95d88 50 = .ok (.bipush 32, 2) ∧ 50 + 2 = 52 := ⟨by decide +kernel, rfl⟩
theorem dJ13_bitCount_95d88_52 : decode cJ13_bitCount_95d88 52 = .ok (.lushr, 1) ∧ 52 + 1 = 53 := ⟨by decide +kernel, rfl⟩
theorem dJ13_bitCount_95d88_53 : decode cJ13_bitCount_95d88 53 = .ok (.ladd, 1) ∧ 53 + 1 = 54 := ⟨by decide +kernel, rfl⟩
theorem dJ13_bitCount_95d88_54 : decode cJ13_bitCount_95d88 54 = .ok (.lstore_n 0, 1) ∧ 54 + 1 = 55 := ⟨by decide +kernel, rfl⟩
theorem dJ13_bitCount_95d88_55 : decode cJ13_bitCount_95d88 55 = .ok (.lload_n 0, 1) ∧ 55 + 1 = 56 := ⟨by decide +kernel, rfl⟩
theorem dJ13_bitCount_95d88_56 : decode cJ13_bitCount_95d88 56 = .ok (.l2i, 1) ∧ 56 + 1 = 57 := ⟨by decide +kernel, rfl⟩
theorem dJ13_bitCount_95d88_57 : decode cJ13_bitCount_95d88 57 = .ok (.bipush 127, 2) ∧ 57 + 2 = 59 := ⟨by decide +kernel, rfl⟩
theorem dJ13_bitCount_95d88_59 : decode cJ13_bitCount_95d88 59 = .ok (.iand, 1) ∧ 59 + 1 = 60 := ⟨by decide +kernel, rfl⟩
theorem dJ13_bitCount_95d88_60 : decode cJ13_bitCount_95d88 60 = .ok (.ireturn, 1) ∧ 60 + 1 = 61 := ⟨by decide +kernel, rfl⟩
theorem dJ9_floorMod_7cf53_0 : decode cJ9_floorMod_7cf53 0 = .ok (.iload_n 0, 1) ∧ 0 + 1 = 1 := ⟨by decide +kernel, rfl⟩
theorem dJ9_floorMod_7cf53_1 : decode cJ9_floorMod_7cf53 1 = .ok (.iload_n 1, 1) ∧ 1 + 1 = 2 := ⟨by decide +kernel, rfl⟩
theorem dJ9_floorMod_7cf53_2 : decode cJ9_floorMod_7cf53 2 = .ok (.irem, 1) ∧ 2 + 1 = 3 := ⟨by decide +kernel, rfl⟩
theorem dJ9_floorMod_7cf53_3 : decode cJ9_floorMod_7cf53 3 = .ok (.istore_n 2, 1) ∧ 3 + 1 = 4 := ⟨by decide +kernel, rfl⟩
theorem dJ9_floorMod_7cf53_4 : decode cJ9_floorMod_7cf53 4 = .ok (.iload_n 0, 1) ∧ 4 + 1 = 5 := ⟨by decide +kernel, rfl⟩
theorem dJ9_floorMod_7cf53_5 : decode cJ9_floorMod_7cf53 5 = .ok (.iload_n 1, 1) ∧ 5 + 1 = 6 := ⟨by decide +kernel, rfl⟩
theorem dJ9_floorMod_7cf53_6 : decode cJ9_floorMod_7cf53 6 = .ok (.ixor, 1) ∧ 6 + 1 = 7 := ⟨by decide +kernel, rfl⟩
theorem dJ9_floorMod_7cf53_7 : decode cJ9_floorMod_7cf53 7 = .ok (.ifCond .ge 11, 3) ∧ 7 + 3 = 10 ∧ ((7 : Nat) : Int) + (11) = ((18 : Nat) : Int) := ⟨by decide +kernel, rfl, rfl⟩
theorem dJ9_floorMod_7cf53_10 : decode cJ9_floorMod_7cf53 10 = .ok (.iload_n 2, 1) ∧ 10 + 1 = 11 := ⟨by decide +kernel, rfl⟩
theorem dJ9_floorMod_7cf53_11 : decode cJ9_floorMod_7cf53 11 = .ok (.ifCond .eq 7, 3) ∧ 11 + 3 = 14 ∧ ((11 : Nat) : Int) + (7) = ((18 : Nat) : Int) := ⟨by decide +kernel, rfl, rfl⟩
theorem dJ9_floorMod_7cf53_14 : decode cJ9_floorMod_7cf53 14 = .ok (.iload_n 2, 1) ∧ 14 + 1 = 15 := ⟨by decide +kernel, rfl⟩
theorem dJ9_floorMod_7cf53_15 : decode cJ9_floorMod_7cf53 15 = .ok (.iload_n 1, 1) ∧ 15 + 1 = 16 := ⟨by decide +kernel, rfl⟩
theorem dJ9_floorMod_7cf53_16 : decode cJ9_floorMod_7cf53 16 = .ok (.iadd, 1) ∧ 16 + 1 = 17 := ⟨by decide +kernel, rfl⟩
theorem dJ9_floorMod_7cf53_17 : decode cJ9_floorMod_7cf53 17 = .ok (.ireturn, 1) ∧ 17 + 1 = 18 := ⟨by decide +kernel, rfl⟩
theorem dJ9_floorMod_7cf53_18 : decode cJ9_floorMod_7cf53 18 = .ok (.iload_n 2, 1) ∧ 18 + 1 = 19 := ⟨by decide +kernel, rfl⟩
theorem dJ9_floorMod_7cf53_19 : decode cJ9_floorMod_7cf53 19 = .ok (.ireturn, 1) ∧ 19 + 1 = 20 := ⟨by decide +kernel, rfl⟩
theorem dJ9_abs_0f7a4_0 : decode cJ9_abs_0f7a4 0 = .ok (.iload_n 0, 1) ∧ 0 + 1 = 1 := ⟨by decide +kernel, rfl⟩
theorem dJ9_abs_0f7a4_1 : decode cJ9_abs_0f7a4 1 = .ok (.ifCond .ge 8, 3) ∧ 1 + 3 = 4 ∧ ((1 : Nat) : Int) + (8) = ((9 : Nat) : Int) := ⟨by decide +kernel, rfl, rfl⟩
theorem dJ9_abs_0f7a4_4 : decode cJ9_abs_0f7a4 4 = .ok (.iload_n 0, 1) ∧ 4 + 1 = 5 := ⟨by decide +kernel, rfl⟩
theorem dJ9_abs_0f7a4_5 : decode cJ9_abs_0f7a4 5 = .ok (.ineg, 1) ∧ 5 + 1 = 6 := ⟨by decide +kernel, rfl⟩
theorem dJ9_abs_0f7a4_6 : decode cJ9_abs_0f7a4 6 = .ok (.goto 4, 3) ∧ 6 + 3 = 9 ∧ ((6 : Nat) : Int) + (4) = ((10 : Nat) : Int) := ⟨by decide +kernel, rfl, rfl⟩
theorem dJ9_abs_0f7a4_9 : decode cJ9_abs_0f7a4 9 = .ok (.iload_n 0, 1) ∧ 9 + 1 = 10 := ⟨by decide +kernel, rfl⟩
theorem dJ9_abs_0f7a4_10 : decode cJ9_abs_0f7a4 10 = .ok (.ireturn, 1) ∧ 10 + 1 = 11 := ⟨by decide +kernel, rfl⟩
theorem dJ9_max_7cf53_0 : decode cJ9_max_7cf53 0 = .ok (.iload_n 0, 1) ∧ 0 + 1 = 1 := ⟨by decide +kernel, rfl⟩
theorem dJ9_max_7cf53_1 : decode cJ9_max_7cf53 1 = .ok (.iload_n 1, 1) ∧ 1 + 1 = 2 := ⟨by decide +kernel, rfl⟩
theorem dJ9_max_7cf53_2 : decode cJ9_max_7cf53 2 = .ok (.if_icmp .lt 7, 3) ∧ 2 + 3 = 5 ∧ ((2 : Nat) : Int) + (7) = ((9 : Nat) : Int) := ⟨by decide +kernel, rfl, rfl⟩
theorem dJ9_max_7cf53_5 : decode cJ9_max_7cf53 5 = .ok (.iload_n 0, 1) ∧ 5 + 1 = 6 := ⟨by decide +kernel, rfl⟩
theorem dJ9_max_7cf53_6 : decode cJ9_max_7cf53 6 = .ok (.goto 4, 3) ∧ 6 + 3 = 9 ∧ ((6 : Nat) : Int) + (4) = ((10 : Nat) : Int) := ⟨by decide +kernel, rfl, rfl⟩
theorem dJ9_max_7cf53_9 : decode cJ9_max_7cf53 9 = .ok (.iload_n 1, 1) ∧ 9 + 1 = 10 := ⟨by decide +kernel, rfl⟩
theorem dJ9_max_7cf53_10 : decode cJ9_max_7cf53 10 = .ok (.ireturn, 1) ∧ 10 + 1 = 11 := ⟨by decide +kernel, rfl⟩
theorem dJ9_min_7cf53_0 : decode cJ9_min_7cf53 0 = .ok (.iload_n 0, 1) ∧ 0 + 1 = 1 := ⟨by decide +kernel, rfl⟩
theorem dJ9_min_7cf53_1 : decode cJ9_min_7cf53 1 = .ok (.iload_n 1, 1) ∧ 1 + 1 = 2 := ⟨by decide +kernel, rfl⟩
theorem dJ9_min_7cf53_2 : decode cJ9_min_7cf53 2 = .ok (.if_icmp .gt 7, 3) ∧ 2 + 3 = 5 ∧ ((2 : Nat) : Int) + (7) = ((9 : Nat) : Int) := ⟨by decide +kernel, rfl, rfl⟩
theorem dJ9_min_7cf53_5 : decode cJ9_min_7cf53 5 = .ok (.iload_n 0, 1) ∧ 5 + 1 = 6 := ⟨by decide +kernel, rfl⟩
theorem dJ9_min_7cf53_6 : decode cJ9_min_7cf53 6 = .ok (.goto 4, 3) ∧ 6 + 3 = 9 ∧ ((6 : Nat) : Int) + (4) = ((10 : Nat) : Int) := ⟨by decide +kernel, rfl, rfl⟩
theorem dJ9_min_7cf53_9 : decode cJ9_min_7cf53 9 = .ok (.iload_n 1, 1) ∧ 9 + 1 = 10 := ⟨by decide +kernel, rfl⟩
theorem dJ9_min_7cf53_10 : decode cJ9_min_7cf53 10 = .ok (.ireturn, 1) ∧ 10 + 1 = 11 := ⟨by decide +kernel, rfl⟩
theorem dL_cell_0 : decode cL_cell 0 = .ok (.iload_n 1, 1) ∧ 0 + 1 = 1 := ⟨by decide +kernel, rfl⟩
theorem dL_cell_1 : decode cL_cell 1 = .ok (.aload_n 0, 1) ∧ 1 + 1 = 2 := ⟨by decide +kernel, rfl⟩
theorem dL_cell_2 : decode cL_cell 2 = .ok (.arraylength, 1) ∧ 2 + 1 = 3 := ⟨by decide +kernel, rfl⟩
theorem dL_cell_3 : decode cL_cell 3 = .ok (.if_icmp .ge 9, 3) ∧ 3 + 3 = 6 ∧ ((3 : Nat) : Int) + (9) = ((12 : Nat) : Int) := ⟨by decide +kernel, rfl, rfl⟩
theorem dL_cell_6 : decode cL_cell 6 = .ok (.aload_n 0, 1) ∧ 6 + 1 = 7 := ⟨by decide +kernel, rfl⟩
theorem dL_cell_7 : decode cL_cell 7 = .ok (.iload_n 1, 1) ∧ 7 + 1 = 8 := ⟨by decide +kernel, rfl⟩
theorem dL_cell_8 : decode cL_cell 8 = .ok (.iaload, 1) ∧ 8 + 1 = 9 := ⟨by decide +kernel, rfl⟩
theorem dL_cell_9 : decode cL_cell 9 = .ok (.goto 11, 3) ∧ 9 + 3 = 12 ∧ ((9 : Nat) : Int) + (11) = ((20 : Nat) : Int) := ⟨by decide +kernel, rfl, rfl⟩
theorem dL_cell_12 : decode cL_cell 12 = .ok (.ldc 7, 2) ∧ 12 + 2 = 14 := ⟨by decide +kernel, rfl⟩
theorem dL_cell_14 : decode cL_cell 14 = .ok (.iload_n 1, 1) ∧ 14 + 1 = 15 := ⟨by decide +kernel, rfl⟩
theorem dL_cell_15 : decode cL_cell 15 = .ok (.imul, 1) ∧ 15 + 1 = 16 := ⟨by decide +kernel, rfl⟩
theorem dL_cell_16 : decode cL_cell 16 = .ok (.sipush 1307, 3) ∧ 16 + 3 = 19 := ⟨by decide +kernel, rfl⟩
theorem dL_cell_19 : decode cL_cell 19 = .ok (.iadd, 1) ∧ 19 + 1 = 20 := ⟨by decide +kernel, rfl⟩
theorem dL_cell_20 : decode cL_cell 20 = .ok (.ireturn, 1) ∧ 20 + 1 = 21 := ⟨by decide +kernel, rfl⟩
theorem dL_low_0 : decode cL_low 0 = .ok (.iload_n 0, 1) ∧ 0 + 1 = 1 := ⟨by decide +kernel, rfl⟩
theorem dL_low_1 : decode cL_low 1 = .ok (.ldc 8, 2) ∧ 1 + 2 = 3 := ⟨by decide +kernel, rfl⟩
theorem dL_low_3 : decode cL_low 3 = .ok (.iand, 1) ∧ 3 + 1 = 4 := ⟨by decide +kernel, rfl⟩
theorem dL_low_4 : decode cL_low 4 = .ok (.iload_n 1, 1) ∧ 4 + 1 = 5 := ⟨by decide +kernel, rfl⟩
theorem dL_low_5 : decode cL_low 5 = .ok (.irem, 1) ∧ 5 + 1 = 6 := ⟨by decide +kernel, rfl⟩
theorem dL_low_6 : decode cL_low 6 = .ok (.ireturn, 1) ∧ 6 + 1 = 7 := ⟨by decide +kernel, rfl⟩
theorem dL_digest_0 : decode cL_digest 0 = .ok (.ldc2_w 9, 3) ∧ 0 + 3 = 3 := ⟨by decide +kernel, rfl⟩
theorem dL_digest_3 : decode cL_digest 3 = .ok (.lstore_n 1, 1) ∧ 3 + 1 = 4 := ⟨by decide +kernel, rfl⟩
theorem dL_digest_4 : decode cL_digest 4 = .ok (.iconst 0, 1) ∧ 4 + 1 = 5 := ⟨by decide +kernel, rfl⟩
theorem dL_digest_5 : decode cL_digest 5 = .ok (.istore_n 3, 1) ∧ 5 + 1 = 6 := ⟨by decide +kernel, rfl⟩
theorem dL_digest_6 : decode cL_digest 6 = .ok (.iload_n 3, 1) ∧ 6 + 1 = 7 := ⟨by decide +kernel, rfl⟩
theorem dL_digest_7 : decode cL_digest 7 = .ok (.bipush 7, 2) ∧ 7 + 2 = 9 := ⟨by decide +kernel, rfl⟩
theorem dL_digest_9 : decode cL_digest 9 = .ok (.if_icmp .ge 22, 3) ∧ 9 + 3 = 12 ∧ ((9 : Nat) : Int) + (22) = ((31 : Nat) : Int) := ⟨by decide +kernel, rfl, rfl⟩
theorem dL_digest_12 : decode cL_digest 12 = .ok (.ldc2_w 11, 3) ∧ 12 + 3 = 15 := ⟨by decide +kernel, rfl⟩
theorem dL_digest_15 : decode cL_digest 15 = .ok (.lload_n 1, 1) ∧ 15 + 1 = 16 := ⟨by decide +kernel, rfl⟩
theorem dL_digest_16 : decode cL_digest 16 = .ok (.lmul, 1) ∧ 16 + 1 = 17 := ⟨by decide +kernel, rfl⟩
theorem dL_digest_17 : decode cL_digest 17 = .ok (.aload_n 0, 1) ∧ 17 + 1 = 18 := ⟨by decide +kernel, rfl⟩
theorem dL_digest_18 : decode cL_digest 18 = .ok (.iload_n 3, 1) ∧ 18 + 1 = 19 := ⟨by decide +kernel, rfl⟩
theorem dL_digest_19 : decode cL_digest 19 = .ok (.invokevirtual 13, 3) ∧ 19 + 3 = 22 := ⟨by decide +kernel, rfl⟩
theorem dL_digest_22 : decode cL_digest 22 = .ok (.i2l, 1) ∧ 22 + 1 = 23 := ⟨by decide +kernel, rfl⟩
theorem dL_digest_23 : decode cL_digest 23 = .ok (.ladd, 1) ∧ 23 + 1 = 24 := ⟨by decide +kernel, rfl⟩
theorem dL_digest_24 : decode cL_digest 24 = .ok (.lstore_n 1, 1) ∧ 24 + 1 = 25 := ⟨by decide +kernel, rfl⟩
theorem dL_digest_25 : decode cL_digest 25 = .ok (.iinc 3 1, 3) ∧ 25 + 3 = 28 := ⟨by decide +kernel, rfl⟩
theorem dL_digest_28 : decode cL_digest 28 = .ok (.goto (-22), 3) ∧ 28 + 3 = 31 ∧ ((28 : Nat) : Int) + (-22) = ((6 : Nat) : Int) := ⟨by decide +kernel, rfl, rfl⟩
theorem dL_digest_31 : decode cL_digest 31 = .ok (.aload_n 0, 1) ∧ 31 + 1 = 32 := ⟨by decide +kernel, rfl⟩
theorem dL_digest_32 : decode cL_digest 32 = .ok (.iconst 3, 1) ∧ 32 + 1 = 33 := ⟨by decide +kernel, rfl⟩
theorem dL_digest_33 : decode cL_digest 33 = .ok (.invokevirtual 13, 3) ∧ 33 + 3 = 36 := ⟨by decide +kernel, rfl⟩
theorem dL_digest_36 : decode cL_digest 36 = .ok (.istore_n 3, 1) ∧ 36 + 1 = 37 := ⟨by decide +kernel, rfl⟩
theorem dL_digest_37 : decode cL_digest 37 = .ok (.aload_n 0, 1) ∧ 37 + 1 = 38 := ⟨by decide +kernel, rfl⟩
theorem dL_digest_38 : decode cL_digest 38 = .ok (.iconst 1, 1) ∧ 38 + 1 = 39 := ⟨by decide +kernel, rfl⟩
theorem dL_digest_39 : decode cL_digest 39 = .ok (.invokevirtual 13, 3) ∧ 39 + 3 = 42 := ⟨by decide +kernel, rfl⟩
theorem dL_digest_42 : decode cL_digest 42 = .ok (.istore 4, 2) ∧ 42 + 2 = 44 := ⟨by decide +kernel, rfl⟩
theorem dL_digest_44 : decode cL_digest 44 = .ok (.iconst 0, 1) ∧ 44 + 1 = 45 := ⟨by decide +kernel, rfl⟩
theorem dL_digest_45 : decode cL_digest 45 = .ok (.istore 5, 2) ∧ 45 + 2 = 47 := ⟨by decide +kernel, rfl⟩
theorem dL_digest_47 : decode cL_digest 47 = .ok (.iload 5, 2) ∧ 47 + 2 = 49 := ⟨by decide +kernel, rfl⟩
theorem dL_digest_49 : decode cL_digest 49 = .ok (.iload_n 3, 1) ∧ 49 + 1 = 50 := ⟨by decide +kernel, rfl⟩
theorem dL_digest_50 : decode cL_digest 50 = .ok (.if_icmp .ge 50, 3) ∧ 50 + 3 = 53 ∧ ((50 : Nat) : Int) + (50) = ((100 : Nat) : Int) := ⟨by decide +kernel, rfl, rfl⟩
theorem dL_digest_53 : decode cL_digest 53 = .ok (.ldc2_w 11, 3) ∧ 53 + 3 = 56 := ⟨by decide +kernel, rfl⟩
theorem dL_digest_56 : decode cL_digest 56 = .ok (.lload_n 1, 1) ∧ 56 + 1 = 57 := ⟨by decide +kernel, rfl⟩
theorem dL_digest_57 : decode cL_digest 57 = .ok (.lmul, 1) ∧ 57 + 1 = 58 := ⟨by decide +kernel, rfl⟩
theorem dL_digest_58 : decode cL_digest 58 = .ok (.ldc2_w 19, 3) ∧ 58 + 3 = 61 := ⟨by decide +kernel, rfl⟩
theorem dL_digest_61 : decode cL_digest 61 = .ok (.aload_n 0, 1) ∧ 61 + 1 = 62 := ⟨by decide +kernel, rfl⟩
theorem dL_digest_62 : decode cL_digest 62 = .ok (.iload 5, 2) ∧ 62 + 2 = 64 := ⟨by decide +kernel, rfl⟩
theorem dL_digest_64 : decode cL_digest 64 = .ok (.iconst 0, 1) ∧ 64 + 1 = 65 := ⟨by decide +kernel, rfl⟩
theorem dL_digest_65 : decode cL_digest 65 = .ok (.invokevirtual 21, 3) ∧ 65 + 3 = 68 := ⟨by decide +kernel, rfl⟩
theorem dL_digest_68 : decode cL_digest 68 = .ok (.i2l, 1) ∧ 68 + 1 = 69 := ⟨by decide +kernel, rfl⟩
theorem dL_digest_69 : decode cL_digest 69 = .ok (.lmul, 1) ∧ 69 + 1 = 70 := ⟨by decide +kernel, rfl⟩
theorem dL_digest_70 : decode cL_digest 70 = .ok (.ladd, 1) ∧ 70 + 1 = 71 := ⟨by decide +kernel, rfl⟩
theorem dL_digest_71 : decode cL_digest 71 = .ok (.ldc2_w 25, 3) ∧ 71 + 3 = 74 := ⟨by decide +kernel, rfl⟩
theorem dL_digest_74 : decode cL_digest 74 = .ok (.aload_n 0, 1) ∧ 74 + 1 = 75 := ⟨by decide +kernel, rfl⟩
theorem dL_digest_75 : decode cL_digest 75 = .ok (.iload 5, 2) ∧ 75 + 2 = 77 := ⟨by decide +kernel, rfl⟩
theorem dL_digest_77 : decode cL_digest 77 = .ok (.iconst 1, 1) ∧ 77 + 1 = 78 := ⟨by decide +kernel, rfl⟩
theorem dL_digest_78 : decode cL_digest 78 = .ok (.invokevirtual 21, 3) ∧ 78 + 3 = 81 := ⟨by decide +kernel, rfl⟩
theorem dL_digest_81 : decode cL_digest 81 = .ok (.i2l, 1) ∧ 81 + 1 = 82 := ⟨by decide +kernel, rfl⟩
theorem dL_digest_82 : decode cL_digest 82 = .ok (.lmul, 1) ∧ 82 + 1 = 83 := ⟨by decide +kernel, rfl⟩
theorem dL_digest_83 : decode cL_digest 83 = .ok (.ladd, 1) ∧ 83 + 1 = 84 := ⟨by decide +kernel, rfl⟩
theorem dL_digest_84 : decode cL_digest 84 = .ok (.aload_n 0, 1) ∧ 84 + 1 = 85 := ⟨by decide +kernel, rfl⟩
theorem dL_digest_85 : decode cL_digest 85 = .ok (.iload 5, 2) ∧ 85 + 2 = 87 := ⟨by decide +kernel, rfl⟩
theorem dL_digest_87 : decode cL_digest 87 = .ok (.iconst 4, 1) ∧ 87 + 1 = 88 := ⟨by decide +kernel, rfl⟩
theorem dL_digest_88 : decode cL_digest 88 = .ok (.invokevirtual 21, 3) ∧ 88 + 3 = 91 := ⟨by decide +kernel, rfl⟩
theorem dL_digest_91 : decode cL_digest 91 = .ok (.i2l, 1) ∧ 91 + 1 = 92 := ⟨by decide +kernel, rfl⟩
theorem dL_digest_92 : decode cL_digest 92 = .ok (.ladd, 1) ∧ 92 + 1 = 93 := ⟨by decide +kernel, rfl⟩
theorem dL_digest_93 : decode cL_digest 93 = .ok (.lstore_n 1, 1) ∧ 93 + 1 = 94 := ⟨by decide +kernel, rfl⟩
theorem dL_digest_94 : decode cL_digest 94 = .ok (.iinc 5 1, 3) ∧ 94 + 3 = 97 := ⟨by decide +kernel, rfl⟩
theorem dL_digest_97 : decode cL_digest 97 = .ok (.goto (-50), 3) ∧ 97 + 3 = 100 ∧ ((97 : Nat) : Int) + (-50) = ((47 : Nat) : Int) := ⟨by decide +kernel, rfl, rfl⟩
theorem dL_digest_100 : decode cL_digest 100 = .ok (.iconst 1, 1) ∧ 100 + 1 = 101 := ⟨by decide +kernel, rfl⟩
theorem dL_digest_101 : decode cL_digest 101 = .ok (.istore 5, 2) ∧ 101 + 2 = 103 := ⟨by decide +kernel, rfl⟩
theorem dL_digest_103 : decode cL_digest 103 = .ok (.iload 5, 2) ∧ 103 + 2 = 105 := ⟨by decide +kernel, rfl⟩
theorem dL_digest_105 : decode cL_digest 105 = .ok (.iload 4, 2) ∧ 105 + 2 = 107 := ⟨by decide +kernel, rfl⟩
theorem dL_digest_107 : decode cL_digest 107 = .ok (.if_icmp .gt 41, 3) ∧ 107 + 3 = 110 ∧ ((107 : Nat) : Int) + (41) = ((148 : Nat) : Int) := ⟨by decide +kernel, rfl, rfl⟩
theorem dL_digest_110 : decode cL_digest 110 = .ok (.iconst 0, 1) ∧ 110 + 1 = 111 := ⟨by decide +kernel, rfl⟩
theorem dL_digest_111 : decode cL_digest 111 = .ok (.istore 6, 2) ∧ 111 + 2 = 113 := ⟨by decide +kernel, rfl⟩
theorem dL_digest_113 : decode cL_digest 113 = .ok (.iload 6, 2) ∧ 113 + 2 = 115 := ⟨by decide +kernel, rfl⟩
theorem dL_digest_115 : decode cL_digest 115 = .ok (.bipush 8, 2) ∧ 115 + 2 = 117 := ⟨by decide +kernel, rfl⟩
theorem dL_digest_117 : decode cL_digest 117 = .ok (.if_icmp .ge 25, 3) ∧ 117 + 3 = 120 ∧ ((117 : Nat) : Int) + (25) = ((142 : Nat) : Int) := ⟨by decide +kernel, rfl, rfl⟩
theorem dL_digest_120 : decode cL_digest 120 = .ok (.ldc2_w 11, 3) ∧ 120 + 3 = 123 := ⟨by decide +kernel, rfl⟩
theorem dL_digest_123 : decode cL_digest 123 = .ok (.lload_n 1, 1) ∧ 123 + 1 = 124 := ⟨by decide +kernel, rfl⟩
theorem dL_digest_124 : decode cL_digest 124 = .ok (.lmul, 1) ∧ 124 + 1 = 125 := ⟨by decide +kernel, rfl⟩
theorem dL_digest_125 : decode cL_digest 125 = .ok (.aload_n 0, 1) ∧ 125 + 1 = 126 := ⟨by decide +kernel, rfl⟩
theorem dL_digest_126 : decode cL_digest 126 = .ok (.iload 5, 2) ∧ 126 + 2 = 128 := ⟨by decide +kernel, rfl⟩
theorem dL_digest_128 : decode cL_digest 128 = .ok (.iload 6, 2) ∧ 128 + 2 = 130 := ⟨by decide +kernel, rfl⟩
theorem dL_digest_130 : decode cL_digest 130 = .ok (.invokevirtual 27, 3) ∧ 130 + 3 = 133 := ⟨by decide +kernel, rfl⟩
theorem dL_digest_133 : decode cL_digest 133 = .ok (.i2l, 1) ∧ 133 + 1 = 134 := ⟨by decide +kernel, rfl⟩
theorem dL_digest_134 : decode cL_digest 134 = .ok (.ladd, 1) ∧ 134 + 1 = 135 := ⟨by decide +kernel, rfl⟩
theorem dL_digest_135 : decode cL_digest 135 = .ok (.lstore_n 1, 1) ∧ 135 + 1 = 136 := ⟨by decide +kernel, rfl⟩
theorem dL_digest_136 : decode cL_digest 136 = .ok (.iinc 6 1, 3) ∧ 136 + 3 = 139 := ⟨by decide +kernel, rfl⟩
theorem dL_digest_139 : decode cL_digest 139 = .ok (.goto (-26), 3) ∧ 139 + 3 = 142 ∧ ((139 : Nat) : Int) + (-26) = ((113 : Nat) : Int) := ⟨by decide +kernel, rfl, rfl⟩
theorem dL_digest_142 : decode cL_digest 142 = .ok (.iinc 5 1, 3) ∧ 142 + 3 = 145 := ⟨by decide +kernel, rfl⟩
theorem dL_digest_145 : decode cL_digest 145 = .ok (.goto (-42), 3) ∧ 145 + 3 = 148 ∧ ((145 : Nat) : Int) + (-42) = ((103 : Nat) : Int) := ⟨by decide +kernel, rfl, rfl⟩
theorem dL_digest_148 : decode cL_digest 148 = .ok (.lload_n 1, 1) ∧ 148 + 1 = 149 := ⟨by decide +kernel, rfl⟩
theorem dL_digest_149 : decode cL_digest 149 = .ok (.lreturn, 1) ∧ 149 + 1 = 150 := ⟨by decide +kernel, rfl⟩
theorem dL_sound_0 : decode cL_sound 0 = .ok (.aload_n 0, 1) ∧ 0 + 1 = 1 := ⟨by decide +kernel, rfl⟩
theorem dL_sound_1 : decode cL_sound 1 = .ok (.iconst 3, 1) ∧ 1 + 1 = 2 := ⟨by decide +kernel, rfl⟩
theorem dL_sound_2 : decode cL_sound 2 = .ok (.invokevirtual 13, 3) ∧ 2 + 3 = 5 := ⟨by decide +kernel, rfl⟩
theorem dL_sound_5 : decode cL_sound 5 = .ok (.istore_n 2, 1) ∧ 5 + 1 = 6 := ⟨by decide +kernel, rfl⟩
theorem dL_sound_6 : decode cL_sound 6 = .ok (.aload_n 0, 1) ∧ 6 + 1 = 7 := ⟨by decide +kernel, rfl⟩
theorem dL_sound_7 : decode cL_sound 7 = .ok (.iload_n 1, 1) ∧ 7 + 1 = 8 := ⟨by decide +kernel, rfl⟩
theorem dL_sound_8 : decode cL_sound 8 = .ok (.iconst 1, 1) ∧ 8 + 1 = 9 := ⟨by decide +kernel, rfl⟩
theorem dL_sound_9 : decode cL_sound 9 = .ok (.invokevirtual 21, 3) ∧ 9 + 3 = 12 := ⟨by decide +kernel, rfl⟩
theorem dL_sound_12 : decode cL_sound 12 = .ok (.istore_n 3, 1) ∧ 12 + 1 = 13 := ⟨by decide +kernel, rfl⟩
theorem dL_sound_13 : decode cL_sound 13 = .ok (.aload_n 0, 1) ∧ 13 + 1 = 14 := ⟨by decide +kernel, rfl⟩
theorem dL_sound_14 : decode cL_sound 14 = .ok (.iload_n 1, 1) ∧ 14 + 1 = 15 := ⟨by decide +kernel, rfl⟩
theorem dL_sound_15 : decode cL_sound 15 = .ok (.iconst 3, 1) ∧ 15 + 1 = 16 := ⟨by decide +kernel, rfl⟩
theorem dL_sound_16 : decode cL_sound 16 = .ok (.invokevirtual 21, 3) ∧ 16 + 3 = 19 := ⟨by decide +kernel, rfl⟩
theorem dL_sound_19 : decode cL_sound 19 = .ok (.istore 4, 2) ∧ 19 + 2 = 21 := ⟨by decide +kernel, rfl⟩
theorem dL_sound_21 : decode cL_sound 21 = .ok (.aload_n 0, 1) ∧ 21 + 1 = 22 := ⟨by decide +kernel, rfl⟩
theorem dL_sound_22 : decode cL_sound 22 = .ok (.iload_n 1, 1) ∧ 22 + 1 = 23 := ⟨by decide +kernel, rfl⟩
theorem dL_sound_23 : decode cL_sound 23 = .ok (.bipush 7, 2) ∧ 23 + 2 = 25 := ⟨by decide +kernel, rfl⟩
theorem dL_sound_25 : decode cL_sound 25 = .ok (.invokevirtual 21, 3) ∧ 25 + 3 = 28 := ⟨by decide +kernel, rfl⟩
theorem dL_sound_28 : decode cL_sound 28 = .ok (.istore 5, 2) ∧ 28 + 2 = 30 := ⟨by decide +kernel, rfl⟩
theorem dL_sound_30 : decode cL_sound 30 = .ok (.aload_n 0, 1) ∧ 30 + 1 = 31 := ⟨by decide +kernel, rfl⟩
theorem dL_sound_31 : decode cL_sound 31 = .ok (.iload_n 1, 1) ∧ 31 + 1 = 32 := ⟨by decide +kernel, rfl⟩
theorem dL_sound_32 : decode cL_sound 32 = .ok (.bipush 8, 2) ∧ 32 + 2 = 34 := ⟨by decide +kernel, rfl⟩
theorem dL_sound_34 : decode cL_sound 34 = .ok (.invokevirtual 21, 3) ∧ 34 + 3 = 37 := ⟨by decide +kernel, rfl⟩
theorem dL_sound_37 : decode cL_sound 37 = .ok (.istore 6, 2) ∧ 37 + 2 = 39 := ⟨by decide +kernel, rfl⟩
theorem dL_sound_39 : decode cL_sound 39 = .ok (.aload_n 0, 1) ∧ 39 + 1 = 40 := ⟨by decide +kernel, rfl⟩
theorem dL_sound_40 : decode cL_sound 40 = .ok (.iload_n 1, 1) ∧ 40 + 1 = 41 := ⟨by decide +kernel, rfl⟩
theorem dL_sound_41 : decode cL_sound 41 = .ok (.iconst 0, 1) ∧ 41 + 1 = 42 := ⟨by decide +kernel, rfl⟩
theorem dL_sound_42 : decode cL_sound 42 = .ok (.invokevirtual 21, 3) ∧ 42 + 3 = 45 := ⟨by decide +kernel, rfl⟩
theorem dL_sound_45 : decode cL_sound 45 = .ok (.istore 7, 2) ∧ 45 + 2 = 47 := ⟨by decide +kernel, rfl⟩
theorem dL_sound_47 : decode cL_sound 47 = .ok (.iconst 0, 1) ∧ 47 + 1 = 48 := ⟨by decide +kernel, rfl⟩
theorem dL_sound_48 : decode cL_sound 48 = .ok (.istore 8, 2) ∧ 48 + 2 = 50 := ⟨by decide +kernel, rfl⟩
theorem dL_sound_50 : decode cL_sound 50 = .ok (.iload_n 1, 1) ∧ 50 + 1 = 51 := ⟨by decide +kernel, rfl⟩
theorem dL_sound_51 : decode cL_sound 51 = .ok (.iconst 1, 1) ∧ 51 + 1 = 52 := ⟨by decide +kernel, rfl⟩
theorem dL_sound_52 : decode cL_sound 52 = .ok (.iadd, 1) ∧ 52 + 1 = 53 := ⟨by decide +kernel, rfl⟩
theorem dL_sound_53 : decode cL_sound 53 = .ok (.istore 9, 2) ∧ 53 + 2 = 55 := ⟨by decide +kernel, rfl⟩
theorem dL_sound_55 : decode cL_sound 55 = .ok (.iload 9, 2) ∧ 55 + 2 = 57 := ⟨by decide +kernel, rfl⟩
theorem dL_sound_57 : decode cL_sound 57 = .ok (.iload_n 2, 1) ∧ 57 + 1 = 58 := ⟨by decide +kernel, rfl⟩
theorem dL_sound_58 : decode cL_sound 58 = .ok (.if_icmp .ge 84, 3) ∧ 58 + 3 = 61 ∧ ((58 : Nat) : Int) + (84) = ((142 : Nat) : Int) := ⟨by decide +kernel, rfl, rfl⟩
theorem dL_sound_61 : decode cL_sound 61 = .ok (.iload 9, 2) ∧ 61 + 2 = 63 := ⟨by decide +kernel, rfl⟩
theorem dL_sound_63 : decode cL_sound 63 = .ok (.iload_n 1, 1) ∧ 63 + 1 = 64 := ⟨by decide +kernel, rfl⟩
theorem dL_sound_64 : decode cL_sound 64 = .ok (.iload 6, 2) ∧ 64 + 2 = 66 := ⟨by decide +kernel, rfl⟩
theorem dL_sound_66 : decode cL_sound 66 = .ok (.iadd, 1) ∧ 66 + 1 = 67 := ⟨by decide +kernel, rfl⟩
theorem dL_sound_67 : decode cL_sound 67 = .ok (.if_icmp .gt 75, 3) ∧ 67 + 3 = 70 ∧ ((67 : Nat) : Int) + (75) = ((142 : Nat) : Int) := ⟨by decide +kernel, rfl, rfl⟩
theorem dL_sound_70 : decode cL_sound 70 = .ok (.aload_n 0, 1) ∧ 70 + 1 = 71 := ⟨by decide +kernel, rfl⟩
theorem dL_sound_71 : decode cL_sound 71 = .ok (.iload 9, 2) ∧ 71 + 2 = 73 := ⟨by decide +kernel, rfl⟩
theorem dL_sound_73 : decode cL_sound 73 = .ok (.iconst 1, 1) ∧ 73 + 1 = 74 := ⟨by decide +kernel, rfl⟩
theorem dL_sound_74 : decode cL_sound 74 = .ok (.invokevirtual 21, 3) ∧ 74 + 3 = 77 := ⟨by decide +kernel, rfl⟩
theorem dL_sound_77 : decode cL_sound 77 = .ok (.istore 10, 2) ∧ 77 + 2 = 79 := ⟨by decide +kernel, rfl⟩
theorem dL_sound_79 : decode cL_sound 79 = .ok (.iload 10, 2) ∧ 79 + 2 = 81 := ⟨by decide +kernel, rfl⟩
theorem dL_sound_81 : decode cL_sound 81 = .ok (.iload_n 3, 1) ∧ 81 + 1 = 82 := ⟨by decide +kernel, rfl⟩
theorem dL_sound_82 : decode cL_sound 82 = .ok (.if_icmp .gt 5, 3) ∧ 82 + 3 = 85 ∧ ((82 : Nat) : Int) + (5) = ((87 : Nat) : Int) := ⟨by decide +kernel, rfl, rfl⟩
theorem dL_sound_85 : decode cL_sound 85 = .ok (.iconst 0, 1) ∧ 85 + 1 = 86 := ⟨by decide +kernel, rfl⟩
theorem dL_sound_86 : decode cL_sound 86 = .ok (.ireturn, 1) ∧ 86 + 1 = 87 := ⟨by decide +kernel, rfl⟩
theorem dL_sound_87 : decode cL_sound 87 = .ok (.iload 10, 2) ∧ 87 + 2 = 89 := ⟨by decide +kernel, rfl⟩
theorem dL_sound_89 : decode cL_sound 89 = .ok (.iload_n 3, 1) ∧ 89 + 1 = 90 := ⟨by decide +kernel, rfl⟩
theorem dL_sound_90 : decode cL_sound 90 = .ok (.iconst 1, 1) ∧ 90 + 1 = 91 := ⟨by decide +kernel, rfl⟩
theorem dL_sound_91 : decode cL_sound 91 = .ok (.iadd, 1) ∧ 91 + 1 = 92 := ⟨by decide +kernel, rfl⟩
theorem dL_sound_92 : decode cL_sound 92 = .ok (.if_icmp .ne 44, 3) ∧ 92 + 3 = 95 ∧ ((92 : Nat) : Int) + (44) = ((136 : Nat) : Int) := ⟨by decide +kernel, rfl, rfl⟩
theorem dL_sound_95 : decode cL_sound 95 = .ok (.aload_n 0, 1) ∧ 95 + 1 = 96 := ⟨by decide +kernel, rfl⟩
theorem dL_sound_96 : decode cL_sound 96 = .ok (.iload 9, 2) ∧ 96 + 2 = 98 := ⟨by decide +kernel, rfl⟩
theorem dL_sound_98 : decode cL_sound 98 = .ok (.iconst 2, 1) ∧ 98 + 1 = 99 := ⟨by decide +kernel, rfl⟩
theorem dL_sound_99 : decode cL_sound 99 = .ok (.invokevirtual 21, 3) ∧ 99 + 3 = 102 := ⟨by decide +kernel, rfl⟩
theorem dL_sound_102 : decode cL_sound 102 = .ok (.iload 8, 2) ∧ 102 + 2 = 104 := ⟨by decide +kernel, rfl⟩
theorem dL_sound_104 : decode cL_sound 104 = .ok (.if_icmp .ne 27, 3) ∧ 104 + 3 = 107 ∧ ((104 : Nat) : Int) + (27) = ((131 : Nat) : Int) := ⟨by decide +kernel, rfl, rfl⟩
theorem dL_sound_107 : decode cL_sound 107 = .ok (.aload_n 0, 1) ∧ 107 + 1 = 108 := ⟨by decide +kernel, rfl⟩
theorem dL_sound_108 : decode cL_sound 108 = .ok (.iload 9, 2) ∧ 108 + 2 = 110 := ⟨by decide +kernel, rfl⟩
theorem dL_sound_110 : decode cL_sound 110 = .ok (.bipush 7, 2) ∧ 110 + 2 = 112 := ⟨by decide +kernel, rfl⟩
theorem dL_sound_112 : decode cL_sound 112 = .ok (.invokevirtual 21, 3) ∧ 112 + 3 = 115 := ⟨by decide +kernel, rfl⟩
theorem dL_sound_115 : decode cL_sound 115 = .ok (.iload_n 1, 1) ∧ 115 + 1 = 116 := ⟨by decide +kernel, rfl⟩
theorem dL_sound_116 : decode cL_sound 116 = .ok (.if_icmp .ne 15, 3) ∧ 116 + 3 = 119 ∧ ((116 : Nat) : Int) + (15) = ((131 : Nat) : Int) := ⟨by decide +kernel, rfl, rfl⟩
theorem dL_sound_119 : decode cL_sound 119 = .ok (.aload_n 0, 1) ∧ 119 + 1 = 120 := ⟨by decide +kernel, rfl⟩
theorem dL_sound_120 : decode cL_sound 120 = .ok (.iload 9, 2) ∧ 120 + 2 = 122 := ⟨by decide +kernel, rfl⟩
theorem dL_sound_122 : decode cL_sound 122 = .ok (.iconst 0, 1) ∧ 122 + 1 = 123 := ⟨by decide +kernel, rfl⟩
theorem dL_sound_123 : decode cL_sound 123 = .ok (.invokevirtual 21, 3) ∧ 123 + 3 = 126 := ⟨by decide +kernel, rfl⟩
theorem dL_sound_126 : decode cL_sound 126 = .ok (.iload 7, 2) ∧ 126 + 2 = 128 := ⟨by decide +kernel, rfl⟩
theorem dL_sound_128 : decode cL_sound 128 = .ok (.if_icmp .ne 5, 3) ∧ 128 + 3 = 131 ∧ ((128 : Nat) : Int) + (5) = ((133 : Nat) : Int) := ⟨by decide +kernel, rfl, rfl⟩
theorem dL_sound_131 : decode cL_sound 131 = .ok (.iconst 0, 1) ∧ 131 + 1 = 132 := ⟨by decide +kernel, rfl⟩
theorem dL_sound_132 : decode cL_sound 132 = .ok (.ireturn, 1) ∧ 132 + 1 = 133 := ⟨by decide +kernel, rfl⟩
theorem dL_sound_133 : decode cL_sound 133 = .ok (.iinc 8 1, 3) ∧ 133 + 3 = 136 := ⟨by decide +kernel, rfl⟩
theorem dL_sound_136 : decode cL_sound 136 = .ok (.iinc 9 1, 3) ∧ 136 + 3 = 139 := ⟨by decide +kernel, rfl⟩
theorem dL_sound_139 : decode cL_sound 139 = .ok (.goto (-84), 3) ∧ 139 + 3 = 142 ∧ ((139 : Nat) : Int) + (-84) = ((55 : Nat) : Int) := ⟨by decide +kernel, rfl, rfl⟩
theorem dL_sound_142 : decode cL_sound 142 = .ok (.iload_n 1, 1) ∧ 142 + 1 = 143 := ⟨by decide +kernel, rfl⟩
theorem dL_sound_143 : decode cL_sound 143 = .ok (.iload 6, 2) ∧ 143 + 2 = 145 := ⟨by decide +kernel, rfl⟩
theorem dL_sound_145 : decode cL_sound 145 = .ok (.iadd, 1) ∧ 145 + 1 = 146 := ⟨by decide +kernel, rfl⟩
theorem dL_sound_146 : decode cL_sound 146 = .ok (.iload_n 2, 1) ∧ 146 + 1 = 147 := ⟨by decide +kernel, rfl⟩
theorem dL_sound_147 : decode cL_sound 147 = .ok (.if_icmp .ge 49, 3) ∧ 147 + 3 = 150 ∧ ((147 : Nat) : Int) + (49) = ((196 : Nat) : Int) := ⟨by decide +kernel, rfl, rfl⟩
theorem dL_sound_150 : decode cL_sound 150 = .ok (.iload_n 1, 1) ∧ 150 + 1 = 151 := ⟨by decide +kernel, rfl⟩
theorem dL_sound_151 : decode cL_sound 151 = .ok (.iload 6, 2) ∧ 151 + 2 = 153 := ⟨by decide +kernel, rfl⟩
theorem dL_sound_153 : decode cL_sound 153 = .ok (.iadd, 1) ∧ 153 + 1 = 154 := ⟨by decide +kernel, rfl⟩
theorem dL_sound_154 : decode cL_sound 154 = .ok (.iconst 1, 1) ∧ 154 + 1 = 155 := ⟨by decide +kernel, rfl⟩
theorem dL_sound_155 : decode cL_sound 155 = .ok (.iadd, 1) ∧ 155 + 1 = 156 := ⟨by decide +kernel, rfl⟩
theorem dL_sound_156 : decode cL_sound 156 = .ok (.iload_n 2, 1) ∧ 156 + 1 = 157 := ⟨by decide +kernel, rfl⟩
theorem dL_sound_157 : decode cL_sound 157 = .ok (.if_icmp .ge 18, 3) ∧ 157 + 3 = 160 ∧ ((157 : Nat) : Int) + (18) = ((175 : Nat) : Int) := ⟨by decide +kernel, rfl, rfl⟩
theorem dL_sound_160 : decode cL_sound 160 = .ok (.aload_n 0, 1) ∧ 160 + 1 = 161 := ⟨by decide +kernel, rfl⟩
theorem dL_sound_161 : decode cL_sound 161 = .ok (.iload_n 1, 1) ∧ 161 + 1 = 162 := ⟨by decide +kernel, rfl⟩
theorem dL_sound_162 : decode cL_sound 162 = .ok (.iload 6, 2) ∧ 162 + 2 = 164 := ⟨by decide +kernel, rfl⟩
theorem dL_sound_164 : decode cL_sound 164 = .ok (.iadd, 1) ∧ 164 + 1 = 165 := ⟨by decide +kernel, rfl⟩
theorem dL_sound_165 : decode cL_sound 165 = .ok (.iconst 1, 1) ∧ 165 + 1 = 166 := ⟨by decide +kernel, rfl⟩
theorem dL_sound_166 : decode cL_sound 166 = .ok (.iadd, 1) ∧ 166 + 1 = 167 := ⟨by decide +kernel, rfl⟩
theorem dL_sound_167 : decode cL_sound 167 = .ok (.iconst 1, 1) ∧ 167 + 1 = 168 := ⟨by decide +kernel, rfl⟩
theorem dL_sound_168 : decode cL_sound 168 = .ok (.invokevirtual 21, 3) ∧ 168 + 3 = 171 := ⟨by decide +kernel, rfl⟩
theorem dL_sound_171 : decode cL_sound 171 = .ok (.iload_n 3, 1) ∧ 171 + 1 = 172 := ⟨by decide +kernel, rfl⟩
theorem dL_sound_172 : decode cL_sound 172 = .ok (.if_icmp .gt 24, 3) ∧ 172 + 3 = 175 ∧ ((172 : Nat) : Int) + (24) = ((196 : Nat) : Int) := ⟨by decide +kernel, rfl, rfl⟩
theorem dL_sound_175 : decode cL_sound 175 = .ok (.iload 8, 2) ∧ 175 + 2 = 177 := ⟨by decide +kernel, rfl⟩
theorem dL_sound_177 : decode cL_sound 177 = .ok (.aload_n 0, 1) ∧ 177 + 1 = 178 := ⟨by decide +kernel, rfl⟩
theorem dL_sound_178 : decode cL_sound 178 = .ok (.iload_n 1, 1) ∧ 178 + 1 = 179 := ⟨by decide +kernel, rfl⟩
theorem dL_sound_179 : decode cL_sound 179 = .ok (.iconst 4, 1) ∧ 179 + 1 = 180 := ⟨by decide +kernel, rfl⟩
theorem dL_sound_180 : decode cL_sound 180 = .ok (.invokevirtual 21, 3) ∧ 180 + 3 = 183 := ⟨by decide +kernel, rfl⟩
theorem dL_sound_183 : decode cL_sound 183 = .ok (.iconst 1, 1) ∧ 183 + 1 = 184 := ⟨by decide +kernel, rfl⟩
theorem dL_sound_184 : decode cL_sound 184 = .ok (.if_icmp .ne 7, 3) ∧ 184 + 3 = 187 ∧ ((184 : Nat) : Int) + (7) = ((191 : Nat) : Int) := ⟨by decide +kernel, rfl, rfl⟩
theorem dL_sound_187 : decode cL_sound 187 = .ok (.iconst 0, 1) ∧ 187 + 1 = 188 := ⟨by decide +kernel, rfl⟩
theorem dL_sound_188 : decode cL_sound 188 = .ok (.goto 5, 3) ∧ 188 + 3 = 191 ∧ ((188 : Nat) : Int) + (5) = ((193 : Nat) : Int) := ⟨by decide +kernel, rfl, rfl⟩
theorem dL_sound_191 : decode cL_sound 191 = .ok (.iload 4, 2) ∧ 191 + 2 = 193 := ⟨by decide +kernel, rfl⟩
theorem dL_sound_193 : decode cL_sound 193 = .ok (.if_icmp .eq 5, 3) ∧ 193 + 3 = 196 ∧ ((193 : Nat) : Int) + (5) = ((198 : Nat) : Int) := ⟨by decide +kernel, rfl, rfl⟩
theorem dL_sound_196 : decode cL_sound 196 = .ok (.iconst 0, 1) ∧ 196 + 1 = 197 := ⟨by decide +kernel, rfl⟩
theorem dL_sound_197 : decode cL_sound 197 = .ok (.ireturn, 1) ∧ 197 + 1 = 198 := ⟨by decide +kernel, rfl⟩
theorem dL_sound_198 : decode cL_sound 198 = .ok (.iload 5, 2) ∧ 198 + 2 = 200 := ⟨by decide +kernel, rfl⟩
theorem dL_sound_200 : decode cL_sound 200 = .ok (.iconst (-1), 1) ∧ 200 + 1 = 201 := ⟨by decide +kernel, rfl⟩
theorem dL_sound_201 : decode cL_sound 201 = .ok (.if_icmp .ne 11, 3) ∧ 201 + 3 = 204 ∧ ((201 : Nat) : Int) + (11) = ((212 : Nat) : Int) := ⟨by decide +kernel, rfl, rfl⟩
theorem dL_sound_204 : decode cL_sound 204 = .ok (.iload_n 3, 1) ∧ 204 + 1 = 205 := ⟨by decide +kernel, rfl⟩
theorem dL_sound_205 : decode cL_sound 205 = .ok (.iconst 1, 1) ∧ 205 + 1 = 206 := ⟨by decide +kernel, rfl⟩
theorem dL_sound_206 : decode cL_sound 206 = .ok (.if_icmp .eq 27, 3) ∧ 206 + 3 = 209 ∧ ((206 : Nat) : Int) + (27) = ((233 : Nat) : Int) := ⟨by decide +kernel, rfl, rfl⟩
theorem dL_sound_209 : decode cL_sound 209 = .ok (.goto 22, 3) ∧ 209 + 3 = 212 ∧ ((209 : Nat) : Int) + (22) = ((231 : Nat) : Int) := ⟨by decide +kernel, rfl, rfl⟩
theorem dL_sound_212 : decode cL_sound 212 = .ok (.iload 5, 2) ∧ 212 + 2 = 214 := ⟨by decide +kernel, rfl⟩
theorem dL_sound_214 : decode cL_sound 214 = .ok (.iload_n 1, 1) ∧ 214 + 1 = 215 := ⟨by decide +kernel, rfl⟩
theorem dL_sound_215 : decode cL_sound 215 = .ok (.if_icmp .ge 16, 3) ∧ 215 + 3 = 218 ∧ ((215 : Nat) : Int) + (16) = ((231 : Nat) : Int) := ⟨by decide +kernel, rfl, rfl⟩
theorem dL_sound_218 : decode cL_sound 218 = .ok (.aload_n 0, 1) ∧ 218 + 1 = 219 := ⟨by decide +kernel, rfl⟩
theorem dL_sound_219 : decode cL_sound 219 = .ok (.iload 5, 2) ∧ 219 + 2 = 221 := ⟨by decide +kernel, rfl⟩
theorem dL_sound_221 : decode cL_sound 221 = .ok (.iconst 1, 1) ∧ 221 + 1 = 222 := ⟨by decide +kernel, rfl⟩
theorem dL_sound_222 : decode cL_sound 222 = .ok (.invokevirtual 21, 3) ∧ 222 + 3 = 225 := ⟨by decide +kernel, rfl⟩
theorem dL_sound_225 : decode cL_sound 225 = .ok (.iload_n 3, 1) ∧ 225 + 1 = 226 := ⟨by decide +kernel, rfl⟩
theorem dL_sound_226 : decode cL_sound 226 = .ok (.iconst 1, 1) ∧ 226 + 1 = 227 := ⟨by decide +kernel, rfl⟩
theorem dL_sound_227 : decode cL_sound 227 = .ok (.isub, 1) ∧ 227 + 1 = 228 := ⟨by decide +kernel, rfl⟩
theorem dL_sound_228 : decode cL_sound 228 = .ok (.if_icmp .eq 5, 3) ∧ 228 + 3 = 231 ∧ ((228 : Nat) : Int) + (5) = ((233 : Nat) : Int) := ⟨by decide +kernel, rfl, rfl⟩
theorem dL_sound_231 : decode cL_sound 231 = .ok (.iconst 0, 1) ∧ 231 + 1 = 232 := ⟨by decide +kernel, rfl⟩
theorem dL_sound_232 : decode cL_sound 232 = .ok (.ireturn, 1) ∧ 232 + 1 = 233 := ⟨by decide +kernel, rfl⟩
theorem dL_sound_233 : decode cL_sound 233 = .ok (.iconst 1, 1) ∧ 233 + 1 = 234 := ⟨by decide +kernel, rfl⟩
theorem dL_sound_234 : decode cL_sound 234 = .ok (.istore 9, 2) ∧ 234 + 2 = 236 := ⟨by decide +kernel, rfl⟩
theorem dL_sound_236 : decode cL_sound 236 = .ok (.iload 9, 2) ∧ 236 + 2 = 238 := ⟨by decide +kernel, rfl⟩
theorem dL_sound_238 : decode cL_sound 238 = .ok (.iload_n 3, 1) ∧ 238 + 1 = 239 := ⟨by decide +kernel, rfl⟩
theorem dL_sound_239 : decode cL_sound 239 = .ok (.if_icmp .ge 40, 3) ∧ 239 + 3 = 242 ∧ ((239 : Nat) : Int) + (40) = ((279 : Nat) : Int) := ⟨by decide +kernel, rfl, rfl⟩
theorem dL_sound_242 : decode cL_sound 242 = .ok (.aload_n 0, 1) ∧ 242 + 1 = 243 := ⟨by decide +kernel, rfl⟩
theorem dL_sound_243 : decode cL_sound 243 = .ok (.iload_n 1, 1) ∧ 243 + 1 = 244 := ⟨by decide +kernel, rfl⟩
theorem dL_sound_244 : decode cL_sound 244 = .ok (.iload 9, 2) ∧ 244 + 2 = 246 := ⟨by decide +kernel, rfl⟩
theorem dL_sound_246 : decode cL_sound 246 = .ok (.invokevirtual 30, 3) ∧ 246 + 3 = 249 := ⟨by decide +kernel, rfl⟩
theorem dL_sound_249 : decode cL_sound 249 = .ok (.iconst 1, 1) ∧ 249 + 1 = 250 := ⟨by decide +kernel, rfl⟩
theorem dL_sound_250 : decode cL_sound 250 = .ok (.if_icmp .lt 21, 3) ∧ 250 + 3 = 253 ∧ ((250 : Nat) : Int) + (21) = ((271 : Nat) : Int) := ⟨by decide +kernel, rfl, rfl⟩
theorem dL_sound_253 : decode cL_sound 253 = .ok (.aload_n 0, 1) ∧ 253 + 1 = 254 := ⟨by decide +kernel, rfl⟩
theorem dL_sound_254 : decode cL_sound 254 = .ok (.iload_n 1, 1) ∧ 254 + 1 = 255 := ⟨by decide +kernel, rfl⟩
theorem dL_sound_255 : decode cL_sound 255 = .ok (.iload 9, 2) ∧ 255 + 2 = 257 := ⟨by decide +kernel, rfl⟩
theorem dL_sound_257 : decode cL_sound 257 = .ok (.invokevirtual 30, 3) ∧ 257 + 3 = 260 := ⟨by decide +kernel, rfl⟩
theorem dL_sound_260 : decode cL_sound 260 = .ok (.aload_n 0, 1) ∧ 260 + 1 = 261 := ⟨by decide +kernel, rfl⟩
theorem dL_sound_261 : decode cL_sound 261 = .ok (.iload 5, 2) ∧ 261 + 2 = 263 := ⟨by decide +kernel, rfl⟩
theorem dL_sound_263 : decode cL_sound 263 = .ok (.iload 9, 2) ∧ 263 + 2 = 265 := ⟨by decide +kernel, rfl⟩
theorem dL_sound_265 : decode cL_sound 265 = .ok (.invokevirtual 30, 3) ∧ 265 + 3 = 268 := ⟨by decide +kernel, rfl⟩
theorem dL_sound_268 : decode cL_sound 268 = .ok (.if_icmp .eq 5, 3) ∧ 268 + 3 = 271 ∧ ((268 : Nat) : Int) + (5) = ((273 : Nat) : Int) := ⟨by decide +kernel, rfl, rfl⟩
theorem dL_sound_271 : decode cL_sound 271 = .ok (.iconst 0, 1) ∧ 271 + 1 = 272 := ⟨by decide +kernel, rfl⟩
theorem dL_sound_272 : decode cL_sound 272 = .ok (.ireturn, 1) ∧ 272 + 1 = 273 := ⟨by decide +kernel, rfl⟩
theorem dL_sound_273 : decode cL_sound 273 = .ok (.iinc 9 1, 3) ∧ 273 + 3 = 276 := ⟨by decide +kernel, rfl⟩
theorem dL_sound_276 : decode cL_sound 276 = .ok (.goto (-40), 3) ∧ 276 + 3 = 279 ∧ ((276 : Nat) : Int) + (-40) = ((236 : Nat) : Int) := ⟨by decide +kernel, rfl, rfl⟩
theorem dL_sound_279 : decode cL_sound 279 = .ok (.aload_n 0, 1) ∧ 279 + 1 = 280 := ⟨by decide +kernel, rfl⟩
theorem dL_sound_280 : decode cL_sound 280 = .ok (.iload_n 1, 1) ∧ 280 + 1 = 281 := ⟨by decide +kernel, rfl⟩
theorem dL_sound_281 : decode cL_sound 281 = .ok (.iload_n 3, 1) ∧ 281 + 1 = 282 := ⟨by decide +kernel, rfl⟩
theorem dL_sound_282 : decode cL_sound 282 = .ok (.invokevirtual 30, 3) ∧ 282 + 3 = 285 := ⟨by decide +kernel, rfl⟩
theorem dL_sound_285 : decode cL_sound 285 = .ok (.aload_n 0, 1) ∧ 285 + 1 = 286 := ⟨by decide +kernel, rfl⟩
theorem dL_sound_286 : decode cL_sound 286 = .ok (.iload_n 1, 1) ∧ 286 + 1 = 287 := ⟨by decide +kernel, rfl⟩
theorem dL_sound_287 : decode cL_sound 287 = .ok (.iconst 2, 1) ∧ 287 + 1 = 288 := ⟨by decide +kernel, rfl⟩
theorem dL_sound_288 : decode cL_sound 288 = .ok (.invokevirtual 21, 3) ∧ 288 + 3 = 291 := ⟨by decide +kernel, rfl⟩
theorem dL_sound_291 : decode cL_sound 291 = .ok (.iconst 1, 1) ∧ 291 + 1 = 292 := ⟨by decide +kernel, rfl⟩
theorem dL_sound_292 : decode cL_sound 292 = .ok (.iadd, 1) ∧ 292 + 1 = 293 := ⟨by decide +kernel, rfl⟩
theorem dL_sound_293 : decode cL_sound 293 = .ok (.if_icmp .ne 31, 3) ∧ 293 + 3 = 296 ∧ ((293 : Nat) : Int) + (31) = ((324 : Nat) : Int) := ⟨by decide +kernel, rfl, rfl⟩
theorem dL_sound_296 : decode cL_sound 296 = .ok (.aload_n 0, 1) ∧ 296 + 1 = 297 := ⟨by decide +kernel, rfl⟩
theorem dL_sound_297 : decode cL_sound 297 = .ok (.iload_n 1, 1) ∧ 297 + 1 = 298 := ⟨by decide +kernel, rfl⟩
theorem dL_sound_298 : decode cL_sound 298 = .ok (.iload_n 3, 1) ∧ 298 + 1 = 299 := ⟨by decide +kernel, rfl⟩
theorem dL_sound_299 : decode cL_sound 299 = .ok (.iconst 1, 1) ∧ 299 + 1 = 300 := ⟨by decide +kernel, rfl⟩
theorem dL_sound_300 : decode cL_sound 300 = .ok (.iadd, 1) ∧ 300 + 1 = 301 := ⟨by decide +kernel, rfl⟩
theorem dL_sound_301 : decode cL_sound 301 = .ok (.invokevirtual 30, 3) ∧ 301 + 3 = 304 := ⟨by decide +kernel, rfl⟩
theorem dL_sound_304 : decode cL_sound 304 = .ok (.bipush (-6), 2) ∧ 304 + 2 = 306 := ⟨by decide +kernel, rfl⟩
theorem dL_sound_306 : decode cL_sound 306 = .ok (.if_icmp .ne 18, 3) ∧ 306 + 3 = 309 ∧ ((306 : Nat) : Int) + (18) = ((324 : Nat) : Int) := ⟨by decide +kernel, rfl, rfl⟩
theorem dL_sound_309 : decode cL_sound 309 = .ok (.aload_n 0, 1) ∧ 309 + 1 = 310 := ⟨by decide +kernel, rfl⟩
theorem dL_sound_310 : decode cL_sound 310 = .ok (.iload_n 1, 1) ∧ 310 + 1 = 311 := ⟨by decide +kernel, rfl⟩
theorem dL_sound_311 : decode cL_sound 311 = .ok (.iconst 0, 1) ∧ 311 + 1 = 312 := ⟨by decide +kernel, rfl⟩
theorem dL_sound_312 : decode cL_sound 312 = .ok (.invokevirtual 30, 3) ∧ 312 + 3 = 315 := ⟨by decide +kernel, rfl⟩
theorem dL_sound_315 : decode cL_sound 315 = .ok (.bipush (-3), 2) ∧ 315 + 2 = 317 := ⟨by decide +kernel, rfl⟩
theorem dL_sound_317 : decode cL_sound 317 = .ok (.if_icmp .ne 7, 3) ∧ 317 + 3 = 320 ∧ ((317 : Nat) : Int) + (7) = ((324 : Nat) : Int) := ⟨by decide +kernel, rfl, rfl⟩
theorem dL_sound_320 : decode cL_sound 320 = .ok (.iconst 1, 1) ∧ 320 + 1 = 321 := ⟨by decide +kernel, rfl⟩
theorem dL_sound_321 : decode cL_sound 321 = .ok (.goto 4, 3) ∧ 321 + 3 = 324 ∧ ((321 : Nat) : Int) + (4) = ((325 : Nat) : Int) := ⟨by decide +kernel, rfl, rfl⟩
theorem dL_sound_324 : decode cL_sound 324 = .ok (.iconst 0, 1) ∧ 324 + 1 = 325 := ⟨by decide +kernel, rfl⟩
theorem dL_sound_325 : decode cL_sound 325 = .ok (.istore 9, 2) ∧ 325 + 2 = 327 := ⟨by decide +kernel, rfl⟩
theorem dL_sound_327 : decode cL_sound 327 = .ok (.iload 9, 2) ∧ 327 + 2 = 329 := ⟨by decide +kernel, rfl⟩
theorem dL_sound_329 : decode cL_sound 329 = .ok (.ifCond .eq 110, 3) ∧ 329 + 3 = 332 ∧ ((329 : Nat) : Int) + (110) = ((439 : Nat) : Int) := ⟨by decide +kernel, rfl, rfl⟩
theorem dL_sound_332 : decode cL_sound 332 = .ok (.aload_n 0, 1) ∧ 332 + 1 = 333 := ⟨by decide +kernel, rfl⟩
theorem dL_sound_333 : decode cL_sound 333 = .ok (.iload 7, 2) ∧ 333 + 2 = 335 := ⟨by decide +kernel, rfl⟩
theorem dL_sound_335 : decode cL_sound 335 = .ok (.iconst 3, 1) ∧ 335 + 1 = 336 := ⟨by decide +kernel, rfl⟩
theorem dL_sound_336 : decode cL_sound 336 = .ok (.invokevirtual 27, 3) ∧ 336 + 3 = 339 := ⟨by decide +kernel, rfl⟩
theorem dL_sound_339 : decode cL_sound 339 = .ok (.iload 4, 2) ∧ 339 + 2 = 341 := ⟨by decide +kernel, rfl⟩
theorem dL_sound_341 : decode cL_sound 341 = .ok (.if_icmp .ne 98, 3) ∧ 341 + 3 = 344 ∧ ((341 : Nat) : Int) + (98) = ((439 : Nat) : Int) := ⟨by decide +kernel, rfl, rfl⟩
theorem dL_sound_344 : decode cL_sound 344 = .ok (.aload_n 0, 1) ∧ 344 + 1 = 345 := ⟨by decide +kernel, rfl⟩
theorem dL_sound_345 : decode cL_sound 345 = .ok (.iload 7, 2) ∧ 345 + 2 = 347 := ⟨by decide +kernel, rfl⟩
theorem dL_sound_347 : decode cL_sound 347 = .ok (.iconst 4, 1) ∧ 347 + 1 = 348 := ⟨by decide +kernel, rfl⟩
theorem dL_sound_348 : decode cL_sound 348 = .ok (.invokevirtual 27, 3) ∧ 348 + 3 = 351 := ⟨by decide +kernel, rfl⟩
theorem dL_sound_351 : decode cL_sound 351 = .ok (.aload_n 0, 1) ∧ 351 + 1 = 352 := ⟨by decide +kernel, rfl⟩
theorem dL_sound_352 : decode cL_sound 352 = .ok (.iload_n 1, 1) ∧ 352 + 1 = 353 := ⟨by decide +kernel, rfl⟩
theorem dL_sound_353 : decode cL_sound 353 = .ok (.iconst 5, 1) ∧ 353 + 1 = 354 := ⟨by decide +kernel, rfl⟩
theorem dL_sound_354 : decode cL_sound 354 = .ok (.invokevirtual 21, 3) ∧ 354 + 3 = 357 := ⟨by decide +kernel, rfl⟩
theorem dL_sound_357 : decode cL_sound 357 = .ok (.if_icmp .ne 82, 3) ∧ 357 + 3 = 360 ∧ ((357 : Nat) : Int) + (82) = ((439 : Nat) : Int) := ⟨by decide +kernel, rfl, rfl⟩
theorem dL_sound_360 : decode cL_sound 360 = .ok (.aload_n 0, 1) ∧ 360 + 1 = 361 := ⟨by decide +kernel, rfl⟩
theorem dL_sound_361 : decode cL_sound 361 = .ok (.iload 7, 2) ∧ 361 + 2 = 363 := ⟨by decide +kernel, rfl⟩
theorem dL_sound_363 : decode cL_sound 363 = .ok (.iconst 1, 1) ∧ 363 + 1 = 364 := ⟨by decide +kernel, rfl⟩
theorem dL_sound_364 : decode cL_sound 364 = .ok (.invokevirtual 27, 3) ∧ 364 + 3 = 367 := ⟨by decide +kernel, rfl⟩
theorem dL_sound_367 : decode cL_sound 367 = .ok (.aload_n 0, 1) ∧ 367 + 1 = 368 := ⟨by decide +kernel, rfl⟩
theorem dL_sound_368 : decode cL_sound 368 = .ok (.iload_n 1, 1) ∧ 368 + 1 = 369 := ⟨by decide +kernel, rfl⟩
theorem dL_sound_369 : decode cL_sound 369 = .ok (.bipush 6, 2) ∧ 369 + 2 = 371 := ⟨by decide +kernel, rfl⟩
theorem dL_sound_371 : decode cL_sound 371 = .ok (.invokevirtual 21, 3) ∧ 371 + 3 = 374 := ⟨by decide +kernel, rfl⟩
theorem dL_sound_374 : decode cL_sound 374 = .ok (.if_icmp .ne 65, 3) ∧ 374 + 3 = 377 ∧ ((374 : Nat) : Int) + (65) = ((439 : Nat) : Int) := ⟨by decide +kernel, rfl, rfl⟩
theorem dL_sound_377 : decode cL_sound 377 = .ok (.aload_n 0, 1) ∧ 377 + 1 = 378 := ⟨by decide +kernel, rfl⟩
theorem dL_sound_378 : decode cL_sound 378 = .ok (.iload 7, 2) ∧ 378 + 2 = 380 := ⟨by decide +kernel, rfl⟩
theorem dL_sound_380 : decode cL_sound 380 = .ok (.iconst 5, 1) ∧ 380 + 1 = 381 := ⟨by decide +kernel, rfl⟩
theorem dL_sound_381 : decode cL_sound 381 = .ok (.invokevirtual 27, 3) ∧ 381 + 3 = 384 := ⟨by decide +kernel, rfl⟩
theorem dL_sound_384 : decode cL_sound 384 = .ok (.iload_n 1, 1) ∧ 384 + 1 = 385 := ⟨by decide +kernel, rfl⟩
theorem dL_sound_385 : decode cL_sound 385 = .ok (.if_icmp .gt 54, 3) ∧ 385 + 3 = 388 ∧ ((385 : Nat) : Int) + (54) = ((439 : Nat) : Int) := ⟨by decide +kernel, rfl, rfl⟩
theorem dL_sound_388 : decode cL_sound 388 = .ok (.aload_n 0, 1) ∧ 388 + 1 = 389 := ⟨by decide +kernel, rfl⟩
theorem dL_sound_389 : decode cL_sound 389 = .ok (.iload_n 1, 1) ∧ 389 + 1 = 390 := ⟨by decide +kernel, rfl⟩
theorem dL_sound_390 : decode cL_sound 390 = .ok (.aload_n 0, 1) ∧ 390 + 1 = 391 := ⟨by decide +kernel, rfl⟩
theorem dL_sound_391 : decode cL_sound 391 = .ok (.iload 7, 2) ∧ 391 + 2 = 393 := ⟨by decide +kernel, rfl⟩
theorem dL_sound_393 : decode cL_sound 393 = .ok (.bipush 6, 2) ∧ 393 + 2 = 395 := ⟨by decide +kernel, rfl⟩
theorem dL_sound_395 : decode cL_sound 395 = .ok (.invokevirtual 27, 3) ∧ 395 + 3 = 398 := ⟨by decide +kernel, rfl⟩
theorem dL_sound_398 : decode cL_sound 398 = .ok (.invokevirtual 33, 3) ∧ 398 + 3 = 401 := ⟨by decide +kernel, rfl⟩
theorem dL_sound_401 : decode cL_sound 401 = .ok (.bipush (-6), 2) ∧ 401 + 2 = 403 := ⟨by decide +kernel, rfl⟩
theorem dL_sound_403 : decode cL_sound 403 = .ok (.if_icmp .ne 36, 3) ∧ 403 + 3 = 406 ∧ ((403 : Nat) : Int) + (36) = ((439 : Nat) : Int) := ⟨by decide +kernel, rfl, rfl⟩
theorem dL_sound_406 : decode cL_sound 406 = .ok (.aload_n 0, 1) ∧ 406 + 1 = 407 := ⟨by decide +kernel, rfl⟩
theorem dL_sound_407 : decode cL_sound 407 = .ok (.iload_n 1, 1) ∧ 407 + 1 = 408 := ⟨by decide +kernel, rfl⟩
theorem dL_sound_408 : decode cL_sound 408 = .ok (.aload_n 0, 1) ∧ 408 + 1 = 409 := ⟨by decide +kernel, rfl⟩
theorem dL_sound_409 : decode cL_sound 409 = .ok (.iload 7, 2) ∧ 409 + 2 = 411 := ⟨by decide +kernel, rfl⟩
theorem dL_sound_411 : decode cL_sound 411 = .ok (.bipush 6, 2) ∧ 411 + 2 = 413 := ⟨by decide +kernel, rfl⟩
theorem dL_sound_413 : decode cL_sound 413 = .ok (.invokevirtual 27, 3) ∧ 413 + 3 = 416 := ⟨by decide +kernel, rfl⟩
theorem dL_sound_416 : decode cL_sound 416 = .ok (.iconst 1, 1) ∧ 416 + 1 = 417 := ⟨by decide +kernel, rfl⟩
theorem dL_sound_417 : decode cL_sound 417 = .ok (.isub, 1) ∧ 417 + 1 = 418 := ⟨by decide +kernel, rfl⟩
theorem dL_sound_418 : decode cL_sound 418 = .ok (.invokevirtual 33, 3) ∧ 418 + 3 = 421 := ⟨by decide +kernel, rfl⟩
theorem dL_sound_421 : decode cL_sound 421 = .ok (.ifCond .lt 18, 3) ∧ 421 + 3 = 424 ∧ ((421 : Nat) : Int) + (18) = ((439 : Nat) : Int) := ⟨by decide +kernel, rfl, rfl⟩
theorem dL_sound_424 : decode cL_sound 424 = .ok (.aload_n 0, 1) ∧ 424 + 1 = 425 := ⟨by decide +kernel, rfl⟩
theorem dL_sound_425 : decode cL_sound 425 = .ok (.iload_n 1, 1) ∧ 425 + 1 = 426 := ⟨by decide +kernel, rfl⟩
theorem dL_sound_426 : decode cL_sound 426 = .ok (.iconst (-1), 1) ∧ 426 + 1 = 427 := ⟨by decide +kernel, rfl⟩
theorem dL_sound_427 : decode cL_sound 427 = .ok (.invokevirtual 33, 3) ∧ 427 + 3 = 430 := ⟨by decide +kernel, rfl⟩
theorem dL_sound_430 : decode cL_sound 430 = .ok (.bipush (-3), 2) ∧ 430 + 2 = 432 := ⟨by decide +kernel, rfl⟩
theorem dL_sound_432 : decode cL_sound 432 = .ok (.if_icmp .ne 7, 3) ∧ 432 + 3 = 435 ∧ ((432 : Nat) : Int) + (7) = ((439 : Nat) : Int) := ⟨by decide +kernel, rfl, rfl⟩
theorem dL_sound_435 : decode cL_sound 435 = .ok (.iconst 1, 1) ∧ 435 + 1 = 436 := ⟨by decide +kernel, rfl⟩
theorem dL_sound_436 : decode cL_sound 436 = .ok (.goto 4, 3) ∧ 436 + 3 = 439 ∧ ((436 : Nat) : Int) + (4) = ((440 : Nat) : Int) := ⟨by decide +kernel, rfl, rfl⟩
theorem dL_sound_439 : decode cL_sound 439 = .ok (.iconst 0, 1) ∧ 439 + 1 = 440 := ⟨by decide +kernel, rfl⟩
theorem dL_sound_440 : decode cL_sound 440 = .ok (.ireturn, 1) ∧ 440 + 1 = 441 := ⟨by decide +kernel, rfl⟩
theorem dL_nodes_0 : decode cL_nodes 0 = .ok (.iconst 0, 1) ∧ 0 + 1 = 1 := ⟨by decide +kernel, rfl⟩
theorem dL_nodes_1 : decode cL_nodes 1 = .ok (.istore_n 1, 1) ∧ 1 + 1 = 2 := ⟨by decide +kernel, rfl⟩
theorem dL_nodes_2 : decode cL_nodes 2 = .ok (.iconst 0, 1) ∧ 2 + 1 = 3 := ⟨by decide +kernel, rfl⟩
theorem dL_nodes_3 : decode cL_nodes 3 = .ok (.istore_n 2, 1) ∧ 3 + 1 = 4 := ⟨by decide +kernel, rfl⟩
theorem dL_nodes_4 : decode cL_nodes 4 = .ok (.iconst 0, 1) ∧ 4 + 1 = 5 := ⟨by decide +kernel, rfl⟩
theorem dL_nodes_5 : decode cL_nodes 5 = .ok (.istore_n 3, 1) ∧ 5 + 1 = 6 := ⟨by decide +kernel, rfl⟩
theorem dL_nodes_6 : decode cL_nodes 6 = .ok (.iconst 0, 1) ∧ 6 + 1 = 7 := ⟨by decide +kernel, rfl⟩
theorem dL_nodes_7 : decode cL_nodes 7 = .ok (.istore 4, 2) ∧ 7 + 2 = 9 := ⟨by decide +kernel, rfl⟩
theorem dL_nodes_9 : decode cL_nodes 9 = .ok (.iconst 0, 1) ∧ 9 + 1 = 10 := ⟨by decide +kernel, rfl⟩
theorem dL_nodes_10 : decode cL_nodes 10 = .ok (.istore 5, 2) ∧ 10 + 2 = 12 := ⟨by decide +kernel, rfl⟩
theorem dL_nodes_12 : decode cL_nodes 12 = .ok (.aload_n 0, 1) ∧ 12 + 1 = 13 := ⟨by decide +kernel, rfl⟩
theorem dL_nodes_13 : decode cL_nodes 13 = .ok (.iconst 1, 1) ∧ 13 + 1 = 14 := ⟨by decide +kernel, rfl⟩
theorem dL_nodes_14 : decode cL_nodes 14 = .ok (.invokevirtual 13, 3) ∧ 14 + 3 = 17 := ⟨by decide +kernel, rfl⟩
theorem dL_nodes_17 : decode cL_nodes 17 = .ok (.istore 6, 2) ∧ 17 + 2 = 19 := ⟨by decide +kernel, rfl⟩
theorem dL_nodes_19 : decode cL_nodes 19 = .ok (.aload_n 0, 1) ∧ 19 + 1 = 20 := ⟨by decide +kernel, rfl⟩
theorem dL_nodes_20 : decode cL_nodes 20 = .ok (.iconst 3, 1) ∧ 20 + 1 = 21 := ⟨by decide +kernel, rfl⟩
theorem dL_nodes_21 : decode cL_nodes 21 = .ok (.invokevirtual 13, 3) ∧ 21 + 3 = 24 := ⟨by decide +kernel, rfl⟩
theorem dL_nodes_24 : decode cL_nodes 24 = .ok (.istore 7, 2) ∧ 24 + 2 = 26 := ⟨by decide +kernel, rfl⟩
theorem dL_nodes_26 : decode cL_nodes 26 = .ok (.iconst 1, 1) ∧ 26 + 1 = 27 := ⟨by decide +kernel, rfl⟩
theorem dL_nodes_27 : decode cL_nodes 27 = .ok (.istore 8, 2) ∧ 27 + 2 = 29 := ⟨by decide +kernel, rfl⟩
theorem dL_nodes_29 : decode cL_nodes 29 = .ok (.iload 8, 2) ∧ 29 + 2 = 31 := ⟨by decide +kernel, rfl⟩
theorem dL_nodes_31 : decode cL_nodes 31 = .ok (.iload 6, 2) ∧ 31 + 2 = 33 := ⟨by decide +kernel, rfl⟩
theorem dL_nodes_33 : decode cL_nodes 33 = .ok (.if_icmp .gt 164, 3) ∧ 33 + 3 = 36 ∧ ((33 : Nat) : Int) + (164) = ((197 : Nat) : Int) := ⟨by decide +kernel, rfl, rfl⟩
theorem dL_nodes_36 : decode cL_nodes 36 = .ok (.aload_n 0, 1) ∧ 36 + 1 = 37 := ⟨by decide +kernel, rfl⟩
theorem dL_nodes_37 : decode cL_nodes 37 = .ok (.iload 8, 2) ∧ 37 + 2 = 39 := ⟨by decide +kernel, rfl⟩
theorem dL_nodes_39 : decode cL_nodes 39 = .ok (.iconst 0, 1) ∧ 39 + 1 = 40 := ⟨by decide +kernel, rfl⟩
theorem dL_nodes_40 : decode cL_nodes 40 = .ok (.invokevirtual 27, 3) ∧ 40 + 3 = 43 := ⟨by decide +kernel, rfl⟩
theorem dL_nodes_43 : decode cL_nodes 43 = .ok (.bipush (-2), 2) ∧ 43 + 2 = 45 := ⟨by decide +kernel, rfl⟩
theorem dL_nodes_45 : decode cL_nodes 45 = .ok (.if_icmp .ne 6, 3) ∧ 45 + 3 = 48 ∧ ((45 : Nat) : Int) + (6) = ((51 : Nat) : Int) := ⟨by decide +kernel, rfl, rfl⟩
theorem dL_nodes_48 : decode cL_nodes 48 = .ok (.goto 143, 3) ∧ 48 + 3 = 51 ∧ ((48 : Nat) : Int) + (143) = ((191 : Nat) : Int) := ⟨by decide +kernel, rfl, rfl⟩
theorem dL_nodes_51 : decode cL_nodes 51 = .ok (.iinc 1 1, 3) ∧ 51 + 3 = 54 := ⟨by decide +kernel, rfl⟩
theorem dL_nodes_54 : decode cL_nodes 54 = .ok (.iload_n 2, 1) ∧ 54 + 1 = 55 := ⟨by decide +kernel, rfl⟩
theorem dL_nodes_55 : decode cL_nodes 55 = .ok (.aload_n 0, 1) ∧ 55 + 1 = 56 := ⟨by decide +kernel, rfl⟩
theorem dL_nodes_56 : decode cL_nodes 56 = .ok (.iload 8, 2) ∧ 56 + 2 = 58 := ⟨by decide +kernel, rfl⟩
theorem dL_nodes_58 : decode cL_nodes 58 = .ok (.iconst 1, 1) ∧ 58 + 1 = 59 := ⟨by decide +kernel, rfl⟩
theorem dL_nodes_59 : decode cL_nodes 59 = .ok (.invokevirtual 27, 3) ∧ 59 + 3 = 62 := ⟨by decide +kernel, rfl⟩
theorem dL_nodes_62 : decode cL_nodes 62 = .ok (.iadd, 1) ∧ 62 + 1 = 63 := ⟨by decide +kernel, rfl⟩
theorem dL_nodes_63 : decode cL_nodes 63 = .ok (.istore_n 2, 1) ∧ 63 + 1 = 64 := ⟨by decide +kernel, rfl⟩
theorem dL_nodes_64 : decode cL_nodes 64 = .ok (.iload_n 3, 1) ∧ 64 + 1 = 65 := ⟨by decide +kernel, rfl⟩
theorem dL_nodes_65 : decode cL_nodes 65 = .ok (.aload_n 0, 1) ∧ 65 + 1 = 66 := ⟨by decide +kernel, rfl⟩
theorem dL_nodes_66 : decode cL_nodes 66 = .ok (.iload 8, 2) ∧ 66 + 2 = 68 := ⟨by decide +kernel, rfl⟩
theorem dL_nodes_68 : decode cL_nodes 68 = .ok (.iconst 2, 1) ∧ 68 + 1 = 69 := ⟨by decide +kernel, rfl⟩
theorem dL_nodes_69 : decode cL_nodes 69 = .ok (.invokevirtual 27, 3) ∧ 69 + 3 = 72 := ⟨by decide +kernel, rfl⟩
theorem dL_nodes_72 : decode cL_nodes 72 = .ok (.iadd, 1) ∧ 72 + 1 = 73 := ⟨by decide +kernel, rfl⟩
theorem dL_nodes_73 : decode cL_nodes 73 = .ok (.istore_n 3, 1) ∧ 73 + 1 = 74 := ⟨by decide +kernel, rfl⟩
theorem dL_nodes_74 : decode cL_nodes 74 = .ok (.iload 4, 2) ∧ 74 + 2 = 76 := ⟨by decide +kernel, rfl⟩
theorem dL_nodes_76 : decode cL_nodes 76 = .ok (.aload_n 0, 1) ∧ 76 + 1 = 77 := ⟨by decide +kernel, rfl⟩
theorem dL_nodes_77 : decode cL_nodes 77 = .ok (.iload 8, 2) ∧ 77 + 2 = 79 := ⟨by decide +kernel, rfl⟩
theorem dL_nodes_79 : decode cL_nodes 79 = .ok (.iconst 0, 1) ∧ 79 + 1 = 80 := ⟨by decide +kernel, rfl⟩
theorem dL_nodes_80 : decode cL_nodes 80 = .ok (.invokevirtual 27, 3) ∧ 80 + 3 = 83 := ⟨by decide +kernel, rfl⟩
theorem dL_nodes_83 : decode cL_nodes 83 = .ok (.iconst 1, 1) ∧ 83 + 1 = 84 := ⟨by decide +kernel, rfl⟩
theorem dL_nodes_84 : decode cL_nodes 84 = .ok (.if_icmp .le 7, 3) ∧ 84 + 3 = 87 ∧ ((84 : Nat) : Int) + (7) = ((91 : Nat) : Int) := ⟨by decide +kernel, rfl, rfl⟩
theorem dL_nodes_87 : decode cL_nodes 87 = .ok (.iconst 1, 1) ∧ 87 + 1 = 88 := ⟨by decide +kernel, rfl⟩
theorem dL_nodes_88 : decode cL_nodes 88 = .ok (.goto 4, 3) ∧ 88 + 3 = 91 ∧ ((88 : Nat) : Int) + (4) = ((92 : Nat) : Int) := ⟨by decide +kernel, rfl, rfl⟩
theorem dL_nodes_91 : decode cL_nodes 91 = .ok (.iconst 0, 1) ∧ 91 + 1 = 92 := ⟨by decide +kernel, rfl⟩
theorem dL_nodes_92 : decode cL_nodes 92 = .ok (.iadd, 1) ∧ 92 + 1 = 93 := ⟨by decide +kernel, rfl⟩
theorem dL_nodes_93 : decode cL_nodes 93 = .ok (.istore 4, 2) ∧ 93 + 2 = 95 := ⟨by decide +kernel, rfl⟩
theorem dL_nodes_95 : decode cL_nodes 95 = .ok (.aload_n 0, 1) ∧ 95 + 1 = 96 := ⟨by decide +kernel, rfl⟩
theorem dL_nodes_96 : decode cL_nodes 96 = .ok (.iload 8, 2) ∧ 96 + 2 = 98 := ⟨by decide +kernel, rfl⟩
theorem dL_nodes_98 : decode cL_nodes 98 = .ok (.iconst 0, 1) ∧ 98 + 1 = 99 := ⟨by decide +kernel, rfl⟩
theorem dL_nodes_99 : decode cL_nodes 99 = .ok (.invokevirtual 27, 3) ∧ 99 + 3 = 102 := ⟨by decide +kernel, rfl⟩
theorem dL_nodes_102 : decode cL_nodes 102 = .ok (.iconst 1, 1) ∧ 102 + 1 = 103 := ⟨by decide +kernel, rfl⟩
theorem dL_nodes_103 : decode cL_nodes 103 = .ok (.if_icmp .lt 86, 3) ∧ 103 + 3 = 106 ∧ ((103 : Nat) : Int) + (86) = ((189 : Nat) : Int) := ⟨by decide +kernel, rfl, rfl⟩
theorem dL_nodes_106 : decode cL_nodes 106 = .ok (.aload_n 0, 1) ∧ 106 + 1 = 107 := ⟨by decide +kernel, rfl⟩
theorem dL_nodes_107 : decode cL_nodes 107 = .ok (.iload 8, 2) ∧ 107 + 2 = 109 := ⟨by decide +kernel, rfl⟩
theorem dL_nodes_109 : decode cL_nodes 109 = .ok (.iconst 1, 1) ∧ 109 + 1 = 110 := ⟨by decide +kernel, rfl⟩
theorem dL_nodes_110 : decode cL_nodes 110 = .ok (.invokevirtual 27, 3) ∧ 110 + 3 = 113 := ⟨by decide +kernel, rfl⟩
theorem dL_nodes_113 : decode cL_nodes 113 = .ok (.aload_n 0, 1) ∧ 113 + 1 = 114 := ⟨by decide +kernel, rfl⟩
theorem dL_nodes_114 : decode cL_nodes 114 = .ok (.iload 8, 2) ∧ 114 + 2 = 116 := ⟨by decide +kernel, rfl⟩
theorem dL_nodes_116 : decode cL_nodes 116 = .ok (.iconst 0, 1) ∧ 116 + 1 = 117 := ⟨by decide +kernel, rfl⟩
theorem dL_nodes_117 : decode cL_nodes 117 = .ok (.invokevirtual 27, 3) ∧ 117 + 3 = 120 := ⟨by decide +kernel, rfl⟩
theorem dL_nodes_120 : decode cL_nodes 120 = .ok (.if_icmp .lt 69, 3) ∧ 120 + 3 = 123 ∧ ((120 : Nat) : Int) + (69) = ((189 : Nat) : Int) := ⟨by decide +kernel, rfl, rfl⟩
theorem dL_nodes_123 : decode cL_nodes 123 = .ok (.aload_n 0, 1) ∧ 123 + 1 = 124 := ⟨by decide +kernel, rfl⟩
theorem dL_nodes_124 : decode cL_nodes 124 = .ok (.iload 8, 2) ∧ 124 + 2 = 126 := ⟨by decide +kernel, rfl⟩
theorem dL_nodes_126 : decode cL_nodes 126 = .ok (.iconst 5, 1) ∧ 126 + 1 = 127 := ⟨by decide +kernel, rfl⟩
theorem dL_nodes_127 : decode cL_nodes 127 = .ok (.invokevirtual 27, 3) ∧ 127 + 3 = 130 := ⟨by decide +kernel, rfl⟩
theorem dL_nodes_130 : decode cL_nodes 130 = .ok (.bipush (-6), 2) ∧ 130 + 2 = 132 := ⟨by decide +kernel, rfl⟩
theorem dL_nodes_132 : decode cL_nodes 132 = .ok (.if_icmp .ne 7, 3) ∧ 132 + 3 = 135 ∧ ((132 : Nat) : Int) + (7) = ((139 : Nat) : Int) := ⟨by decide +kernel, rfl, rfl⟩
theorem dL_nodes_135 : decode cL_nodes 135 = .ok (.iconst 1, 1) ∧ 135 + 1 = 136 := ⟨by decide +kernel, rfl⟩
theorem dL_nodes_136 : decode cL_nodes 136 = .ok (.goto 4, 3) ∧ 136 + 3 = 139 ∧ ((136 : Nat) : Int) + (4) = ((140 : Nat) : Int) := ⟨by decide +kernel, rfl, rfl⟩
theorem dL_nodes_139 : decode cL_nodes 139 = .ok (.iconst 0, 1) ∧ 139 + 1 = 140 := ⟨by decide +kernel, rfl⟩
theorem dL_nodes_140 : decode cL_nodes 140 = .ok (.aload_n 0, 1) ∧ 140 + 1 = 141 := ⟨by decide +kernel, rfl⟩
theorem dL_nodes_141 : decode cL_nodes 141 = .ok (.iload 8, 2) ∧ 141 + 2 = 143 := ⟨by decide +kernel, rfl⟩
theorem dL_nodes_143 : decode cL_nodes 143 = .ok (.iconst 2, 1) ∧ 143 + 1 = 144 := ⟨by decide +kernel, rfl⟩
theorem dL_nodes_144 : decode cL_nodes 144 = .ok (.invokevirtual 27, 3) ∧ 144 + 3 = 147 := ⟨by decide +kernel, rfl⟩
theorem dL_nodes_147 : decode cL_nodes 147 = .ok (.ifCond .ne 7, 3) ∧ 147 + 3 = 150 ∧ ((147 : Nat) : Int) + (7) = ((154 : Nat) : Int) := ⟨by decide +kernel, rfl, rfl⟩
theorem dL_nodes_150 : decode cL_nodes 150 = .ok (.iconst 1, 1) ∧ 150 + 1 = 151 := ⟨by decide +kernel, rfl⟩
theorem dL_nodes_151 : decode cL_nodes 151 = .ok (.goto 4, 3) ∧ 151 + 3 = 154 ∧ ((151 : Nat) : Int) + (4) = ((155 : Nat) : Int) := ⟨by decide +kernel, rfl, rfl⟩
theorem dL_nodes_154 : decode cL_nodes 154 = .ok (.iconst 0, 1) ∧ 154 + 1 = 155 := ⟨by decide +kernel, rfl⟩
theorem dL_nodes_155 : decode cL_nodes 155 = .ok (.if_icmp .ne 34, 3) ∧ 155 + 3 = 158 ∧ ((155 : Nat) : Int) + (34) = ((189 : Nat) : Int) := ⟨by decide +kernel, rfl, rfl⟩
theorem dL_nodes_158 : decode cL_nodes 158 = .ok (.aload_n 0, 1) ∧ 158 + 1 = 159 := ⟨by decide +kernel, rfl⟩
theorem dL_nodes_159 : decode cL_nodes 159 = .ok (.iload 8, 2) ∧ 159 + 2 = 161 := ⟨by decide +kernel, rfl⟩
theorem dL_nodes_161 : decode cL_nodes 161 = .ok (.bipush 7, 2) ∧ 161 + 2 = 163 := ⟨by decide +kernel, rfl⟩
theorem dL_nodes_163 : decode cL_nodes 163 = .ok (.invokevirtual 27, 3) ∧ 163 + 3 = 166 := ⟨by decide +kernel, rfl⟩
theorem dL_nodes_166 : decode cL_nodes 166 = .ok (.aload_n 0, 1) ∧ 166 + 1 = 167 := ⟨by decide +kernel, rfl⟩
theorem dL_nodes_167 : decode cL_nodes 167 = .ok (.iload 8, 2) ∧ 167 + 2 = 169 := ⟨by decide +kernel, rfl⟩
theorem dL_nodes_169 : decode cL_nodes 169 = .ok (.iconst 3, 1) ∧ 169 + 1 = 170 := ⟨by decide +kernel, rfl⟩
theorem dL_nodes_170 : decode cL_nodes 170 = .ok (.invokevirtual 27, 3) ∧ 170 + 3 = 173 := ⟨by decide +kernel, rfl⟩
theorem dL_nodes_173 : decode cL_nodes 173 = .ok (.if_icmp .lt 16, 3) ∧ 173 + 3 = 176 ∧ ((173 : Nat) : Int) + (16) = ((189 : Nat) : Int) := ⟨by decide +kernel, rfl, rfl⟩
theorem dL_nodes_176 : decode cL_nodes 176 = .ok (.aload_n 0, 1) ∧ 176 + 1 = 177 := ⟨by decide +kernel, rfl⟩
theorem dL_nodes_177 : decode cL_nodes 177 = .ok (.iload 8, 2) ∧ 177 + 2 = 179 := ⟨by decide +kernel, rfl⟩
theorem dL_nodes_179 : decode cL_nodes 179 = .ok (.bipush 8, 2) ∧ 179 + 2 = 181 := ⟨by decide +kernel, rfl⟩
theorem dL_nodes_181 : decode cL_nodes 181 = .ok (.invokevirtual 27, 3) ∧ 181 + 3 = 184 := ⟨by decide +kernel, rfl⟩
theorem dL_nodes_184 : decode cL_nodes 184 = .ok (.bipush (-3), 2) ∧ 184 + 2 = 186 := ⟨by decide +kernel, rfl⟩
theorem dL_nodes_186 : decode cL_nodes 186 = .ok (.if_icmp .eq 5, 3) ∧ 186 + 3 = 189 ∧ ((186 : Nat) : Int) + (5) = ((191 : Nat) : Int) := ⟨by decide +kernel, rfl, rfl⟩
theorem dL_nodes_189 : decode cL_nodes 189 = .ok (.iconst 0, 1) ∧ 189 + 1 = 190 := ⟨by decide +kernel, rfl⟩
theorem dL_nodes_190 : decode cL_nodes 190 = .ok (.ireturn, 1) ∧ 190 + 1 = 191 := ⟨by decide +kernel, rfl⟩
theorem dL_nodes_191 : decode cL_nodes 191 = .ok (.iinc 8 1, 3) ∧ 191 + 3 = 194 := ⟨by decide +kernel, rfl⟩
theorem dL_nodes_194 : decode cL_nodes 194 = .ok (.goto (-165), 3) ∧ 194 + 3 = 197 ∧ ((194 : Nat) : Int) + (-165) = ((29 : Nat) : Int) := ⟨by decide +kernel, rfl, rfl⟩
theorem dL_nodes_197 : decode cL_nodes 197 = .ok (.iconst 0, 1) ∧ 197 + 1 = 198 := ⟨by decide +kernel, rfl⟩
theorem dL_nodes_198 : decode cL_nodes 198 = .ok (.istore 8, 2) ∧ 198 + 2 = 200 := ⟨by decide +kernel, rfl⟩
theorem dL_nodes_200 : decode cL_nodes 200 = .ok (.iconst 0, 1) ∧ 200 + 1 = 201 := ⟨by decide +kernel, rfl⟩
theorem dL_nodes_201 : decode cL_nodes 201 = .ok (.istore 9, 2) ∧ 201 + 2 = 203 := ⟨by decide +kernel, rfl⟩
theorem dL_nodes_203 : decode cL_nodes 203 = .ok (.iload 9, 2) ∧ 203 + 2 = 205 := ⟨by decide +kernel, rfl⟩
theorem dL_nodes_205 : decode cL_nodes 205 = .ok (.iload 7, 2) ∧ 205 + 2 = 207 := ⟨by decide +kernel, rfl⟩
theorem dL_nodes_207 : decode cL_nodes 207 = .ok (.if_icmp .ge 42, 3) ∧ 207 + 3 = 210 ∧ ((207 : Nat) : Int) + (42) = ((249 : Nat) : Int) := ⟨by decide +kernel, rfl, rfl⟩
theorem dL_nodes_210 : decode cL_nodes 210 = .ok (.iload 5, 2) ∧ 210 + 2 = 212 := ⟨by decide +kernel, rfl⟩
theorem dL_nodes_212 : decode cL_nodes 212 = .ok (.aload_n 0, 1) ∧ 212 + 1 = 213 := ⟨by decide +kernel, rfl⟩
theorem dL_nodes_213 : decode cL_nodes 213 = .ok (.iload 9, 2) ∧ 213 + 2 = 215 := ⟨by decide +kernel, rfl⟩
theorem dL_nodes_215 : decode cL_nodes 215 = .ok (.iconst 1, 1) ∧ 215 + 1 = 216 := ⟨by decide +kernel, rfl⟩
theorem dL_nodes_216 : decode cL_nodes 216 = .ok (.invokevirtual 21, 3) ∧ 216 + 3 = 219 := ⟨by decide +kernel, rfl⟩
theorem dL_nodes_219 : decode cL_nodes 219 = .ok (.iconst 1, 1) ∧ 219 + 1 = 220 := ⟨by decide +kernel, rfl⟩
theorem dL_nodes_220 : decode cL_nodes 220 = .ok (.if_icmp .ne 7, 3) ∧ 220 + 3 = 223 ∧ ((220 : Nat) : Int) + (7) = ((227 : Nat) : Int) := ⟨by decide +kernel, rfl, rfl⟩
theorem dL_nodes_223 : decode cL_nodes 223 = .ok (.iconst 1, 1) ∧ 223 + 1 = 224 := ⟨by decide +kernel, rfl⟩
theorem dL_nodes_224 : decode cL_nodes 224 = .ok (.goto 4, 3) ∧ 224 + 3 = 227 ∧ ((224 : Nat) : Int) + (4) = ((228 : Nat) : Int) := ⟨by decide +kernel, rfl, rfl⟩
theorem dL_nodes_227 : decode cL_nodes 227 = .ok (.iconst 0, 1) ∧ 227 + 1 = 228 := ⟨by decide +kernel, rfl⟩
theorem dL_nodes_228 : decode cL_nodes 228 = .ok (.iadd, 1) ∧ 228 + 1 = 229 := ⟨by decide +kernel, rfl⟩
theorem dL_nodes_229 : decode cL_nodes 229 = .ok (.istore 5, 2) ∧ 229 + 2 = 231 := ⟨by decide +kernel, rfl⟩
theorem dL_nodes_231 : decode cL_nodes 231 = .ok (.iload 8, 2) ∧ 231 + 2 = 233 := ⟨by decide +kernel, rfl⟩
theorem dL_nodes_233 : decode cL_nodes 233 = .ok (.aload_n 0, 1) ∧ 233 + 1 = 234 := ⟨by decide +kernel, rfl⟩
theorem dL_nodes_234 : decode cL_nodes 234 = .ok (.iload 9, 2) ∧ 234 + 2 = 236 := ⟨by decide +kernel, rfl⟩
theorem dL_nodes_236 : decode cL_nodes 236 = .ok (.iconst 4, 1) ∧ 236 + 1 = 237 := ⟨by decide +kernel, rfl⟩
theorem dL_nodes_237 : decode cL_nodes 237 = .ok (.invokevirtual 21, 3) ∧ 237 + 3 = 240 := ⟨by decide +kernel, rfl⟩
theorem dL_nodes_240 : decode cL_nodes 240 = .ok (.iadd, 1) ∧ 240 + 1 = 241 := ⟨by decide +kernel, rfl⟩
theorem dL_nodes_241 : decode cL_nodes 241 = .ok (.istore 8, 2) ∧ 241 + 2 = 243 := ⟨by decide +kernel, rfl⟩
theorem dL_nodes_243 : decode cL_nodes 243 = .ok (.iinc 9 1, 3) ∧ 243 + 3 = 246 := ⟨by decide +kernel, rfl⟩
theorem dL_nodes_246 : decode cL_nodes 246 = .ok (.goto (-43), 3) ∧ 246 + 3 = 249 ∧ ((246 : Nat) : Int) + (-43) = ((203 : Nat) : Int) := ⟨by decide +kernel, rfl, rfl⟩
theorem dL_nodes_249 : decode cL_nodes 249 = .ok (.aload_n 0, 1) ∧ 249 + 1 = 250 := ⟨by decide +kernel, rfl⟩
theorem dL_nodes_250 : decode cL_nodes 250 = .ok (.iconst 0, 1) ∧ 250 + 1 = 251 := ⟨by decide +kernel, rfl⟩
theorem dL_nodes_251 : decode cL_nodes 251 = .ok (.invokevirtual 13, 3) ∧ 251 + 3 = 254 := ⟨by decide +kernel, rfl⟩
theorem dL_nodes_254 : decode cL_nodes 254 = .ok (.iload_n 1, 1) ∧ 254 + 1 = 255 := ⟨by decide +kernel, rfl⟩
theorem dL_nodes_255 : decode cL_nodes 255 = .ok (.if_icmp .ne 118, 3) ∧ 255 + 3 = 258 ∧ ((255 : Nat) : Int) + (118) = ((373 : Nat) : Int) := ⟨by decide +kernel, rfl, rfl⟩
theorem dL_nodes_258 : decode cL_nodes 258 = .ok (.aload_n 0, 1) ∧ 258 + 1 = 259 := ⟨by decide +kernel, rfl⟩
theorem dL_nodes_259 : decode cL_nodes 259 = .ok (.iconst 2, 1) ∧ 259 + 1 = 260 := ⟨by decide +kernel, rfl⟩
theorem dL_nodes_260 : decode cL_nodes 260 = .ok (.invokevirtual 13, 3) ∧ 260 + 3 = 263 := ⟨by decide +kernel, rfl⟩
theorem dL_nodes_263 : decode cL_nodes 263 = .ok (.iload_n 2, 1) ∧ 263 + 1 = 264 := ⟨by decide +kernel, rfl⟩
theorem dL_nodes_264 : decode cL_nodes 264 = .ok (.if_icmp .ne 109, 3) ∧ 264 + 3 = 267 ∧ ((264 : Nat) : Int) + (109) = ((373 : Nat) : Int) := ⟨by decide +kernel, rfl, rfl⟩
theorem dL_nodes_267 : decode cL_nodes 267 = .ok (.iload 7, 2) ∧ 267 + 2 = 269 := ⟨by decide +kernel, rfl⟩
theorem dL_nodes_269 : decode cL_nodes 269 = .ok (.iload_n 3, 1) ∧ 269 + 1 = 270 := ⟨by decide +kernel, rfl⟩
theorem dL_nodes_270 : decode cL_nodes 270 = .ok (.if_icmp .ne 103, 3) ∧ 270 + 3 = 273 ∧ ((270 : Nat) : Int) + (103) = ((373 : Nat) : Int) := ⟨by decide +kernel, rfl, rfl⟩
theorem dL_nodes_273 : decode cL_nodes 273 = .ok (.aload_n 0, 1) ∧ 273 + 1 = 274 := ⟨by decide +kernel, rfl⟩
theorem dL_nodes_274 : decode cL_nodes 274 = .ok (.iconst 5, 1) ∧ 274 + 1 = 275 := ⟨by decide +kernel, rfl⟩
theorem dL_nodes_275 : decode cL_nodes 275 = .ok (.invokevirtual 13, 3) ∧ 275 + 3 = 278 := ⟨by decide +kernel, rfl⟩
theorem dL_nodes_278 : decode cL_nodes 278 = .ok (.iload 4, 2) ∧ 278 + 2 = 280 := ⟨by decide +kernel, rfl⟩
theorem dL_nodes_280 : decode cL_nodes 280 = .ok (.if_icmp .ne 93, 3) ∧ 280 + 3 = 283 ∧ ((280 : Nat) : Int) + (93) = ((373 : Nat) : Int) := ⟨by decide +kernel, rfl, rfl⟩
theorem dL_nodes_283 : decode cL_nodes 283 = .ok (.iload_n 2, 1) ∧ 283 + 1 = 284 := ⟨by decide +kernel, rfl⟩
theorem dL_nodes_284 : decode cL_nodes 284 = .ok (.bipush 120, 2) ∧ 284 + 2 = 286 := ⟨by decide +kernel, rfl⟩
theorem dL_nodes_286 : decode cL_nodes 286 = .ok (.if_icmp .gt 87, 3) ∧ 286 + 3 = 289 ∧ ((286 : Nat) : Int) + (87) = ((373 : Nat) : Int) := ⟨by decide +kernel, rfl, rfl⟩
theorem dL_nodes_289 : decode cL_nodes 289 = .ok (.iload 8, 2) ∧ 289 + 2 = 291 := ⟨by decide +kernel, rfl⟩
theorem dL_nodes_291 : decode cL_nodes 291 = .ok (.aload_n 0, 1) ∧ 291 + 1 = 292 := ⟨by decide +kernel, rfl⟩
theorem dL_nodes_292 : decode cL_nodes 292 = .ok (.iconst 4, 1) ∧ 292 + 1 = 293 := ⟨by decide +kernel, rfl⟩
theorem dL_nodes_293 : decode cL_nodes 293 = .ok (.invokevirtual 13, 3) ∧ 293 + 3 = 296 := ⟨by decide +kernel, rfl⟩
theorem dL_nodes_296 : decode cL_nodes 296 = .ok (.if_icmp .gt 77, 3) ∧ 296 + 3 = 299 ∧ ((296 : Nat) : Int) + (77) = ((373 : Nat) : Int) := ⟨by decide +kernel, rfl, rfl⟩
theorem dL_nodes_299 : decode cL_nodes 299 = .ok (.iload_n 1, 1) ∧ 299 + 1 = 300 := ⟨by decide +kernel, rfl⟩
theorem dL_nodes_300 : decode cL_nodes 300 = .ok (.ifCond .ne 7, 3) ∧ 300 + 3 = 303 ∧ ((300 : Nat) : Int) + (7) = ((307 : Nat) : Int) := ⟨by decide +kernel, rfl, rfl⟩
theorem dL_nodes_303 : decode cL_nodes 303 = .ok (.iconst 1, 1) ∧ 303 + 1 = 304 := ⟨by decide +kernel, rfl⟩
theorem dL_nodes_304 : decode cL_nodes 304 = .ok (.goto 4, 3) ∧ 304 + 3 = 307 ∧ ((304 : Nat) : Int) + (4) = ((308 : Nat) : Int) := ⟨by decide +kernel, rfl, rfl⟩
theorem dL_nodes_307 : decode cL_nodes 307 = .ok (.iconst 0, 1) ∧ 307 + 1 = 308 := ⟨by decide +kernel, rfl⟩
theorem dL_nodes_308 : decode cL_nodes 308 = .ok (.iload 5, 2) ∧ 308 + 2 = 310 := ⟨by decide +kernel, rfl⟩
theorem dL_nodes_310 : decode cL_nodes 310 = .ok (.ifCond .ne 7, 3) ∧ 310 + 3 = 313 ∧ ((310 : Nat) : Int) + (7) = ((317 : Nat) : Int) := ⟨by decide +kernel, rfl, rfl⟩
theorem dL_nodes_313 : decode cL_nodes 313 = .ok (.iconst 1, 1) ∧ 313 + 1 = 314 := ⟨by decide +kernel, rfl⟩
theorem dL_nodes_314 : decode cL_nodes 314 = .ok (.goto 4, 3) ∧ 314 + 3 = 317 ∧ ((314 : Nat) : Int) + (4) = ((318 : Nat) : Int) := ⟨by decide +kernel, rfl, rfl⟩
theorem dL_nodes_317 : decode cL_nodes 317 = .ok (.iconst 0, 1) ∧ 317 + 1 = 318 := ⟨by decide +kernel, rfl⟩
theorem dL_nodes_318 : decode cL_nodes 318 = .ok (.if_icmp .ne 55, 3) ∧ 318 + 3 = 321 ∧ ((318 : Nat) : Int) + (55) = ((373 : Nat) : Int) := ⟨by decide +kernel, rfl, rfl⟩
theorem dL_nodes_321 : decode cL_nodes 321 = .ok (.aload_n 0, 1) ∧ 321 + 1 = 322 := ⟨by decide +kernel, rfl⟩
theorem dL_nodes_322 : decode cL_nodes 322 = .ok (.iload 6, 2) ∧ 322 + 2 = 324 := ⟨by decide +kernel, rfl⟩
theorem dL_nodes_324 : decode cL_nodes 324 = .ok (.iconst 1, 1) ∧ 324 + 1 = 325 := ⟨by decide +kernel, rfl⟩
theorem dL_nodes_325 : decode cL_nodes 325 = .ok (.iadd, 1) ∧ 325 + 1 = 326 := ⟨by decide +kernel, rfl⟩
theorem dL_nodes_326 : decode cL_nodes 326 = .ok (.iconst 0, 1) ∧ 326 + 1 = 327 := ⟨by decide +kernel, rfl⟩
theorem dL_nodes_327 : decode cL_nodes 327 = .ok (.invokevirtual 27, 3) ∧ 327 + 3 = 330 := ⟨by decide +kernel, rfl⟩
theorem dL_nodes_330 : decode cL_nodes 330 = .ok (.bipush (-2), 2) ∧ 330 + 2 = 332 := ⟨by decide +kernel, rfl⟩
theorem dL_nodes_332 : decode cL_nodes 332 = .ok (.if_icmp .ne 41, 3) ∧ 332 + 3 = 335 ∧ ((332 : Nat) : Int) + (41) = ((373 : Nat) : Int) := ⟨by decide +kernel, rfl, rfl⟩
theorem dL_nodes_335 : decode cL_nodes 335 = .ok (.aload_n 0, 1) ∧ 335 + 1 = 336 := ⟨by decide +kernel, rfl⟩
theorem dL_nodes_336 : decode cL_nodes 336 = .ok (.iconst 0, 1) ∧ 336 + 1 = 337 := ⟨by decide +kernel, rfl⟩
theorem dL_nodes_337 : decode cL_nodes 337 = .ok (.iconst 0, 1) ∧ 337 + 1 = 338 := ⟨by decide +kernel, rfl⟩
theorem dL_nodes_338 : decode cL_nodes 338 = .ok (.invokevirtual 27, 3) ∧ 338 + 3 = 341 := ⟨by decide +kernel, rfl⟩
theorem dL_nodes_341 : decode cL_nodes 341 = .ok (.bipush (-2), 2) ∧ 341 + 2 = 343 := ⟨by decide +kernel, rfl⟩
theorem dL_nodes_343 : decode cL_nodes 343 = .ok (.if_icmp .ne 30, 3) ∧ 343 + 3 = 346 ∧ ((343 : Nat) : Int) + (30) = ((373 : Nat) : Int) := ⟨by decide +kernel, rfl, rfl⟩
theorem dL_nodes_346 : decode cL_nodes 346 = .ok (.aload_n 0, 1) ∧ 346 + 1 = 347 := ⟨by decide +kernel, rfl⟩
theorem dL_nodes_347 : decode cL_nodes 347 = .ok (.iload 7, 2) ∧ 347 + 2 = 349 := ⟨by decide +kernel, rfl⟩
theorem dL_nodes_349 : decode cL_nodes 349 = .ok (.iconst 0, 1) ∧ 349 + 1 = 350 := ⟨by decide +kernel, rfl⟩
theorem dL_nodes_350 : decode cL_nodes 350 = .ok (.invokevirtual 21, 3) ∧ 350 + 3 = 353 := ⟨by decide +kernel, rfl⟩
theorem dL_nodes_353 : decode cL_nodes 353 = .ok (.bipush (-2), 2) ∧ 353 + 2 = 355 := ⟨by decide +kernel, rfl⟩
theorem dL_nodes_355 : decode cL_nodes 355 = .ok (.if_icmp .ne 18, 3) ∧ 355 + 3 = 358 ∧ ((355 : Nat) : Int) + (18) = ((373 : Nat) : Int) := ⟨by decide +kernel, rfl, rfl⟩
theorem dL_nodes_358 : decode cL_nodes 358 = .ok (.aload_n 0, 1) ∧ 358 + 1 = 359 := ⟨by decide +kernel, rfl⟩
theorem dL_nodes_359 : decode cL_nodes 359 = .ok (.iconst (-1), 1) ∧ 359 + 1 = 360 := ⟨by decide +kernel, rfl⟩
theorem dL_nodes_360 : decode cL_nodes 360 = .ok (.iconst 0, 1) ∧ 360 + 1 = 361 := ⟨by decide +kernel, rfl⟩
theorem dL_nodes_361 : decode cL_nodes 361 = .ok (.invokevirtual 21, 3) ∧ 361 + 3 = 364 := ⟨by decide +kernel, rfl⟩
theorem dL_nodes_364 : decode cL_nodes 364 = .ok (.bipush (-2), 2) ∧ 364 + 2 = 366 := ⟨by decide +kernel, rfl⟩
theorem dL_nodes_366 : decode cL_nodes 366 = .ok (.if_icmp .ne 7, 3) ∧ 366 + 3 = 369 ∧ ((366 : Nat) : Int) + (7) = ((373 : Nat) : Int) := ⟨by decide +kernel, rfl, rfl⟩
theorem dL_nodes_369 : decode cL_nodes 369 = .ok (.iconst 1, 1) ∧ 369 + 1 = 370 := ⟨by decide +kernel, rfl⟩
theorem dL_nodes_370 : decode cL_nodes 370 = .ok (.goto 4, 3) ∧ 370 + 3 = 373 ∧ ((370 : Nat) : Int) + (4) = ((374 : Nat) : Int) := ⟨by decide +kernel, rfl, rfl⟩
theorem dL_nodes_373 : decode cL_nodes 373 = .ok (.iconst 0, 1) ∧ 373 + 1 = 374 := ⟨by decide +kernel, rfl⟩
theorem dL_nodes_374 : decode cL_nodes 374 = .ok (.ireturn, 1) ∧ 374 + 1 = 375 := ⟨by decide +kernel, rfl⟩
theorem dL_texts_0 : decode cL_texts 0 = .ok (.aload_n 0, 1) ∧ 0 + 1 = 1 := ⟨by decide +kernel, rfl⟩
theorem dL_texts_1 : decode cL_texts 1 = .ok (.invokevirtual 36, 3) ∧ 1 + 3 = 4 := ⟨by decide +kernel, rfl⟩
theorem dL_texts_4 : decode cL_texts 4 = .ok (.pop, 1) ∧ 4 + 1 = 5 := ⟨by decide +kernel, rfl⟩
theorem dL_texts_5 : decode cL_texts 5 = .ok (.iconst 0, 1) ∧ 5 + 1 = 6 := ⟨by decide +kernel, rfl⟩
theorem dL_texts_6 : decode cL_texts 6 = .ok (.istore_n 3, 1) ∧ 6 + 1 = 7 := ⟨by decide +kernel, rfl⟩
theorem dL_texts_7 : decode cL_texts 7 = .ok (.iload_n 3, 1) ∧ 7 + 1 = 8 := ⟨by decide +kernel, rfl⟩
theorem dL_texts_8 : decode cL_texts 8 = .ok (.iload_n 2, 1) ∧ 8 + 1 = 9 := ⟨by decide +kernel, rfl⟩
theorem dL_texts_9 : decode cL_texts 9 = .ok (.if_icmp .ge 34, 3) ∧ 9 + 3 = 12 ∧ ((9 : Nat) : Int) + (34) = ((43 : Nat) : Int) := ⟨by decide +kernel, rfl, rfl⟩
theorem dL_texts_12 : decode cL_texts 12 = .ok (.aload_n 0, 1) ∧ 12 + 1 = 13 := ⟨by decide +kernel, rfl⟩
theorem dL_texts_13 : decode cL_texts 13 = .ok (.bipush 97, 2) ∧ 13 + 2 = 15 := ⟨by decide +kernel, rfl⟩
theorem dL_texts_15 : decode cL_texts 15 = .ok (.iload_n 1, 1) ∧ 15 + 1 = 16 := ⟨by decide +kernel, rfl⟩
theorem dL_texts_16 : decode cL_texts 16 = .ok (.iconst 2, 1) ∧ 16 + 1 = 17 := ⟨by decide +kernel, rfl⟩
theorem dL_texts_17 : decode cL_texts 17 = .ok (.iload_n 3, 1) ∧ 17 + 1 = 18 := ⟨by decide +kernel, rfl⟩
theorem dL_texts_18 : decode cL_texts 18 = .ok (.imul, 1) ∧ 18 + 1 = 19 := ⟨by decide +kernel, rfl⟩
theorem dL_texts_19 : decode cL_texts 19 = .ok (.ishr, 1) ∧ 19 + 1 = 20 := ⟨by decide +kernel, rfl⟩
theorem dL_texts_20 : decode cL_texts 20 = .ok (.iconst 4, 1) ∧ 20 + 1 = 21 := ⟨by decide +kernel, rfl⟩
theorem dL_texts_21 : decode cL_texts 21 = .ok (.invokestatic 40, 3) ∧ 21 + 3 = 24 := ⟨by decide +kernel, rfl⟩
theorem dL_texts_24 : decode cL_texts 24 = .ok (.iadd, 1) ∧ 24 + 1 = 25 := ⟨by decide +kernel, rfl⟩
theorem dL_texts_25 : decode cL_texts 25 = .ok (.i2c, 1) ∧ 25 + 1 = 26 := ⟨by decide +kernel, rfl⟩
theorem dL_texts_26 : decode cL_texts 26 = .ok (.invokevirtual 45, 3) ∧ 26 + 3 = 29 := ⟨by decide +kernel, rfl⟩
theorem dL_texts_29 : decode cL_texts 29 = .ok (.iload_n 3, 1) ∧ 29 + 1 = 30 := ⟨by decide +kernel, rfl⟩
theorem dL_texts_30 : decode cL_texts 30 = .ok (.iconst 1, 1) ∧ 30 + 1 = 31 := ⟨by decide +kernel, rfl⟩
theorem dL_texts_31 : decode cL_texts 31 = .ok (.iadd, 1) ∧ 31 + 1 = 32 := ⟨by decide +kernel, rfl⟩
theorem dL_texts_32 : decode cL_texts 32 = .ok (.if_icmp .eq 5, 3) ∧ 32 + 3 = 35 ∧ ((32 : Nat) : Int) + (5) = ((37 : Nat) : Int) := ⟨by decide +kernel, rfl, rfl⟩
theorem dL_texts_35 : decode cL_texts 35 = .ok (.iconst 0, 1) ∧ 35 + 1 = 36 := ⟨by decide +kernel, rfl⟩
theorem dL_texts_36 : decode cL_texts 36 = .ok (.ireturn, 1) ∧ 36 + 1 = 37 := ⟨by decide +kernel, rfl⟩
theorem dL_texts_37 : decode cL_texts 37 = .ok (.iinc 3 1, 3) ∧ 37 + 3 = 40 := ⟨by decide +kernel, rfl⟩
theorem dL_texts_40 : decode cL_texts 40 = .ok (.goto (-33), 3) ∧ 40 + 3 = 43 ∧ ((40 : Nat) : Int) + (-33) = ((7 : Nat) : Int) := ⟨by decide +kernel, rfl, rfl⟩
theorem dL_texts_43 : decode cL_texts 43 = .ok (.iconst 1, 1) ∧ 43 + 1 = 44 := ⟨by decide +kernel, rfl⟩
theorem dL_texts_44 : decode cL_texts 44 = .ok (.ireturn, 1) ∧ 44 + 1 = 45 := ⟨by decide +kernel, rfl⟩
theorem dL_grows_0 : decode cL_grows 0 = .ok (.aload_n 0, 1) ∧ 0 + 1 = 1 := ⟨by decide +kernel, rfl⟩
theorem dL_grows_1 : decode cL_grows 1 = .ok (.iconst 3, 1) ∧ 1 + 1 = 2 := ⟨by decide +kernel, rfl⟩
theorem dL_grows_2 : decode cL_grows 2 = .ok (.invokevirtual 13, 3) ∧ 2 + 3 = 5 := ⟨by decide +kernel, rfl⟩
theorem dL_grows_5 : decode cL_grows 5 = .ok (.istore 4, 2) ∧ 5 + 2 = 7 := ⟨by decide +kernel, rfl⟩
theorem dL_grows_7 : decode cL_grows 7 = .ok (.aload_n 0, 1) ∧ 7 + 1 = 8 := ⟨by decide +kernel, rfl⟩
theorem dL_grows_8 : decode cL_grows 8 = .ok (.iconst 1, 1) ∧ 8 + 1 = 9 := ⟨by decide +kernel, rfl⟩
theorem dL_grows_9 : decode cL_grows 9 = .ok (.invokevirtual 13, 3) ∧ 9 + 3 = 12 := ⟨by decide +kernel, rfl⟩
theorem dL_grows_12 : decode cL_grows 12 = .ok (.istore 5, 2) ∧ 12 + 2 = 14 := ⟨by decide +kernel, rfl⟩
theorem dL_grows_14 : decode cL_grows 14 = .ok (.iload_n 2, 1) ∧ 14 + 1 = 15 := ⟨by decide +kernel, rfl⟩
theorem dL_grows_15 : decode cL_grows 15 = .ok (.iload 4, 2) ∧ 15 + 2 = 17 := ⟨by decide +kernel, rfl⟩
theorem dL_grows_17 : decode cL_grows 17 = .ok (.iconst 1, 1) ∧ 17 + 1 = 18 := ⟨by decide +kernel, rfl⟩
theorem dL_grows_18 : decode cL_grows 18 = .ok (.iadd, 1) ∧ 18 + 1 = 19 := ⟨by decide +kernel, rfl⟩
theorem dL_grows_19 : decode cL_grows 19 = .ok (.invokestatic 40, 3) ∧ 19 + 3 = 22 := ⟨by decide +kernel, rfl⟩
theorem dL_grows_22 : decode cL_grows 22 = .ok (.iconst 1, 1) ∧ 22 + 1 = 23 := ⟨by decide +kernel, rfl⟩
theorem dL_grows_23 : decode cL_grows 23 = .ok (.isub, 1) ∧ 23 + 1 = 24 := ⟨by decide +kernel, rfl⟩
theorem dL_grows_24 : decode cL_grows 24 = .ok (.istore 6, 2) ∧ 24 + 2 = 26 := ⟨by decide +kernel, rfl⟩
theorem dL_grows_26 : decode cL_grows 26 = .ok (.iload 4, 2) ∧ 26 + 2 = 28 := ⟨by decide +kernel, rfl⟩
theorem dL_grows_28 : decode cL_grows 28 = .ok (.ifCond .eq 8, 3) ∧ 28 + 3 = 31 ∧ ((28 : Nat) : Int) + (8) = ((36 : Nat) : Int) := ⟨by decide +kernel, rfl, rfl⟩
theorem dL_grows_31 : decode cL_grows 31 = .ok (.iload_n 1, 1) ∧ 31 + 1 = 32 := ⟨by decide +kernel, rfl⟩
theorem dL_grows_32 : decode cL_grows 32 = .ok (.iconst 4, 1) ∧ 32 + 1 = 33 := ⟨by decide +kernel, rfl⟩
theorem dL_grows_33 : decode cL_grows 33 = .ok (.if_icmp .ge 105, 3) ∧ 33 + 3 = 36 ∧ ((33 : Nat) : Int) + (105) = ((138 : Nat) : Int) := ⟨by decide +kernel, rfl, rfl⟩
theorem dL_grows_36 : decode cL_grows 36 = .ok (.aload_n 0, 1) ∧ 36 + 1 = 37 := ⟨by decide +kernel, rfl⟩
theorem dL_grows_37 : decode cL_grows 37 = .ok (.iload_n 3, 1) ∧ 37 + 1 = 38 := ⟨by decide +kernel, rfl⟩
theorem dL_grows_38 : decode cL_grows 38 = .ok (.iconst 1, 1) ∧ 38 + 1 = 39 := ⟨by decide +kernel, rfl⟩
theorem dL_grows_39 : decode cL_grows 39 = .ok (.iload_n 3, 1) ∧ 39 + 1 = 40 := ⟨by decide +kernel, rfl⟩
theorem dL_grows_40 : decode cL_grows 40 = .ok (.iconst 1, 1) ∧ 40 + 1 = 41 := ⟨by decide +kernel, rfl⟩
theorem dL_grows_41 : decode cL_grows 41 = .ok (.iand, 1) ∧ 41 + 1 = 42 := ⟨by decide +kernel, rfl⟩
theorem dL_grows_42 : decode cL_grows 42 = .ok (.iadd, 1) ∧ 42 + 1 = 43 := ⟨by decide +kernel, rfl⟩
theorem dL_grows_43 : decode cL_grows 43 = .ok (.invokestatic 49, 3) ∧ 43 + 3 = 46 := ⟨by decide +kernel, rfl⟩
theorem dL_grows_46 : decode cL_grows 46 = .ok (.istore 7, 2) ∧ 46 + 2 = 48 := ⟨by decide +kernel, rfl⟩
theorem dL_grows_48 : decode cL_grows 48 = .ok (.iload 6, 2) ∧ 48 + 2 = 50 := ⟨by decide +kernel, rfl⟩
theorem dL_grows_50 : decode cL_grows 50 = .ok (.ifCond .ge 7, 3) ∧ 50 + 3 = 53 ∧ ((50 : Nat) : Int) + (7) = ((57 : Nat) : Int) := ⟨by decide +kernel, rfl, rfl⟩
theorem dL_grows_53 : decode cL_grows 53 = .ok (.iconst 1, 1) ∧ 53 + 1 = 54 := ⟨by decide +kernel, rfl⟩
theorem dL_grows_54 : decode cL_grows 54 = .ok (.goto 11, 3) ∧ 54 + 3 = 57 ∧ ((54 : Nat) : Int) + (11) = ((65 : Nat) : Int) := ⟨by decide +kernel, rfl, rfl⟩
theorem dL_grows_57 : decode cL_grows 57 = .ok (.aload_n 0, 1) ∧ 57 + 1 = 58 := ⟨by decide +kernel, rfl⟩
theorem dL_grows_58 : decode cL_grows 58 = .ok (.iload 6, 2) ∧ 58 + 2 = 60 := ⟨by decide +kernel, rfl⟩
theorem dL_grows_60 : decode cL_grows 60 = .ok (.bipush 6, 2) ∧ 60 + 2 = 62 := ⟨by decide +kernel, rfl⟩
theorem dL_grows_62 : decode cL_grows 62 = .ok (.invokevirtual 21, 3) ∧ 62 + 3 = 65 := ⟨by decide +kernel, rfl⟩
theorem dL_grows_65 : decode cL_grows 65 = .ok (.istore 8, 2) ∧ 65 + 2 = 67 := ⟨by decide +kernel, rfl⟩
theorem dL_grows_67 : decode cL_grows 67 = .ok (.aload_n 0, 1) ∧ 67 + 1 = 68 := ⟨by decide +kernel, rfl⟩
theorem dL_grows_68 : decode cL_grows 68 = .ok (.iload 6, 2) ∧ 68 + 2 = 70 := ⟨by decide +kernel, rfl⟩
theorem dL_grows_70 : decode cL_grows 70 = .ok (.invokevirtual 53, 3) ∧ 70 + 3 = 73 := ⟨by decide +kernel, rfl⟩
theorem dL_grows_73 : decode cL_grows 73 = .ok (.istore 9, 2) ∧ 73 + 2 = 75 := ⟨by decide +kernel, rfl⟩
theorem dL_grows_75 : decode cL_grows 75 = .ok (.iload 7, 2) ∧ 75 + 2 = 77 := ⟨by decide +kernel, rfl⟩
theorem dL_grows_77 : decode cL_grows 77 = .ok (.ifCond .eq 59, 3) ∧ 77 + 3 = 80 ∧ ((77 : Nat) : Int) + (59) = ((136 : Nat) : Int) := ⟨by decide +kernel, rfl, rfl⟩
theorem dL_grows_80 : decode cL_grows 80 = .ok (.iload 9, 2) ∧ 80 + 2 = 82 := ⟨by decide +kernel, rfl⟩
theorem dL_grows_82 : decode cL_grows 82 = .ok (.bipush (-4), 2) ∧ 82 + 2 = 84 := ⟨by decide +kernel, rfl⟩
theorem dL_grows_84 : decode cL_grows 84 = .ok (.if_icmp .eq 34, 3) ∧ 84 + 3 = 87 ∧ ((84 : Nat) : Int) + (34) = ((118 : Nat) : Int) := ⟨by decide +kernel, rfl, rfl⟩
theorem dL_grows_87 : decode cL_grows 87 = .ok (.iload 9, 2) ∧ 87 + 2 = 89 := ⟨by decide +kernel, rfl⟩
theorem dL_grows_89 : decode cL_grows 89 = .ok (.iload 5, 2) ∧ 89 + 2 = 91 := ⟨by decide +kernel, rfl⟩
theorem dL_grows_91 : decode cL_grows 91 = .ok (.iconst 1, 1) ∧ 91 + 1 = 92 := ⟨by decide +kernel, rfl⟩
theorem dL_grows_92 : decode cL_grows 92 = .ok (.iadd, 1) ∧ 92 + 1 = 93 := ⟨by decide +kernel, rfl⟩
theorem dL_grows_93 : decode cL_grows 93 = .ok (.if_icmp .ne 43, 3) ∧ 93 + 3 = 96 ∧ ((93 : Nat) : Int) + (43) = ((136 : Nat) : Int) := ⟨by decide +kernel, rfl, rfl⟩
theorem dL_grows_96 : decode cL_grows 96 = .ok (.aload_n 0, 1) ∧ 96 + 1 = 97 := ⟨by decide +kernel, rfl⟩
theorem dL_grows_97 : decode cL_grows 97 = .ok (.iconst 1, 1) ∧ 97 + 1 = 98 := ⟨by decide +kernel, rfl⟩
theorem dL_grows_98 : decode cL_grows 98 = .ok (.invokevirtual 13, 3) ∧ 98 + 3 = 101 := ⟨by decide +kernel, rfl⟩
theorem dL_grows_101 : decode cL_grows 101 = .ok (.iload 9, 2) ∧ 101 + 2 = 103 := ⟨by decide +kernel, rfl⟩
theorem dL_grows_103 : decode cL_grows 103 = .ok (.if_icmp .ne 33, 3) ∧ 103 + 3 = 106 ∧ ((103 : Nat) : Int) + (33) = ((136 : Nat) : Int) := ⟨by decide +kernel, rfl, rfl⟩
theorem dL_grows_106 : decode cL_grows 106 = .ok (.aload_n 0, 1) ∧ 106 + 1 = 107 := ⟨by decide +kernel, rfl⟩
theorem dL_grows_107 : decode cL_grows 107 = .ok (.iload 9, 2) ∧ 107 + 2 = 109 := ⟨by decide +kernel, rfl⟩
theorem dL_grows_109 : decode cL_grows 109 = .ok (.iconst 1, 1) ∧ 109 + 1 = 110 := ⟨by decide +kernel, rfl⟩
theorem dL_grows_110 : decode cL_grows 110 = .ok (.invokevirtual 27, 3) ∧ 110 + 3 = 113 := ⟨by decide +kernel, rfl⟩
theorem dL_grows_113 : decode cL_grows 113 = .ok (.iload 8, 2) ∧ 113 + 2 = 115 := ⟨by decide +kernel, rfl⟩
theorem dL_grows_115 : decode cL_grows 115 = .ok (.if_icmp .ne 21, 3) ∧ 115 + 3 = 118 ∧ ((115 : Nat) : Int) + (21) = ((136 : Nat) : Int) := ⟨by decide +kernel, rfl, rfl⟩
theorem dL_grows_118 : decode cL_grows 118 = .ok (.aload_n 0, 1) ∧ 118 + 1 = 119 := ⟨by decide +kernel, rfl⟩
theorem dL_grows_119 : decode cL_grows 119 = .ok (.aload_n 0, 1) ∧ 119 + 1 = 120 := ⟨by decide +kernel, rfl⟩
theorem dL_grows_120 : decode cL_grows 120 = .ok (.iconst 3, 1) ∧ 120 + 1 = 121 := ⟨by decide +kernel, rfl⟩
theorem dL_grows_121 : decode cL_grows 121 = .ok (.invokevirtual 13, 3) ∧ 121 + 3 = 124 := ⟨by decide +kernel, rfl⟩
theorem dL_grows_124 : decode cL_grows 124 = .ok (.invokevirtual 53, 3) ∧ 124 + 3 = 127 := ⟨by decide +kernel, rfl⟩
theorem dL_grows_127 : decode cL_grows 127 = .ok (.bipush (-2), 2) ∧ 127 + 2 = 129 := ⟨by decide +kernel, rfl⟩
theorem dL_grows_129 : decode cL_grows 129 = .ok (.if_icmp .ne 7, 3) ∧ 129 + 3 = 132 ∧ ((129 : Nat) : Int) + (7) = ((136 : Nat) : Int) := ⟨by decide +kernel, rfl, rfl⟩
theorem dL_grows_132 : decode cL_grows 132 = .ok (.iconst 1, 1) ∧ 132 + 1 = 133 := ⟨by decide +kernel, rfl⟩
theorem dL_grows_133 : decode cL_grows 133 = .ok (.goto 4, 3) ∧ 133 + 3 = 136 ∧ ((133 : Nat) : Int) + (4) = ((137 : Nat) : Int) := ⟨by decide +kernel, rfl, rfl⟩
theorem dL_grows_136 : decode cL_grows 136 = .ok (.iconst 0, 1) ∧ 136 + 1 = 137 := ⟨by decide +kernel, rfl⟩
theorem dL_grows_137 : decode cL_grows 137 = .ok (.ireturn, 1) ∧ 137 + 1 = 138 := ⟨by decide +kernel, rfl⟩
theorem dL_grows_138 : decode cL_grows 138 = .ok (.iload_n 3, 1) ∧ 138 + 1 = 139 := ⟨by decide +kernel, rfl⟩
theorem dL_grows_139 : decode cL_grows 139 = .ok (.iload 4, 2) ∧ 139 + 2 = 141 := ⟨by decide +kernel, rfl⟩
theorem dL_grows_141 : decode cL_grows 141 = .ok (.invokestatic 40, 3) ∧ 141 + 3 = 144 := ⟨by decide +kernel, rfl⟩
theorem dL_grows_144 : decode cL_grows 144 = .ok (.istore 7, 2) ∧ 144 + 2 = 146 := ⟨by decide +kernel, rfl⟩
theorem dL_grows_146 : decode cL_grows 146 = .ok (.aload_n 0, 1) ∧ 146 + 1 = 147 := ⟨by decide +kernel, rfl⟩
theorem dL_grows_147 : decode cL_grows 147 = .ok (.iload 7, 2) ∧ 147 + 2 = 149 := ⟨by decide +kernel, rfl⟩
theorem dL_grows_149 : decode cL_grows 149 = .ok (.iconst 0, 1) ∧ 149 + 1 = 150 := ⟨by decide +kernel, rfl⟩
theorem dL_grows_150 : decode cL_grows 150 = .ok (.invokevirtual 21, 3) ∧ 150 + 3 = 153 := ⟨by decide +kernel, rfl⟩
theorem dL_grows_153 : decode cL_grows 153 = .ok (.istore 8, 2) ∧ 153 + 2 = 155 := ⟨by decide +kernel, rfl⟩
theorem dL_grows_155 : decode cL_grows 155 = .ok (.iload 6, 2) ∧ 155 + 2 = 157 := ⟨by decide +kernel, rfl⟩
theorem dL_grows_157 : decode cL_grows 157 = .ok (.ifCond .ge 7, 3) ∧ 157 + 3 = 160 ∧ ((157 : Nat) : Int) + (7) = ((164 : Nat) : Int) := ⟨by decide +kernel, rfl, rfl⟩
theorem dL_grows_160 : decode cL_grows 160 = .ok (.iconst 0, 1) ∧ 160 + 1 = 161 := ⟨by decide +kernel, rfl⟩
theorem dL_grows_161 : decode cL_grows 161 = .ok (.goto 10, 3) ∧ 161 + 3 = 164 ∧ ((161 : Nat) : Int) + (10) = ((171 : Nat) : Int) := ⟨by decide +kernel, rfl, rfl⟩
theorem dL_grows_164 : decode cL_grows 164 = .ok (.aload_n 0, 1) ∧ 164 + 1 = 165 := ⟨by decide +kernel, rfl⟩
theorem dL_grows_165 : decode cL_grows 165 = .ok (.iload 6, 2) ∧ 165 + 2 = 167 := ⟨by decide +kernel, rfl⟩
theorem dL_grows_167 : decode cL_grows 167 = .ok (.iconst 0, 1) ∧ 167 + 1 = 168 := ⟨by decide +kernel, rfl⟩
theorem dL_grows_168 : decode cL_grows 168 = .ok (.invokevirtual 21, 3) ∧ 168 + 3 = 171 := ⟨by decide +kernel, rfl⟩
theorem dL_grows_171 : decode cL_grows 171 = .ok (.istore 9, 2) ∧ 171 + 2 = 173 := ⟨by decide +kernel, rfl⟩
theorem dL_grows_173 : decode cL_grows 173 = .ok (.aload_n 0, 1) ∧ 173 + 1 = 174 := ⟨by decide +kernel, rfl⟩
theorem dL_grows_174 : decode cL_grows 174 = .ok (.iload 8, 2) ∧ 174 + 2 = 176 := ⟨by decide +kernel, rfl⟩
theorem dL_grows_176 : decode cL_grows 176 = .ok (.iconst 0, 1) ∧ 176 + 1 = 177 := ⟨by decide +kernel, rfl⟩
theorem dL_grows_177 : decode cL_grows 177 = .ok (.invokevirtual 27, 3) ∧ 177 + 3 = 180 := ⟨by decide +kernel, rfl⟩
theorem dL_grows_180 : decode cL_grows 180 = .ok (.istore 10, 2) ∧ 180 + 2 = 182 := ⟨by decide +kernel, rfl⟩
theorem dL_grows_182 : decode cL_grows 182 = .ok (.aload_n 0, 1) ∧ 182 + 1 = 183 := ⟨by decide +kernel, rfl⟩
theorem dL_grows_183 : decode cL_grows 183 = .ok (.iconst 0, 1) ∧ 183 + 1 = 184 := ⟨by decide +kernel, rfl⟩
theorem dL_grows_184 : decode cL_grows 184 = .ok (.invokevirtual 13, 3) ∧ 184 + 3 = 187 := ⟨by decide +kernel, rfl⟩
theorem dL_grows_187 : decode cL_grows 187 = .ok (.istore 11, 2) ∧ 187 + 2 = 189 := ⟨by decide +kernel, rfl⟩
theorem dL_grows_189 : decode cL_grows 189 = .ok (.iload_n 1, 1) ∧ 189 + 1 = 190 := ⟨by decide +kernel, rfl⟩
theorem dL_grows_190 : decode cL_grows 190 = .ok (.bipush 7, 2) ∧ 190 + 2 = 192 := ⟨by decide +kernel, rfl⟩
theorem dL_grows_192 : decode cL_grows 192 = .ok (.if_icmp .ge 81, 3) ∧ 192 + 3 = 195 ∧ ((192 : Nat) : Int) + (81) = ((273 : Nat) : Int) := ⟨by decide +kernel, rfl, rfl⟩
theorem dL_grows_195 : decode cL_grows 195 = .ok (.aload_n 0, 1) ∧ 195 + 1 = 196 := ⟨by decide +kernel, rfl⟩
theorem dL_grows_196 : decode cL_grows 196 = .ok (.iload 7, 2) ∧ 196 + 2 = 198 := ⟨by decide +kernel, rfl⟩
theorem dL_grows_198 : decode cL_grows 198 = .ok (.iload 6, 2) ∧ 198 + 2 = 200 := ⟨by decide +kernel, rfl⟩
theorem dL_grows_200 : decode cL_grows 200 = .ok (.invokevirtual 56, 3) ∧ 200 + 3 = 203 := ⟨by decide +kernel, rfl⟩
theorem dL_grows_203 : decode cL_grows 203 = .ok (.istore 12, 2) ∧ 203 + 2 = 205 := ⟨by decide +kernel, rfl⟩
theorem dL_grows_205 : decode cL_grows 205 = .ok (.iload 9, 2) ∧ 205 + 2 = 207 := ⟨by decide +kernel, rfl⟩
theorem dL_grows_207 : decode cL_grows 207 = .ok (.iload 8, 2) ∧ 207 + 2 = 209 := ⟨by decide +kernel, rfl⟩
theorem dL_grows_209 : decode cL_grows 209 = .ok (.if_icmp .ne 18, 3) ∧ 209 + 3 = 212 ∧ ((209 : Nat) : Int) + (18) = ((227 : Nat) : Int) := ⟨by decide +kernel, rfl, rfl⟩
theorem dL_grows_212 : decode cL_grows 212 = .ok (.iload 12, 2) ∧ 212 + 2 = 214 := ⟨by decide +kernel, rfl⟩
theorem dL_grows_214 : decode cL_grows 214 = .ok (.bipush (-5), 2) ∧ 214 + 2 = 216 := ⟨by decide +kernel, rfl⟩
theorem dL_grows_216 : decode cL_grows 216 = .ok (.if_icmp .ne 7, 3) ∧ 216 + 3 = 219 ∧ ((216 : Nat) : Int) + (7) = ((223 : Nat) : Int) := ⟨by decide +kernel, rfl, rfl⟩
theorem dL_grows_219 : decode cL_grows 219 = .ok (.iconst 1, 1) ∧ 219 + 1 = 220 := ⟨by decide +kernel, rfl⟩
theorem dL_grows_220 : decode cL_grows 220 = .ok (.goto 52, 3) ∧ 220 + 3 = 223 ∧ ((220 : Nat) : Int) + (52) = ((272 : Nat) : Int) := ⟨by decide +kernel, rfl, rfl⟩
theorem dL_grows_223 : decode cL_grows 223 = .ok (.iconst 0, 1) ∧ 223 + 1 = 224 := ⟨by decide +kernel, rfl⟩
theorem dL_grows_224 : decode cL_grows 224 = .ok (.goto 48, 3) ∧ 224 + 3 = 227 ∧ ((224 : Nat) : Int) + (48) = ((272 : Nat) : Int) := ⟨by decide +kernel, rfl, rfl⟩
theorem dL_grows_227 : decode cL_grows 227 = .ok (.iload 12, 2) ∧ 227 + 2 = 229 := ⟨by decide +kernel, rfl⟩
theorem dL_grows_229 : decode cL_grows 229 = .ok (.bipush (-5), 2) ∧ 229 + 2 = 231 := ⟨by decide +kernel, rfl⟩
theorem dL_grows_231 : decode cL_grows 231 = .ok (.if_icmp .eq 36, 3) ∧ 231 + 3 = 234 ∧ ((231 : Nat) : Int) + (36) = ((267 : Nat) : Int) := ⟨by decide +kernel, rfl, rfl⟩
theorem dL_grows_234 : decode cL_grows 234 = .ok (.iload 12, 2) ∧ 234 + 2 = 236 := ⟨by decide +kernel, rfl⟩
theorem dL_grows_236 : decode cL_grows 236 = .ok (.bipush (-4), 2) ∧ 236 + 2 = 238 := ⟨by decide +kernel, rfl⟩
theorem dL_grows_238 : decode cL_grows 238 = .ok (.if_icmp .eq 29, 3) ∧ 238 + 3 = 241 ∧ ((238 : Nat) : Int) + (29) = ((267 : Nat) : Int) := ⟨by decide +kernel, rfl, rfl⟩
theorem dL_grows_241 : decode cL_grows 241 = .ok (.aload_n 0, 1) ∧ 241 + 1 = 242 := ⟨by decide +kernel, rfl⟩
theorem dL_grows_242 : decode cL_grows 242 = .ok (.iload 8, 2) ∧ 242 + 2 = 244 := ⟨by decide +kernel, rfl⟩
theorem dL_grows_244 : decode cL_grows 244 = .ok (.iconst 0, 1) ∧ 244 + 1 = 245 := ⟨by decide +kernel, rfl⟩
theorem dL_grows_245 : decode cL_grows 245 = .ok (.invokevirtual 27, 3) ∧ 245 + 3 = 248 := ⟨by decide +kernel, rfl⟩
theorem dL_grows_248 : decode cL_grows 248 = .ok (.iload 10, 2) ∧ 248 + 2 = 250 := ⟨by decide +kernel, rfl⟩
theorem dL_grows_250 : decode cL_grows 250 = .ok (.iconst 1, 1) ∧ 250 + 1 = 251 := ⟨by decide +kernel, rfl⟩
theorem dL_grows_251 : decode cL_grows 251 = .ok (.iadd, 1) ∧ 251 + 1 = 252 := ⟨by decide +kernel, rfl⟩
theorem dL_grows_252 : decode cL_grows 252 = .ok (.if_icmp .ne 19, 3) ∧ 252 + 3 = 255 ∧ ((252 : Nat) : Int) + (19) = ((271 : Nat) : Int) := ⟨by decide +kernel, rfl, rfl⟩
theorem dL_grows_255 : decode cL_grows 255 = .ok (.iload 12, 2) ∧ 255 + 2 = 257 := ⟨by decide +kernel, rfl⟩
theorem dL_grows_257 : decode cL_grows 257 = .ok (.aload_n 0, 1) ∧ 257 + 1 = 258 := ⟨by decide +kernel, rfl⟩
theorem dL_grows_258 : decode cL_grows 258 = .ok (.iload 8, 2) ∧ 258 + 2 = 260 := ⟨by decide +kernel, rfl⟩
theorem dL_grows_260 : decode cL_grows 260 = .ok (.iconst 1, 1) ∧ 260 + 1 = 261 := ⟨by decide +kernel, rfl⟩
theorem dL_grows_261 : decode cL_grows 261 = .ok (.invokevirtual 27, 3) ∧ 261 + 3 = 264 := ⟨by decide +kernel, rfl⟩
theorem dL_grows_264 : decode cL_grows 264 = .ok (.if_icmp .ne 7, 3) ∧ 264 + 3 = 267 ∧ ((264 : Nat) : Int) + (7) = ((271 : Nat) : Int) := ⟨by decide +kernel, rfl, rfl⟩
theorem dL_grows_267 : decode cL_grows 267 = .ok (.iconst 1, 1) ∧ 267 + 1 = 268 := ⟨by decide +kernel, rfl⟩
theorem dL_grows_268 : decode cL_grows 268 = .ok (.goto 4, 3) ∧ 268 + 3 = 271 ∧ ((268 : Nat) : Int) + (4) = ((272 : Nat) : Int) := ⟨by decide +kernel, rfl, rfl⟩
theorem dL_grows_271 : decode cL_grows 271 = .ok (.iconst 0, 1) ∧ 271 + 1 = 272 := ⟨by decide +kernel, rfl⟩
theorem dL_grows_272 : decode cL_grows 272 = .ok (.ireturn, 1) ∧ 272 + 1 = 273 := ⟨by decide +kernel, rfl⟩
theorem dL_grows_273 : decode cL_grows 273 = .ok (.iload_n 1, 1) ∧ 273 + 1 = 274 := ⟨by decide +kernel, rfl⟩
theorem dL_grows_274 : decode cL_grows 274 = .ok (.bipush 7, 2) ∧ 274 + 2 = 276 := ⟨by decide +kernel, rfl⟩
theorem dL_grows_276 : decode cL_grows 276 = .ok (.if_icmp .ne 89, 3) ∧ 276 + 3 = 279 ∧ ((276 : Nat) : Int) + (89) = ((365 : Nat) : Int) := ⟨by decide +kernel, rfl, rfl⟩
theorem dL_grows_279 : decode cL_grows 279 = .ok (.aload_n 0, 1) ∧ 279 + 1 = 280 := ⟨by decide +kernel, rfl⟩
theorem dL_grows_280 : decode cL_grows 280 = .ok (.iload 7, 2) ∧ 280 + 2 = 282 := ⟨by decide +kernel, rfl⟩
theorem dL_grows_282 : decode cL_grows 282 = .ok (.iload 6, 2) ∧ 282 + 2 = 284 := ⟨by decide +kernel, rfl⟩
theorem dL_grows_284 : decode cL_grows 284 = .ok (.invokevirtual 59, 3) ∧ 284 + 3 = 287 := ⟨by decide +kernel, rfl⟩
theorem dL_grows_287 : decode cL_grows 287 = .ok (.istore 12, 2) ∧ 287 + 2 = 289 := ⟨by decide +kernel, rfl⟩
theorem dL_grows_289 : decode cL_grows 289 = .ok (.iload 9, 2) ∧ 289 + 2 = 291 := ⟨by decide +kernel, rfl⟩
theorem dL_grows_291 : decode cL_grows 291 = .ok (.iload 8, 2) ∧ 291 + 2 = 293 := ⟨by decide +kernel, rfl⟩
theorem dL_grows_293 : decode cL_grows 293 = .ok (.if_icmp .ne 18, 3) ∧ 293 + 3 = 296 ∧ ((293 : Nat) : Int) + (18) = ((311 : Nat) : Int) := ⟨by decide +kernel, rfl, rfl⟩
theorem dL_grows_296 : decode cL_grows 296 = .ok (.iload 12, 2) ∧ 296 + 2 = 298 := ⟨by decide +kernel, rfl⟩
theorem dL_grows_298 : decode cL_grows 298 = .ok (.bipush (-5), 2) ∧ 298 + 2 = 300 := ⟨by decide +kernel, rfl⟩
theorem dL_grows_300 : decode cL_grows 300 = .ok (.if_icmp .ne 7, 3) ∧ 300 + 3 = 303 ∧ ((300 : Nat) : Int) + (7) = ((307 : Nat) : Int) := ⟨by decide +kernel, rfl, rfl⟩
theorem dL_grows_303 : decode cL_grows 303 = .ok (.iconst 1, 1) ∧ 303 + 1 = 304 := ⟨by decide +kernel, rfl⟩
theorem dL_grows_304 : decode cL_grows 304 = .ok (.goto 60, 3) ∧ 304 + 3 = 307 ∧ ((304 : Nat) : Int) + (60) = ((364 : Nat) : Int) := ⟨by decide +kernel, rfl, rfl⟩
theorem dL_grows_307 : decode cL_grows 307 = .ok (.iconst 0, 1) ∧ 307 + 1 = 308 := ⟨by decide +kernel, rfl⟩
theorem dL_grows_308 : decode cL_grows 308 = .ok (.goto 56, 3) ∧ 308 + 3 = 311 ∧ ((308 : Nat) : Int) + (56) = ((364 : Nat) : Int) := ⟨by decide +kernel, rfl, rfl⟩
theorem dL_grows_311 : decode cL_grows 311 = .ok (.iload 12, 2) ∧ 311 + 2 = 313 := ⟨by decide +kernel, rfl⟩
theorem dL_grows_313 : decode cL_grows 313 = .ok (.bipush (-5), 2) ∧ 313 + 2 = 315 := ⟨by decide +kernel, rfl⟩
theorem dL_grows_315 : decode cL_grows 315 = .ok (.if_icmp .eq 44, 3) ∧ 315 + 3 = 318 ∧ ((315 : Nat) : Int) + (44) = ((359 : Nat) : Int) := ⟨by decide +kernel, rfl, rfl⟩
theorem dL_grows_318 : decode cL_grows 318 = .ok (.iload 12, 2) ∧ 318 + 2 = 320 := ⟨by decide +kernel, rfl⟩
theorem dL_grows_320 : decode cL_grows 320 = .ok (.bipush (-4), 2) ∧ 320 + 2 = 322 := ⟨by decide +kernel, rfl⟩
theorem dL_grows_322 : decode cL_grows 322 = .ok (.if_icmp .eq 37, 3) ∧ 322 + 3 = 325 ∧ ((322 : Nat) : Int) + (37) = ((359 : Nat) : Int) := ⟨by decide +kernel, rfl, rfl⟩
theorem dL_grows_325 : decode cL_grows 325 = .ok (.aload_n 0, 1) ∧ 325 + 1 = 326 := ⟨by decide +kernel, rfl⟩
theorem dL_grows_326 : decode cL_grows 326 = .ok (.iload 8, 2) ∧ 326 + 2 = 328 := ⟨by decide +kernel, rfl⟩
theorem dL_grows_328 : decode cL_grows 328 = .ok (.iconst 0, 1) ∧ 328 + 1 = 329 := ⟨by decide +kernel, rfl⟩
theorem dL_grows_329 : decode cL_grows 329 = .ok (.invokevirtual 27, 3) ∧ 329 + 3 = 332 := ⟨by decide +kernel, rfl⟩
theorem dL_grows_332 : decode cL_grows 332 = .ok (.iload 10, 2) ∧ 332 + 2 = 334 := ⟨by decide +kernel, rfl⟩
theorem dL_grows_334 : decode cL_grows 334 = .ok (.if_icmp .ne 29, 3) ∧ 334 + 3 = 337 ∧ ((334 : Nat) : Int) + (29) = ((363 : Nat) : Int) := ⟨by decide +kernel, rfl, rfl⟩
theorem dL_grows_337 : decode cL_grows 337 = .ok (.aload_n 0, 1) ∧ 337 + 1 = 338 := ⟨by decide +kernel, rfl⟩
theorem dL_grows_338 : decode cL_grows 338 = .ok (.iconst 0, 1) ∧ 338 + 1 = 339 := ⟨by decide +kernel, rfl⟩
theorem dL_grows_339 : decode cL_grows 339 = .ok (.invokevirtual 13, 3) ∧ 339 + 3 = 342 := ⟨by decide +kernel, rfl⟩
theorem dL_grows_342 : decode cL_grows 342 = .ok (.iload 11, 2) ∧ 342 + 2 = 344 := ⟨by decide +kernel, rfl⟩
theorem dL_grows_344 : decode cL_grows 344 = .ok (.if_icmp .ne 19, 3) ∧ 344 + 3 = 347 ∧ ((344 : Nat) : Int) + (19) = ((363 : Nat) : Int) := ⟨by decide +kernel, rfl, rfl⟩
theorem dL_grows_347 : decode cL_grows 347 = .ok (.iload 12, 2) ∧ 347 + 2 = 349 := ⟨by decide +kernel, rfl⟩
theorem dL_grows_349 : decode cL_grows 349 = .ok (.aload_n 0, 1) ∧ 349 + 1 = 350 := ⟨by decide +kernel, rfl⟩
theorem dL_grows_350 : decode cL_grows 350 = .ok (.iload 8, 2) ∧ 350 + 2 = 352 := ⟨by decide +kernel, rfl⟩
theorem dL_grows_352 : decode cL_grows 352 = .ok (.iconst 1, 1) ∧ 352 + 1 = 353 := ⟨by decide +kernel, rfl⟩
theorem dL_grows_353 : decode cL_grows 353 = .ok (.invokevirtual 27, 3) ∧ 353 + 3 = 356 := ⟨by decide +kernel, rfl⟩
theorem dL_grows_356 : decode cL_grows 356 = .ok (.if_icmp .ne 7, 3) ∧ 356 + 3 = 359 ∧ ((356 : Nat) : Int) + (7) = ((363 : Nat) : Int) := ⟨by decide +kernel, rfl, rfl⟩
theorem dL_grows_359 : decode cL_grows 359 = .ok (.iconst 1, 1) ∧ 359 + 1 = 360 := ⟨by decide +kernel, rfl⟩
theorem dL_grows_360 : decode cL_grows 360 = .ok (.goto 4, 3) ∧ 360 + 3 = 363 ∧ ((360 : Nat) : Int) + (4) = ((364 : Nat) : Int) := ⟨by decide +kernel, rfl, rfl⟩
theorem dL_grows_363 : decode cL_grows 363 = .ok (.iconst 0, 1) ∧ 363 + 1 = 364 := ⟨by decide +kernel, rfl⟩
theorem dL_grows_364 : decode cL_grows 364 = .ok (.ireturn, 1) ∧ 364 + 1 = 365 := ⟨by decide +kernel, rfl⟩
theorem dL_grows_365 : decode cL_grows 365 = .ok (.aload_n 0, 1) ∧ 365 + 1 = 366 := ⟨by decide +kernel, rfl⟩
theorem dL_grows_366 : decode cL_grows 366 = .ok (.iload 7, 2) ∧ 366 + 2 = 368 := ⟨by decide +kernel, rfl⟩
theorem dL_grows_368 : decode cL_grows 368 = .ok (.invokevirtual 62, 3) ∧ 368 + 3 = 371 := ⟨by decide +kernel, rfl⟩
theorem dL_grows_371 : decode cL_grows 371 = .ok (.istore 12, 2) ∧ 371 + 2 = 373 := ⟨by decide +kernel, rfl⟩
theorem dL_grows_373 : decode cL_grows 373 = .ok (.iload 10, 2) ∧ 373 + 2 = 375 := ⟨by decide +kernel, rfl⟩
theorem dL_grows_375 : decode cL_grows 375 = .ok (.iconst 1, 1) ∧ 375 + 1 = 376 := ⟨by decide +kernel, rfl⟩
theorem dL_grows_376 : decode cL_grows 376 = .ok (.if_icmp .le 30, 3) ∧ 376 + 3 = 379 ∧ ((376 : Nat) : Int) + (30) = ((406 : Nat) : Int) := ⟨by decide +kernel, rfl, rfl⟩
theorem dL_grows_379 : decode cL_grows 379 = .ok (.iload 12, 2) ∧ 379 + 2 = 381 := ⟨by decide +kernel, rfl⟩
theorem dL_grows_381 : decode cL_grows 381 = .ok (.ifCond .ne 21, 3) ∧ 381 + 3 = 384 ∧ ((381 : Nat) : Int) + (21) = ((402 : Nat) : Int) := ⟨by decide +kernel, rfl, rfl⟩
theorem dL_grows_384 : decode cL_grows 384 = .ok (.aload_n 0, 1) ∧ 384 + 1 = 385 := ⟨by decide +kernel, rfl⟩
theorem dL_grows_385 : decode cL_grows 385 = .ok (.iload 8, 2) ∧ 385 + 2 = 387 := ⟨by decide +kernel, rfl⟩
theorem dL_grows_387 : decode cL_grows 387 = .ok (.iconst 0, 1) ∧ 387 + 1 = 388 := ⟨by decide +kernel, rfl⟩
theorem dL_grows_388 : decode cL_grows 388 = .ok (.invokevirtual 27, 3) ∧ 388 + 3 = 391 := ⟨by decide +kernel, rfl⟩
theorem dL_grows_391 : decode cL_grows 391 = .ok (.iload 10, 2) ∧ 391 + 2 = 393 := ⟨by decide +kernel, rfl⟩
theorem dL_grows_393 : decode cL_grows 393 = .ok (.iconst 1, 1) ∧ 393 + 1 = 394 := ⟨by decide +kernel, rfl⟩
theorem dL_grows_394 : decode cL_grows 394 = .ok (.isub, 1) ∧ 394 + 1 = 395 := ⟨by decide +kernel, rfl⟩
theorem dL_grows_395 : decode cL_grows 395 = .ok (.if_icmp .ne 7, 3) ∧ 395 + 3 = 398 ∧ ((395 : Nat) : Int) + (7) = ((402 : Nat) : Int) := ⟨by decide +kernel, rfl, rfl⟩
theorem dL_grows_398 : decode cL_grows 398 = .ok (.iconst 1, 1) ∧ 398 + 1 = 399 := ⟨by decide +kernel, rfl⟩
theorem dL_grows_399 : decode cL_grows 399 = .ok (.goto 43, 3) ∧ 399 + 3 = 402 ∧ ((399 : Nat) : Int) + (43) = ((442 : Nat) : Int) := ⟨by decide +kernel, rfl, rfl⟩
theorem dL_grows_402 : decode cL_grows 402 = .ok (.iconst 0, 1) ∧ 402 + 1 = 403 := ⟨by decide +kernel, rfl⟩
theorem dL_grows_403 : decode cL_grows 403 = .ok (.goto 39, 3) ∧ 403 + 3 = 406 ∧ ((403 : Nat) : Int) + (39) = ((442 : Nat) : Int) := ⟨by decide +kernel, rfl, rfl⟩
theorem dL_grows_406 : decode cL_grows 406 = .ok (.iload 12, 2) ∧ 406 + 2 = 408 := ⟨by decide +kernel, rfl⟩
theorem dL_grows_408 : decode cL_grows 408 = .ok (.iconst 1, 1) ∧ 408 + 1 = 409 := ⟨by decide +kernel, rfl⟩
theorem dL_grows_409 : decode cL_grows 409 = .ok (.if_icmp .lt 32, 3) ∧ 409 + 3 = 412 ∧ ((409 : Nat) : Int) + (32) = ((441 : Nat) : Int) := ⟨by decide +kernel, rfl, rfl⟩
theorem dL_grows_412 : decode cL_grows 412 = .ok (.aload_n 0, 1) ∧ 412 + 1 = 413 := ⟨by decide +kernel, rfl⟩
theorem dL_grows_413 : decode cL_grows 413 = .ok (.iload 8, 2) ∧ 413 + 2 = 415 := ⟨by decide +kernel, rfl⟩
theorem dL_grows_415 : decode cL_grows 415 = .ok (.iconst 0, 1) ∧ 415 + 1 = 416 := ⟨by decide +kernel, rfl⟩
theorem dL_grows_416 : decode cL_grows 416 = .ok (.invokevirtual 27, 3) ∧ 416 + 3 = 419 := ⟨by decide +kernel, rfl⟩
theorem dL_grows_419 : decode cL_grows 419 = .ok (.bipush (-2), 2) ∧ 419 + 2 = 421 := ⟨by decide +kernel, rfl⟩
theorem dL_grows_421 : decode cL_grows 421 = .ok (.if_icmp .ne 20, 3) ∧ 421 + 3 = 424 ∧ ((421 : Nat) : Int) + (20) = ((441 : Nat) : Int) := ⟨by decide +kernel, rfl, rfl⟩
theorem dL_grows_424 : decode cL_grows 424 = .ok (.aload_n 0, 1) ∧ 424 + 1 = 425 := ⟨by decide +kernel, rfl⟩
theorem dL_grows_425 : decode cL_grows 425 = .ok (.iconst 0, 1) ∧ 425 + 1 = 426 := ⟨by decide +kernel, rfl⟩
theorem dL_grows_426 : decode cL_grows 426 = .ok (.invokevirtual 13, 3) ∧ 426 + 3 = 429 := ⟨by decide +kernel, rfl⟩
theorem dL_grows_429 : decode cL_grows 429 = .ok (.iload 11, 2) ∧ 429 + 2 = 431 := ⟨by decide +kernel, rfl⟩
theorem dL_grows_431 : decode cL_grows 431 = .ok (.iload 12, 2) ∧ 431 + 2 = 433 := ⟨by decide +kernel, rfl⟩
theorem dL_grows_433 : decode cL_grows 433 = .ok (.isub, 1) ∧ 433 + 1 = 434 := ⟨by decide +kernel, rfl⟩
theorem dL_grows_434 : decode cL_grows 434 = .ok (.if_icmp .ne 7, 3) ∧ 434 + 3 = 437 ∧ ((434 : Nat) : Int) + (7) = ((441 : Nat) : Int) := ⟨by decide +kernel, rfl, rfl⟩
theorem dL_grows_437 : decode cL_grows 437 = .ok (.iconst 1, 1) ∧ 437 + 1 = 438 := ⟨by decide +kernel, rfl⟩
theorem dL_grows_438 : decode cL_grows 438 = .ok (.goto 4, 3) ∧ 438 + 3 = 441 ∧ ((438 : Nat) : Int) + (4) = ((442 : Nat) : Int) := ⟨by decide +kernel, rfl, rfl⟩
theorem dL_grows_441 : decode cL_grows 441 = .ok (.iconst 0, 1) ∧ 441 + 1 = 442 := ⟨by decide +kernel, rfl⟩
theorem dL_grows_442 : decode cL_grows 442 = .ok (.ireturn, 1) ∧ 442 + 1 = 443 := ⟨by decide +kernel, rfl⟩
theorem dL_changes_0 : decode cL_changes 0 = .ok (.aload_n 0, 1) ∧ 0 + 1 = 1 := ⟨by decide +kernel, rfl⟩
theorem dL_changes_1 : decode cL_changes 1 = .ok (.iconst 3, 1) ∧ 1 + 1 = 2 := ⟨by decide +kernel, rfl⟩
theorem dL_changes_2 : decode cL_changes 2 = .ok (.invokevirtual 13, 3) ∧ 2 + 3 = 5 := ⟨by decide +kernel, rfl⟩
theorem dL_changes_5 : decode cL_changes 5 = .ok (.istore 4, 2) ∧ 5 + 2 = 7 := ⟨by decide +kernel, rfl⟩
theorem dL_changes_7 : decode cL_changes 7 = .ok (.iload 4, 2) ∧ 7 + 2 = 9 := ⟨by decide +kernel, rfl⟩
theorem dL_changes_9 : decode cL_changes 9 = .ok (.ifCond .ne 52, 3) ∧ 9 + 3 = 12 ∧ ((9 : Nat) : Int) + (52) = ((61 : Nat) : Int) := ⟨by decide +kernel, rfl, rfl⟩
theorem dL_changes_12 : decode cL_changes 12 = .ok (.aload_n 0, 1) ∧ 12 + 1 = 13 := ⟨by decide +kernel, rfl⟩
theorem dL_changes_13 : decode cL_changes 13 = .ok (.iconst 0, 1) ∧ 13 + 1 = 14 := ⟨by decide +kernel, rfl⟩
theorem dL_changes_14 : decode cL_changes 14 = .ok (.iconst 1, 1) ∧ 14 + 1 = 15 := ⟨by decide +kernel, rfl⟩
theorem dL_changes_15 : decode cL_changes 15 = .ok (.invokevirtual 65, 3) ∧ 15 + 3 = 18 := ⟨by decide +kernel, rfl⟩
theorem dL_changes_18 : decode cL_changes 18 = .ok (.bipush (-2), 2) ∧ 18 + 2 = 20 := ⟨by decide +kernel, rfl⟩
theorem dL_changes_20 : decode cL_changes 20 = .ok (.if_icmp .ne 39, 3) ∧ 20 + 3 = 23 ∧ ((20 : Nat) : Int) + (39) = ((59 : Nat) : Int) := ⟨by decide +kernel, rfl, rfl⟩
theorem dL_changes_23 : decode cL_changes 23 = .ok (.aload_n 0, 1) ∧ 23 + 1 = 24 := ⟨by decide +kernel, rfl⟩
theorem dL_changes_24 : decode cL_changes 24 = .ok (.iconst 0, 1) ∧ 24 + 1 = 25 := ⟨by decide +kernel, rfl⟩
theorem dL_changes_25 : decode cL_changes 25 = .ok (.iconst 0, 1) ∧ 25 + 1 = 26 := ⟨by decide +kernel, rfl⟩
theorem dL_changes_26 : decode cL_changes 26 = .ok (.invokevirtual 68, 3) ∧ 26 + 3 = 29 := ⟨by decide +kernel, rfl⟩
theorem dL_changes_29 : decode cL_changes 29 = .ok (.bipush (-2), 2) ∧ 29 + 2 = 31 := ⟨by decide +kernel, rfl⟩
theorem dL_changes_31 : decode cL_changes 31 = .ok (.if_icmp .ne 28, 3) ∧ 31 + 3 = 34 ∧ ((31 : Nat) : Int) + (28) = ((59 : Nat) : Int) := ⟨by decide +kernel, rfl, rfl⟩
theorem dL_changes_34 : decode cL_changes 34 = .ok (.aload_n 0, 1) ∧ 34 + 1 = 35 := ⟨by decide +kernel, rfl⟩
theorem dL_changes_35 : decode cL_changes 35 = .ok (.iconst 0, 1) ∧ 35 + 1 = 36 := ⟨by decide +kernel, rfl⟩
theorem dL_changes_36 : decode cL_changes 36 = .ok (.iconst 1, 1) ∧ 36 + 1 = 37 := ⟨by decide +kernel, rfl⟩
theorem dL_changes_37 : decode cL_changes 37 = .ok (.invokevirtual 71, 3) ∧ 37 + 3 = 40 := ⟨by decide +kernel, rfl⟩
theorem dL_changes_40 : decode cL_changes 40 = .ok (.bipush (-2), 2) ∧ 40 + 2 = 42 := ⟨by decide +kernel, rfl⟩
theorem dL_changes_42 : decode cL_changes 42 = .ok (.if_icmp .ne 17, 3) ∧ 42 + 3 = 45 ∧ ((42 : Nat) : Int) + (17) = ((59 : Nat) : Int) := ⟨by decide +kernel, rfl, rfl⟩
theorem dL_changes_45 : decode cL_changes 45 = .ok (.aload_n 0, 1) ∧ 45 + 1 = 46 := ⟨by decide +kernel, rfl⟩
theorem dL_changes_46 : decode cL_changes 46 = .ok (.iconst 0, 1) ∧ 46 + 1 = 47 := ⟨by decide +kernel, rfl⟩
theorem dL_changes_47 : decode cL_changes 47 = .ok (.invokevirtual 75, 3) ∧ 47 + 3 = 50 := ⟨by decide +kernel, rfl⟩
theorem dL_changes_50 : decode cL_changes 50 = .ok (.bipush (-2), 2) ∧ 50 + 2 = 52 := ⟨by decide +kernel, rfl⟩
theorem dL_changes_52 : decode cL_changes 52 = .ok (.if_icmp .ne 7, 3) ∧ 52 + 3 = 55 ∧ ((52 : Nat) : Int) + (7) = ((59 : Nat) : Int) := ⟨by decide +kernel, rfl, rfl⟩
theorem dL_changes_55 : decode cL_changes 55 = .ok (.iconst 1, 1) ∧ 55 + 1 = 56 := ⟨by decide +kernel, rfl⟩
theorem dL_changes_56 : decode cL_changes 56 = .ok (.goto 4, 3) ∧ 56 + 3 = 59 ∧ ((56 : Nat) : Int) + (4) = ((60 : Nat) : Int) := ⟨by decide +kernel, rfl, rfl⟩
theorem dL_changes_59 : decode cL_changes 59 = .ok (.iconst 0, 1) ∧ 59 + 1 = 60 := ⟨by decide +kernel, rfl⟩
theorem dL_changes_60 : decode cL_changes 60 = .ok (.ireturn, 1) ∧ 60 + 1 = 61 := ⟨by decide +kernel, rfl⟩
theorem dL_changes_61 : decode cL_changes 61 = .ok (.iload_n 2, 1) ∧ 61 + 1 = 62 := ⟨by decide +kernel, rfl⟩
theorem dL_changes_62 : decode cL_changes 62 = .ok (.iload 4, 2) ∧ 62 + 2 = 64 := ⟨by decide +kernel, rfl⟩
theorem dL_changes_64 : decode cL_changes 64 = .ok (.invokestatic 40, 3) ∧ 64 + 3 = 67 := ⟨by decide +kernel, rfl⟩
theorem dL_changes_67 : decode cL_changes 67 = .ok (.istore 5, 2) ∧ 67 + 2 = 69 := ⟨by decide +kernel, rfl⟩
theorem dL_changes_69 : decode cL_changes 69 = .ok (.aload_n 0, 1) ∧ 69 + 1 = 70 := ⟨by decide +kernel, rfl⟩
theorem dL_changes_70 : decode cL_changes 70 = .ok (.iload 5, 2) ∧ 70 + 2 = 72 := ⟨by decide +kernel, rfl⟩
theorem dL_changes_72 : decode cL_changes 72 = .ok (.iconst 0, 1) ∧ 72 + 1 = 73 := ⟨by decide +kernel, rfl⟩
theorem dL_changes_73 : decode cL_changes 73 = .ok (.invokevirtual 21, 3) ∧ 73 + 3 = 76 := ⟨by decide +kernel, rfl⟩
theorem dL_changes_76 : decode cL_changes 76 = .ok (.istore 6, 2) ∧ 76 + 2 = 78 := ⟨by decide +kernel, rfl⟩
theorem dL_changes_78 : decode cL_changes 78 = .ok (.iload_n 1, 1) ∧ 78 + 1 = 79 := ⟨by decide +kernel, rfl⟩
theorem dL_changes_79 : decode cL_changes 79 = .ok (.bipush 9, 2) ∧ 79 + 2 = 81 := ⟨by decide +kernel, rfl⟩
theorem dL_changes_81 : decode cL_changes 81 = .ok (.if_icmp .ne 192, 3) ∧ 81 + 3 = 84 ∧ ((81 : Nat) : Int) + (192) = ((273 : Nat) : Int) := ⟨by decide +kernel, rfl, rfl⟩
theorem dL_changes_84 : decode cL_changes 84 = .ok (.iload_n 3, 1) ∧ 84 + 1 = 85 := ⟨by decide +kernel, rfl⟩
theorem dL_changes_85 : decode cL_changes 85 = .ok (.bipush 7, 2) ∧ 85 + 2 = 87 := ⟨by decide +kernel, rfl⟩
theorem dL_changes_87 : decode cL_changes 87 = .ok (.invokestatic 40, 3) ∧ 87 + 3 = 90 := ⟨by decide +kernel, rfl⟩
theorem dL_changes_90 : decode cL_changes 90 = .ok (.iconst 3, 1) ∧ 90 + 1 = 91 := ⟨by decide +kernel, rfl⟩
theorem dL_changes_91 : decode cL_changes 91 = .ok (.isub, 1) ∧ 91 + 1 = 92 := ⟨by decide +kernel, rfl⟩
theorem dL_changes_92 : decode cL_changes 92 = .ok (.istore 7, 2) ∧ 92 + 2 = 94 := ⟨by decide +kernel, rfl⟩
theorem dL_changes_94 : decode cL_changes 94 = .ok (.aload_n 0, 1) ∧ 94 + 1 = 95 := ⟨by decide +kernel, rfl⟩
theorem dL_changes_95 : decode cL_changes 95 = .ok (.iload 5, 2) ∧ 95 + 2 = 97 := ⟨by decide +kernel, rfl⟩
theorem dL_changes_97 : decode cL_changes 97 = .ok (.iconst 2, 1) ∧ 97 + 1 = 98 := ⟨by decide +kernel, rfl⟩
theorem dL_changes_98 : decode cL_changes 98 = .ok (.invokevirtual 21, 3) ∧ 98 + 3 = 101 := ⟨by decide +kernel, rfl⟩
theorem dL_changes_101 : decode cL_changes 101 = .ok (.istore 8, 2) ∧ 101 + 2 = 103 := ⟨by decide +kernel, rfl⟩
theorem dL_changes_103 : decode cL_changes 103 = .ok (.aload_n 0, 1) ∧ 103 + 1 = 104 := ⟨by decide +kernel, rfl⟩
theorem dL_changes_104 : decode cL_changes 104 = .ok (.iload 5, 2) ∧ 104 + 2 = 106 := ⟨by decide +kernel, rfl⟩
theorem dL_changes_106 : decode cL_changes 106 = .ok (.bipush 7, 2) ∧ 106 + 2 = 108 := ⟨by decide +kernel, rfl⟩
theorem dL_changes_108 : decode cL_changes 108 = .ok (.invokevirtual 21, 3) ∧ 108 + 3 = 111 := ⟨by decide +kernel, rfl⟩
theorem dL_changes_111 : decode cL_changes 111 = .ok (.istore 9, 2) ∧ 111 + 2 = 113 := ⟨by decide +kernel, rfl⟩
theorem dL_changes_113 : decode cL_changes 113 = .ok (.iconst 0, 1) ∧ 113 + 1 = 114 := ⟨by decide +kernel, rfl⟩
theorem dL_changes_114 : decode cL_changes 114 = .ok (.istore 10, 2) ∧ 114 + 2 = 116 := ⟨by decide +kernel, rfl⟩
theorem dL_changes_116 : decode cL_changes 116 = .ok (.iconst 0, 1) ∧ 116 + 1 = 117 := ⟨by decide +kernel, rfl⟩
theorem dL_changes_117 : decode cL_changes 117 = .ok (.istore 11, 2) ∧ 117 + 2 = 119 := ⟨by decide +kernel, rfl⟩
theorem dL_changes_119 : decode cL_changes 119 = .ok (.iload 11, 2) ∧ 119 + 2 = 121 := ⟨by decide +kernel, rfl⟩
theorem dL_changes_121 : decode cL_changes 121 = .ok (.iload 4, 2) ∧ 121 + 2 = 123 := ⟨by decide +kernel, rfl⟩
theorem dL_changes_123 : decode cL_changes 123 = .ok (.if_icmp .ge 30, 3) ∧ 123 + 3 = 126 ∧ ((123 : Nat) : Int) + (30) = ((153 : Nat) : Int) := ⟨by decide +kernel, rfl, rfl⟩
theorem dL_changes_126 : decode cL_changes 126 = .ok (.iload 10, 2) ∧ 126 + 2 = 128 := ⟨by decide +kernel, rfl⟩
theorem dL_changes_128 : decode cL_changes 128 = .ok (.aload_n 0, 1) ∧ 128 + 1 = 129 := ⟨by decide +kernel, rfl⟩
theorem dL_changes_129 : decode cL_changes 129 = .ok (.iload 11, 2) ∧ 129 + 2 = 131 := ⟨by decide +kernel, rfl⟩
theorem dL_changes_131 : decode cL_changes 131 = .ok (.iconst 1, 1) ∧ 131 + 1 = 132 := ⟨by decide +kernel, rfl⟩
theorem dL_changes_132 : decode cL_changes 132 = .ok (.invokevirtual 21, 3) ∧ 132 + 3 = 135 := ⟨by decide +kernel, rfl⟩
theorem dL_changes_135 : decode cL_changes 135 = .ok (.iconst 1, 1) ∧ 135 + 1 = 136 := ⟨by decide +kernel, rfl⟩
theorem dL_changes_136 : decode cL_changes 136 = .ok (.if_icmp .ne 7, 3) ∧ 136 + 3 = 139 ∧ ((136 : Nat) : Int) + (7) = ((143 : Nat) : Int) := ⟨by decide +kernel, rfl, rfl⟩
theorem dL_changes_139 : decode cL_changes 139 = .ok (.iconst 1, 1) ∧ 139 + 1 = 140 := ⟨by decide +kernel, rfl⟩
theorem dL_changes_140 : decode cL_changes 140 = .ok (.goto 4, 3) ∧ 140 + 3 = 143 ∧ ((140 : Nat) : Int) + (4) = ((144 : Nat) : Int) := ⟨by decide +kernel, rfl, rfl⟩
theorem dL_changes_143 : decode cL_changes 143 = .ok (.iconst 0, 1) ∧ 143 + 1 = 144 := ⟨by decide +kernel, rfl⟩
theorem dL_changes_144 : decode cL_changes 144 = .ok (.iadd, 1) ∧ 144 + 1 = 145 := ⟨by decide +kernel, rfl⟩
theorem dL_changes_145 : decode cL_changes 145 = .ok (.istore 10, 2) ∧ 145 + 2 = 147 := ⟨by decide +kernel, rfl⟩
theorem dL_changes_147 : decode cL_changes 147 = .ok (.iinc 11 1, 3) ∧ 147 + 3 = 150 := ⟨by decide +kernel, rfl⟩
theorem dL_changes_150 : decode cL_changes 150 = .ok (.goto (-31), 3) ∧ 150 + 3 = 153 ∧ ((150 : Nat) : Int) + (-31) = ((119 : Nat) : Int) := ⟨by decide +kernel, rfl, rfl⟩
theorem dL_changes_153 : decode cL_changes 153 = .ok (.iload 9, 2) ∧ 153 + 2 = 155 := ⟨by decide +kernel, rfl⟩
theorem dL_changes_155 : decode cL_changes 155 = .ok (.ifCond .ge 8, 3) ∧ 155 + 3 = 158 ∧ ((155 : Nat) : Int) + (8) = ((163 : Nat) : Int) := ⟨by decide +kernel, rfl, rfl⟩
theorem dL_changes_158 : decode cL_changes 158 = .ok (.iload 10, 2) ∧ 158 + 2 = 160 := ⟨by decide +kernel, rfl⟩
theorem dL_changes_160 : decode cL_changes 160 = .ok (.goto 10, 3) ∧ 160 + 3 = 163 ∧ ((160 : Nat) : Int) + (10) = ((170 : Nat) : Int) := ⟨by decide +kernel, rfl, rfl⟩
theorem dL_changes_163 : decode cL_changes 163 = .ok (.aload_n 0, 1) ∧ 163 + 1 = 164 := ⟨by decide +kernel, rfl⟩
theorem dL_changes_164 : decode cL_changes 164 = .ok (.iload 9, 2) ∧ 164 + 2 = 166 := ⟨by decide +kernel, rfl⟩
theorem dL_changes_166 : decode cL_changes 166 = .ok (.iconst 3, 1) ∧ 166 + 1 = 167 := ⟨by decide +kernel, rfl⟩
theorem dL_changes_167 : decode cL_changes 167 = .ok (.invokevirtual 21, 3) ∧ 167 + 3 = 170 := ⟨by decide +kernel, rfl⟩
theorem dL_changes_170 : decode cL_changes 170 = .ok (.istore 11, 2) ∧ 170 + 2 = 172 := ⟨by decide +kernel, rfl⟩
theorem dL_changes_172 : decode cL_changes 172 = .ok (.aload_n 0, 1) ∧ 172 + 1 = 173 := ⟨by decide +kernel, rfl⟩
theorem dL_changes_173 : decode cL_changes 173 = .ok (.iload 5, 2) ∧ 173 + 2 = 175 := ⟨by decide +kernel, rfl⟩
theorem dL_changes_175 : decode cL_changes 175 = .ok (.iload 7, 2) ∧ 175 + 2 = 177 := ⟨by decide +kernel, rfl⟩
theorem dL_changes_177 : decode cL_changes 177 = .ok (.invokevirtual 65, 3) ∧ 177 + 3 = 180 := ⟨by decide +kernel, rfl⟩
theorem dL_changes_180 : decode cL_changes 180 = .ok (.istore 12, 2) ∧ 180 + 2 = 182 := ⟨by decide +kernel, rfl⟩
theorem dL_changes_182 : decode cL_changes 182 = .ok (.iload 7, 2) ∧ 182 + 2 = 184 := ⟨by decide +kernel, rfl⟩
theorem dL_changes_184 : decode cL_changes 184 = .ok (.ifCond .ne 18, 3) ∧ 184 + 3 = 187 ∧ ((184 : Nat) : Int) + (18) = ((202 : Nat) : Int) := ⟨by decide +kernel, rfl, rfl⟩
theorem dL_changes_187 : decode cL_changes 187 = .ok (.iload 12, 2) ∧ 187 + 2 = 189 := ⟨by decide +kernel, rfl⟩
theorem dL_changes_189 : decode cL_changes 189 = .ok (.bipush (-3), 2) ∧ 189 + 2 = 191 := ⟨by decide +kernel, rfl⟩
theorem dL_changes_191 : decode cL_changes 191 = .ok (.if_icmp .ne 7, 3) ∧ 191 + 3 = 194 ∧ ((191 : Nat) : Int) + (7) = ((198 : Nat) : Int) := ⟨by decide +kernel, rfl, rfl⟩
theorem dL_changes_194 : decode cL_changes 194 = .ok (.iconst 1, 1) ∧ 194 + 1 = 195 := ⟨by decide +kernel, rfl⟩
theorem dL_changes_195 : decode cL_changes 195 = .ok (.goto 77, 3) ∧ 195 + 3 = 198 ∧ ((195 : Nat) : Int) + (77) = ((272 : Nat) : Int) := ⟨by decide +kernel, rfl, rfl⟩
theorem dL_changes_198 : decode cL_changes 198 = .ok (.iconst 0, 1) ∧ 198 + 1 = 199 := ⟨by decide +kernel, rfl⟩
theorem dL_changes_199 : decode cL_changes 199 = .ok (.goto 73, 3) ∧ 199 + 3 = 202 ∧ ((199 : Nat) : Int) + (73) = ((272 : Nat) : Int) := ⟨by decide +kernel, rfl, rfl⟩
theorem dL_changes_202 : decode cL_changes 202 = .ok (.iload 8, 2) ∧ 202 + 2 = 204 := ⟨by decide +kernel, rfl⟩
theorem dL_changes_204 : decode cL_changes 204 = .ok (.iload 7, 2) ∧ 204 + 2 = 206 := ⟨by decide +kernel, rfl⟩
theorem dL_changes_206 : decode cL_changes 206 = .ok (.iadd, 1) ∧ 206 + 1 = 207 := ⟨by decide +kernel, rfl⟩
theorem dL_changes_207 : decode cL_changes 207 = .ok (.ifCond .lt 13, 3) ∧ 207 + 3 = 210 ∧ ((207 : Nat) : Int) + (13) = ((220 : Nat) : Int) := ⟨by decide +kernel, rfl, rfl⟩
theorem dL_changes_210 : decode cL_changes 210 = .ok (.iload 8, 2) ∧ 210 + 2 = 212 := ⟨by decide +kernel, rfl⟩
theorem dL_changes_212 : decode cL_changes 212 = .ok (.iload 7, 2) ∧ 212 + 2 = 214 := ⟨by decide +kernel, rfl⟩
theorem dL_changes_214 : decode cL_changes 214 = .ok (.iadd, 1) ∧ 214 + 1 = 215 := ⟨by decide +kernel, rfl⟩
theorem dL_changes_215 : decode cL_changes 215 = .ok (.iload 11, 2) ∧ 215 + 2 = 217 := ⟨by decide +kernel, rfl⟩
theorem dL_changes_217 : decode cL_changes 217 = .ok (.if_icmp .lt 18, 3) ∧ 217 + 3 = 220 ∧ ((217 : Nat) : Int) + (18) = ((235 : Nat) : Int) := ⟨by decide +kernel, rfl, rfl⟩
theorem dL_changes_220 : decode cL_changes 220 = .ok (.iload 12, 2) ∧ 220 + 2 = 222 := ⟨by decide +kernel, rfl⟩
theorem dL_changes_222 : decode cL_changes 222 = .ok (.bipush (-5), 2) ∧ 222 + 2 = 224 := ⟨by decide +kernel, rfl⟩
theorem dL_changes_224 : decode cL_changes 224 = .ok (.if_icmp .ne 7, 3) ∧ 224 + 3 = 227 ∧ ((224 : Nat) : Int) + (7) = ((231 : Nat) : Int) := ⟨by decide +kernel, rfl, rfl⟩
theorem dL_changes_227 : decode cL_changes 227 = .ok (.iconst 1, 1) ∧ 227 + 1 = 228 := ⟨by decide +kernel, rfl⟩
theorem dL_changes_228 : decode cL_changes 228 = .ok (.goto 44, 3) ∧ 228 + 3 = 231 ∧ ((228 : Nat) : Int) + (44) = ((272 : Nat) : Int) := ⟨by decide +kernel, rfl, rfl⟩
theorem dL_changes_231 : decode cL_changes 231 = .ok (.iconst 0, 1) ∧ 231 + 1 = 232 := ⟨by decide +kernel, rfl⟩
theorem dL_changes_232 : decode cL_changes 232 = .ok (.goto 40, 3) ∧ 232 + 3 = 235 ∧ ((232 : Nat) : Int) + (40) = ((272 : Nat) : Int) := ⟨by decide +kernel, rfl, rfl⟩
theorem dL_changes_235 : decode cL_changes 235 = .ok (.iload 12, 2) ∧ 235 + 2 = 237 := ⟨by decide +kernel, rfl⟩
theorem dL_changes_237 : decode cL_changes 237 = .ok (.iload 8, 2) ∧ 237 + 2 = 239 := ⟨by decide +kernel, rfl⟩
theorem dL_changes_239 : decode cL_changes 239 = .ok (.iload 7, 2) ∧ 239 + 2 = 241 := ⟨by decide +kernel, rfl⟩
theorem dL_changes_241 : decode cL_changes 241 = .ok (.iadd, 1) ∧ 241 + 1 = 242 := ⟨by decide +kernel, rfl⟩
theorem dL_changes_242 : decode cL_changes 242 = .ok (.if_icmp .ne 29, 3) ∧ 242 + 3 = 245 ∧ ((242 : Nat) : Int) + (29) = ((271 : Nat) : Int) := ⟨by decide +kernel, rfl, rfl⟩
theorem dL_changes_245 : decode cL_changes 245 = .ok (.aload_n 0, 1) ∧ 245 + 1 = 246 := ⟨by decide +kernel, rfl⟩
theorem dL_changes_246 : decode cL_changes 246 = .ok (.iconst 3, 1) ∧ 246 + 1 = 247 := ⟨by decide +kernel, rfl⟩
theorem dL_changes_247 : decode cL_changes 247 = .ok (.invokevirtual 13, 3) ∧ 247 + 3 = 250 := ⟨by decide +kernel, rfl⟩
theorem dL_changes_250 : decode cL_changes 250 = .ok (.iload 4, 2) ∧ 250 + 2 = 252 := ⟨by decide +kernel, rfl⟩
theorem dL_changes_252 : decode cL_changes 252 = .ok (.if_icmp .ne 19, 3) ∧ 252 + 3 = 255 ∧ ((252 : Nat) : Int) + (19) = ((271 : Nat) : Int) := ⟨by decide +kernel, rfl, rfl⟩
theorem dL_changes_255 : decode cL_changes 255 = .ok (.aload_n 0, 1) ∧ 255 + 1 = 256 := ⟨by decide +kernel, rfl⟩
theorem dL_changes_256 : decode cL_changes 256 = .ok (.iconst 0, 1) ∧ 256 + 1 = 257 := ⟨by decide +kernel, rfl⟩
theorem dL_changes_257 : decode cL_changes 257 = .ok (.bipush 40, 2) ∧ 257 + 2 = 259 := ⟨by decide +kernel, rfl⟩
theorem dL_changes_259 : decode cL_changes 259 = .ok (.invokevirtual 65, 3) ∧ 259 + 3 = 262 := ⟨by decide +kernel, rfl⟩
theorem dL_changes_262 : decode cL_changes 262 = .ok (.bipush (-3), 2) ∧ 262 + 2 = 264 := ⟨by decide +kernel, rfl⟩
theorem dL_changes_264 : decode cL_changes 264 = .ok (.if_icmp .ne 7, 3) ∧ 264 + 3 = 267 ∧ ((264 : Nat) : Int) + (7) = ((271 : Nat) : Int) := ⟨by decide +kernel, rfl, rfl⟩
theorem dL_changes_267 : decode cL_changes 267 = .ok (.iconst 1, 1) ∧ 267 + 1 = 268 := ⟨by decide +kernel, rfl⟩
theorem dL_changes_268 : decode cL_changes 268 = .ok (.goto 4, 3) ∧ 268 + 3 = 271 ∧ ((268 : Nat) : Int) + (4) = ((272 : Nat) : Int) := ⟨by decide +kernel, rfl, rfl⟩
theorem dL_changes_271 : decode cL_changes 271 = .ok (.iconst 0, 1) ∧ 271 + 1 = 272 := ⟨by decide +kernel, rfl⟩
theorem dL_changes_272 : decode cL_changes 272 = .ok (.ireturn, 1) ∧ 272 + 1 = 273 := ⟨by decide +kernel, rfl⟩
theorem dL_changes_273 : decode cL_changes 273 = .ok (.iload_n 1, 1) ∧ 273 + 1 = 274 := ⟨by decide +kernel, rfl⟩
theorem dL_changes_274 : decode cL_changes 274 = .ok (.bipush 10, 2) ∧ 274 + 2 = 276 := ⟨by decide +kernel, rfl⟩
theorem dL_changes_276 : decode cL_changes 276 = .ok (.if_icmp .ne 72, 3) ∧ 276 + 3 = 279 ∧ ((276 : Nat) : Int) + (72) = ((348 : Nat) : Int) := ⟨by decide +kernel, rfl, rfl⟩
theorem dL_changes_279 : decode cL_changes 279 = .ok (.iload_n 3, 1) ∧ 279 + 1 = 280 := ⟨by decide +kernel, rfl⟩
theorem dL_changes_280 : decode cL_changes 280 = .ok (.iconst 5, 1) ∧ 280 + 1 = 281 := ⟨by decide +kernel, rfl⟩
theorem dL_changes_281 : decode cL_changes 281 = .ok (.invokestatic 40, 3) ∧ 281 + 3 = 284 := ⟨by decide +kernel, rfl⟩
theorem dL_changes_284 : decode cL_changes 284 = .ok (.istore 7, 2) ∧ 284 + 2 = 286 := ⟨by decide +kernel, rfl⟩
theorem dL_changes_286 : decode cL_changes 286 = .ok (.aload_n 0, 1) ∧ 286 + 1 = 287 := ⟨by decide +kernel, rfl⟩
theorem dL_changes_287 : decode cL_changes 287 = .ok (.iload 5, 2) ∧ 287 + 2 = 289 := ⟨by decide +kernel, rfl⟩
theorem dL_changes_289 : decode cL_changes 289 = .ok (.iconst 5, 1) ∧ 289 + 1 = 290 := ⟨by decide +kernel, rfl⟩
theorem dL_changes_290 : decode cL_changes 290 = .ok (.invokevirtual 21, 3) ∧ 290 + 3 = 293 := ⟨by decide +kernel, rfl⟩
theorem dL_changes_293 : decode cL_changes 293 = .ok (.istore 8, 2) ∧ 293 + 2 = 295 := ⟨by decide +kernel, rfl⟩
theorem dL_changes_295 : decode cL_changes 295 = .ok (.aload_n 0, 1) ∧ 295 + 1 = 296 := ⟨by decide +kernel, rfl⟩
theorem dL_changes_296 : decode cL_changes 296 = .ok (.iload 5, 2) ∧ 296 + 2 = 298 := ⟨by decide +kernel, rfl⟩
theorem dL_changes_298 : decode cL_changes 298 = .ok (.iload 7, 2) ∧ 298 + 2 = 300 := ⟨by decide +kernel, rfl⟩
theorem dL_changes_300 : decode cL_changes 300 = .ok (.invokevirtual 68, 3) ∧ 300 + 3 = 303 := ⟨by decide +kernel, rfl⟩
theorem dL_changes_303 : decode cL_changes 303 = .ok (.iload 8, 2) ∧ 303 + 2 = 305 := ⟨by decide +kernel, rfl⟩
theorem dL_changes_305 : decode cL_changes 305 = .ok (.iconst 1, 1) ∧ 305 + 1 = 306 := ⟨by decide +kernel, rfl⟩
theorem dL_changes_306 : decode cL_changes 306 = .ok (.iload 7, 2) ∧ 306 + 2 = 308 := ⟨by decide +kernel, rfl⟩
theorem dL_changes_308 : decode cL_changes 308 = .ok (.ishl, 1) ∧ 308 + 1 = 309 := ⟨by decide +kernel, rfl⟩
theorem dL_changes_309 : decode cL_changes 309 = .ok (.ixor, 1) ∧ 309 + 1 = 310 := ⟨by decide +kernel, rfl⟩
theorem dL_changes_310 : decode cL_changes 310 = .ok (.if_icmp .ne 36, 3) ∧ 310 + 3 = 313 ∧ ((310 : Nat) : Int) + (36) = ((346 : Nat) : Int) := ⟨by decide +kernel, rfl, rfl⟩
theorem dL_changes_313 : decode cL_changes 313 = .ok (.aload_n 0, 1) ∧ 313 + 1 = 314 := ⟨by decide +kernel, rfl⟩
theorem dL_changes_314 : decode cL_changes 314 = .ok (.iload 6, 2) ∧ 314 + 2 = 316 := ⟨by decide +kernel, rfl⟩
theorem dL_changes_316 : decode cL_changes 316 = .ok (.iconst 4, 1) ∧ 316 + 1 = 317 := ⟨by decide +kernel, rfl⟩
theorem dL_changes_317 : decode cL_changes 317 = .ok (.invokevirtual 27, 3) ∧ 317 + 3 = 320 := ⟨by decide +kernel, rfl⟩
theorem dL_changes_320 : decode cL_changes 320 = .ok (.iload 8, 2) ∧ 320 + 2 = 322 := ⟨by decide +kernel, rfl⟩
theorem dL_changes_322 : decode cL_changes 322 = .ok (.iconst 1, 1) ∧ 322 + 1 = 323 := ⟨by decide +kernel, rfl⟩
theorem dL_changes_323 : decode cL_changes 323 = .ok (.iload 7, 2) ∧ 323 + 2 = 325 := ⟨by decide +kernel, rfl⟩
theorem dL_changes_325 : decode cL_changes 325 = .ok (.ishl, 1) ∧ 325 + 1 = 326 := ⟨by decide +kernel, rfl⟩
theorem dL_changes_326 : decode cL_changes 326 = .ok (.ixor, 1) ∧ 326 + 1 = 327 := ⟨by decide +kernel, rfl⟩
theorem dL_changes_327 : decode cL_changes 327 = .ok (.if_icmp .ne 19, 3) ∧ 327 + 3 = 330 ∧ ((327 : Nat) : Int) + (19) = ((346 : Nat) : Int) := ⟨by decide +kernel, rfl, rfl⟩
theorem dL_changes_330 : decode cL_changes 330 = .ok (.aload_n 0, 1) ∧ 330 + 1 = 331 := ⟨by decide +kernel, rfl⟩
theorem dL_changes_331 : decode cL_changes 331 = .ok (.iload 5, 2) ∧ 331 + 2 = 333 := ⟨by decide +kernel, rfl⟩
theorem dL_changes_333 : decode cL_changes 333 = .ok (.iconst 5, 1) ∧ 333 + 1 = 334 := ⟨by decide +kernel, rfl⟩
theorem dL_changes_334 : decode cL_changes 334 = .ok (.invokevirtual 68, 3) ∧ 334 + 3 = 337 := ⟨by decide +kernel, rfl⟩
theorem dL_changes_337 : decode cL_changes 337 = .ok (.bipush (-3), 2) ∧ 337 + 2 = 339 := ⟨by decide +kernel, rfl⟩
theorem dL_changes_339 : decode cL_changes 339 = .ok (.if_icmp .ne 7, 3) ∧ 339 + 3 = 342 ∧ ((339 : Nat) : Int) + (7) = ((346 : Nat) : Int) := ⟨by decide +kernel, rfl, rfl⟩
theorem dL_changes_342 : decode cL_changes 342 = .ok (.iconst 1, 1) ∧ 342 + 1 = 343 := ⟨by decide +kernel, rfl⟩
theorem dL_changes_343 : decode cL_changes 343 = .ok (.goto 4, 3) ∧ 343 + 3 = 346 ∧ ((343 : Nat) : Int) + (4) = ((347 : Nat) : Int) := ⟨by decide +kernel, rfl, rfl⟩
theorem dL_changes_346 : decode cL_changes 346 = .ok (.iconst 0, 1) ∧ 346 + 1 = 347 := ⟨by decide +kernel, rfl⟩
theorem dL_changes_347 : decode cL_changes 347 = .ok (.ireturn, 1) ∧ 347 + 1 = 348 := ⟨by decide +kernel, rfl⟩
theorem dL_changes_348 : decode cL_changes 348 = .ok (.iload_n 1, 1) ∧ 348 + 1 = 349 := ⟨by decide +kernel, rfl⟩
theorem dL_changes_349 : decode cL_changes 349 = .ok (.bipush 11, 2) ∧ 349 + 2 = 351 := ⟨by decide +kernel, rfl⟩
theorem dL_changes_351 : decode cL_changes 351 = .ok (.if_icmp .ne 160, 3) ∧ 351 + 3 = 354 ∧ ((351 : Nat) : Int) + (160) = ((511 : Nat) : Int) := ⟨by decide +kernel, rfl, rfl⟩
theorem dL_changes_354 : decode cL_changes 354 = .ok (.iconst 1, 1) ∧ 354 + 1 = 355 := ⟨by decide +kernel, rfl⟩
theorem dL_changes_355 : decode cL_changes 355 = .ok (.iload_n 3, 1) ∧ 355 + 1 = 356 := ⟨by decide +kernel, rfl⟩
theorem dL_changes_356 : decode cL_changes 356 = .ok (.bipush 7, 2) ∧ 356 + 2 = 358 := ⟨by decide +kernel, rfl⟩
theorem dL_changes_358 : decode cL_changes 358 = .ok (.ishr, 1) ∧ 358 + 1 = 359 := ⟨by decide +kernel, rfl⟩
theorem dL_changes_359 : decode cL_changes 359 = .ok (.bipush 8, 2) ∧ 359 + 2 = 361 := ⟨by decide +kernel, rfl⟩
theorem dL_changes_361 : decode cL_changes 361 = .ok (.invokestatic 40, 3) ∧ 361 + 3 = 364 := ⟨by decide +kernel, rfl⟩
theorem dL_changes_364 : decode cL_changes 364 = .ok (.iadd, 1) ∧ 364 + 1 = 365 := ⟨by decide +kernel, rfl⟩
theorem dL_changes_365 : decode cL_changes 365 = .ok (.istore 7, 2) ∧ 365 + 2 = 367 := ⟨by decide +kernel, rfl⟩
theorem dL_changes_367 : decode cL_changes 367 = .ok (.aload_n 0, 1) ∧ 367 + 1 = 368 := ⟨by decide +kernel, rfl⟩
theorem dL_changes_368 : decode cL_changes 368 = .ok (.iload_n 3, 1) ∧ 368 + 1 = 369 := ⟨by decide +kernel, rfl⟩
theorem dL_changes_369 : decode cL_changes 369 = .ok (.iload 7, 2) ∧ 369 + 2 = 371 := ⟨by decide +kernel, rfl⟩
theorem dL_changes_371 : decode cL_changes 371 = .ok (.invokestatic 49, 3) ∧ 371 + 3 = 374 := ⟨by decide +kernel, rfl⟩
theorem dL_changes_374 : decode cL_changes 374 = .ok (.ifCond .eq 20, 3) ∧ 374 + 3 = 377 ∧ ((374 : Nat) : Int) + (20) = ((394 : Nat) : Int) := ⟨by decide +kernel, rfl, rfl⟩
theorem dL_changes_377 : decode cL_changes 377 = .ok (.aload_n 0, 1) ∧ 377 + 1 = 378 := ⟨by decide +kernel, rfl⟩
theorem dL_changes_378 : decode cL_changes 378 = .ok (.iload 6, 2) ∧ 378 + 2 = 380 := ⟨by decide +kernel, rfl⟩
theorem dL_changes_380 : decode cL_changes 380 = .ok (.bipush 6, 2) ∧ 380 + 2 = 382 := ⟨by decide +kernel, rfl⟩
theorem dL_changes_382 : decode cL_changes 382 = .ok (.invokevirtual 27, 3) ∧ 382 + 3 = 385 := ⟨by decide +kernel, rfl⟩
theorem dL_changes_385 : decode cL_changes 385 = .ok (.iload 7, 2) ∧ 385 + 2 = 387 := ⟨by decide +kernel, rfl⟩
theorem dL_changes_387 : decode cL_changes 387 = .ok (.if_icmp .ne 7, 3) ∧ 387 + 3 = 390 ∧ ((387 : Nat) : Int) + (7) = ((394 : Nat) : Int) := ⟨by decide +kernel, rfl, rfl⟩
theorem dL_changes_390 : decode cL_changes 390 = .ok (.iconst 1, 1) ∧ 390 + 1 = 391 := ⟨by decide +kernel, rfl⟩
theorem dL_changes_391 : decode cL_changes 391 = .ok (.goto 4, 3) ∧ 391 + 3 = 394 ∧ ((391 : Nat) : Int) + (4) = ((395 : Nat) : Int) := ⟨by decide +kernel, rfl, rfl⟩
theorem dL_changes_394 : decode cL_changes 394 = .ok (.iconst 0, 1) ∧ 394 + 1 = 395 := ⟨by decide +kernel, rfl⟩
theorem dL_changes_395 : decode cL_changes 395 = .ok (.istore 8, 2) ∧ 395 + 2 = 397 := ⟨by decide +kernel, rfl⟩
theorem dL_changes_397 : decode cL_changes 397 = .ok (.iconst 0, 1) ∧ 397 + 1 = 398 := ⟨by decide +kernel, rfl⟩
theorem dL_changes_398 : decode cL_changes 398 = .ok (.istore 9, 2) ∧ 398 + 2 = 400 := ⟨by decide +kernel, rfl⟩
theorem dL_changes_400 : decode cL_changes 400 = .ok (.iload 9, 2) ∧ 400 + 2 = 402 := ⟨by decide +kernel, rfl⟩
theorem dL_changes_402 : decode cL_changes 402 = .ok (.iload 7, 2) ∧ 402 + 2 = 404 := ⟨by decide +kernel, rfl⟩
theorem dL_changes_404 : decode cL_changes 404 = .ok (.if_icmp .ge 45, 3) ∧ 404 + 3 = 407 ∧ ((404 : Nat) : Int) + (45) = ((449 : Nat) : Int) := ⟨by decide +kernel, rfl, rfl⟩
theorem dL_changes_407 : decode cL_changes 407 = .ok (.iload 8, 2) ∧ 407 + 2 = 409 := ⟨by decide +kernel, rfl⟩
theorem dL_changes_409 : decode cL_changes 409 = .ok (.ifCond .eq 40, 3) ∧ 409 + 3 = 412 ∧ ((409 : Nat) : Int) + (40) = ((449 : Nat) : Int) := ⟨by decide +kernel, rfl, rfl⟩
theorem dL_changes_412 : decode cL_changes 412 = .ok (.aload_n 0, 1) ∧ 412 + 1 = 413 := ⟨by decide +kernel, rfl⟩
theorem dL_changes_413 : decode cL_changes 413 = .ok (.iload 5, 2) ∧ 413 + 2 = 415 := ⟨by decide +kernel, rfl⟩
theorem dL_changes_415 : decode cL_changes 415 = .ok (.iload 9, 2) ∧ 415 + 2 = 417 := ⟨by decide +kernel, rfl⟩
theorem dL_changes_417 : decode cL_changes 417 = .ok (.invokevirtual 33, 3) ∧ 417 + 3 = 420 := ⟨by decide +kernel, rfl⟩
theorem dL_changes_420 : decode cL_changes 420 = .ok (.bipush 97, 2) ∧ 420 + 2 = 422 := ⟨by decide +kernel, rfl⟩
theorem dL_changes_422 : decode cL_changes 422 = .ok (.iload_n 3, 1) ∧ 422 + 1 = 423 := ⟨by decide +kernel, rfl⟩
theorem dL_changes_423 : decode cL_changes 423 = .ok (.iconst 2, 1) ∧ 423 + 1 = 424 := ⟨by decide +kernel, rfl⟩
theorem dL_changes_424 : decode cL_changes 424 = .ok (.iload 9, 2) ∧ 424 + 2 = 426 := ⟨by decide +kernel, rfl⟩
theorem dL_changes_426 : decode cL_changes 426 = .ok (.imul, 1) ∧ 426 + 1 = 427 := ⟨by decide +kernel, rfl⟩
theorem dL_changes_427 : decode cL_changes 427 = .ok (.ishr, 1) ∧ 427 + 1 = 428 := ⟨by decide +kernel, rfl⟩
theorem dL_changes_428 : decode cL_changes 428 = .ok (.iconst 4, 1) ∧ 428 + 1 = 429 := ⟨by decide +kernel, rfl⟩
theorem dL_changes_429 : decode cL_changes 429 = .ok (.invokestatic 40, 3) ∧ 429 + 3 = 432 := ⟨by decide +kernel, rfl⟩
theorem dL_changes_432 : decode cL_changes 432 = .ok (.iadd, 1) ∧ 432 + 1 = 433 := ⟨by decide +kernel, rfl⟩
theorem dL_changes_433 : decode cL_changes 433 = .ok (.if_icmp .ne 7, 3) ∧ 433 + 3 = 436 ∧ ((433 : Nat) : Int) + (7) = ((440 : Nat) : Int) := ⟨by decide +kernel, rfl, rfl⟩
theorem dL_changes_436 : decode cL_changes 436 = .ok (.iconst 1, 1) ∧ 436 + 1 = 437 := ⟨by decide +kernel, rfl⟩
theorem dL_changes_437 : decode cL_changes 437 = .ok (.goto 4, 3) ∧ 437 + 3 = 440 ∧ ((437 : Nat) : Int) + (4) = ((441 : Nat) : Int) := ⟨by decide +kernel, rfl, rfl⟩
theorem dL_changes_440 : decode cL_changes 440 = .ok (.iconst 0, 1) ∧ 440 + 1 = 441 := ⟨by decide +kernel, rfl⟩
theorem dL_changes_441 : decode cL_changes 441 = .ok (.istore 8, 2) ∧ 441 + 2 = 443 := ⟨by decide +kernel, rfl⟩
theorem dL_changes_443 : decode cL_changes 443 = .ok (.iinc 9 1, 3) ∧ 443 + 3 = 446 := ⟨by decide +kernel, rfl⟩
theorem dL_changes_446 : decode cL_changes 446 = .ok (.goto (-46), 3) ∧ 446 + 3 = 449 ∧ ((446 : Nat) : Int) + (-46) = ((400 : Nat) : Int) := ⟨by decide +kernel, rfl, rfl⟩
theorem dL_changes_449 : decode cL_changes 449 = .ok (.aload_n 0, 1) ∧ 449 + 1 = 450 := ⟨by decide +kernel, rfl⟩
theorem dL_changes_450 : decode cL_changes 450 = .ok (.iload 5, 2) ∧ 450 + 2 = 452 := ⟨by decide +kernel, rfl⟩
theorem dL_changes_452 : decode cL_changes 452 = .ok (.invokevirtual 75, 3) ∧ 452 + 3 = 455 := ⟨by decide +kernel, rfl⟩
theorem dL_changes_455 : decode cL_changes 455 = .ok (.istore 9, 2) ∧ 455 + 2 = 457 := ⟨by decide +kernel, rfl⟩
theorem dL_changes_457 : decode cL_changes 457 = .ok (.iload 9, 2) ∧ 457 + 2 = 459 := ⟨by decide +kernel, rfl⟩
theorem dL_changes_459 : decode cL_changes 459 = .ok (.iload 8, 2) ∧ 459 + 2 = 461 := ⟨by decide +kernel, rfl⟩
theorem dL_changes_461 : decode cL_changes 461 = .ok (.ifCond .eq 8, 3) ∧ 461 + 3 = 464 ∧ ((461 : Nat) : Int) + (8) = ((469 : Nat) : Int) := ⟨by decide +kernel, rfl, rfl⟩
theorem dL_changes_464 : decode cL_changes 464 = .ok (.bipush (-6), 2) ∧ 464 + 2 = 466 := ⟨by decide +kernel, rfl⟩
theorem dL_changes_466 : decode cL_changes 466 = .ok (.goto 10, 3) ∧ 466 + 3 = 469 ∧ ((466 : Nat) : Int) + (10) = ((476 : Nat) : Int) := ⟨by decide +kernel, rfl, rfl⟩
theorem dL_changes_469 : decode cL_changes 469 = .ok (.aload_n 0, 1) ∧ 469 + 1 = 470 := ⟨by decide +kernel, rfl⟩
theorem dL_changes_470 : decode cL_changes 470 = .ok (.iload 6, 2) ∧ 470 + 2 = 472 := ⟨by decide +kernel, rfl⟩
theorem dL_changes_472 : decode cL_changes 472 = .ok (.iconst 1, 1) ∧ 472 + 1 = 473 := ⟨by decide +kernel, rfl⟩
theorem dL_changes_473 : decode cL_changes 473 = .ok (.invokevirtual 27, 3) ∧ 473 + 3 = 476 := ⟨by decide +kernel, rfl⟩
theorem dL_changes_476 : decode cL_changes 476 = .ok (.if_icmp .ne 33, 3) ∧ 476 + 3 = 479 ∧ ((476 : Nat) : Int) + (33) = ((509 : Nat) : Int) := ⟨by decide +kernel, rfl, rfl⟩
theorem dL_changes_479 : decode cL_changes 479 = .ok (.aload_n 0, 1) ∧ 479 + 1 = 480 := ⟨by decide +kernel, rfl⟩
theorem dL_changes_480 : decode cL_changes 480 = .ok (.iload 6, 2) ∧ 480 + 2 = 482 := ⟨by decide +kernel, rfl⟩
theorem dL_changes_482 : decode cL_changes 482 = .ok (.bipush 6, 2) ∧ 482 + 2 = 484 := ⟨by decide +kernel, rfl⟩
theorem dL_changes_484 : decode cL_changes 484 = .ok (.invokevirtual 27, 3) ∧ 484 + 3 = 487 := ⟨by decide +kernel, rfl⟩
theorem dL_changes_487 : decode cL_changes 487 = .ok (.iload 7, 2) ∧ 487 + 2 = 489 := ⟨by decide +kernel, rfl⟩
theorem dL_changes_489 : decode cL_changes 489 = .ok (.if_icmp .ne 20, 3) ∧ 489 + 3 = 492 ∧ ((489 : Nat) : Int) + (20) = ((509 : Nat) : Int) := ⟨by decide +kernel, rfl, rfl⟩
theorem dL_changes_492 : decode cL_changes 492 = .ok (.aload_n 0, 1) ∧ 492 + 1 = 493 := ⟨by decide +kernel, rfl⟩
theorem dL_changes_493 : decode cL_changes 493 = .ok (.iload 5, 2) ∧ 493 + 2 = 495 := ⟨by decide +kernel, rfl⟩
theorem dL_changes_495 : decode cL_changes 495 = .ok (.iconst 1, 1) ∧ 495 + 1 = 496 := ⟨by decide +kernel, rfl⟩
theorem dL_changes_496 : decode cL_changes 496 = .ok (.isub, 1) ∧ 496 + 1 = 497 := ⟨by decide +kernel, rfl⟩
theorem dL_changes_497 : decode cL_changes 497 = .ok (.invokevirtual 78, 3) ∧ 497 + 3 = 500 := ⟨by decide +kernel, rfl⟩
theorem dL_changes_500 : decode cL_changes 500 = .ok (.iload 5, 2) ∧ 500 + 2 = 502 := ⟨by decide +kernel, rfl⟩
theorem dL_changes_502 : decode cL_changes 502 = .ok (.if_icmp .ne 7, 3) ∧ 502 + 3 = 505 ∧ ((502 : Nat) : Int) + (7) = ((509 : Nat) : Int) := ⟨by decide +kernel, rfl, rfl⟩
theorem dL_changes_505 : decode cL_changes 505 = .ok (.iconst 1, 1) ∧ 505 + 1 = 506 := ⟨by decide +kernel, rfl⟩
theorem dL_changes_506 : decode cL_changes 506 = .ok (.goto 4, 3) ∧ 506 + 3 = 509 ∧ ((506 : Nat) : Int) + (4) = ((510 : Nat) : Int) := ⟨by decide +kernel, rfl, rfl⟩
theorem dL_changes_509 : decode cL_changes 509 = .ok (.iconst 0, 1) ∧ 509 + 1 = 510 := ⟨by decide +kernel, rfl⟩
theorem dL_changes_510 : decode cL_changes 510 = .ok (.ireturn, 1) ∧ 510 + 1 = 511 := ⟨by decide +kernel, rfl⟩
theorem dL_changes_511 : decode cL_changes 511 = .ok (.iload_n 1, 1) ∧ 511 + 1 = 512 := ⟨by decide +kernel, rfl⟩
theorem dL_changes_512 : decode cL_changes 512 = .ok (.bipush 14, 2) ∧ 512 + 2 = 514 := ⟨by decide +kernel, rfl⟩
theorem dL_changes_514 : decode cL_changes 514 = .ok (.if_icmp .ge 161, 3) ∧ 514 + 3 = 517 ∧ ((514 : Nat) : Int) + (161) = ((675 : Nat) : Int) := ⟨by decide +kernel, rfl, rfl⟩
theorem dL_changes_517 : decode cL_changes 517 = .ok (.iload_n 3, 1) ∧ 517 + 1 = 518 := ⟨by decide +kernel, rfl⟩
theorem dL_changes_518 : decode cL_changes 518 = .ok (.iconst 3, 1) ∧ 518 + 1 = 519 := ⟨by decide +kernel, rfl⟩
theorem dL_changes_519 : decode cL_changes 519 = .ok (.iand, 1) ∧ 519 + 1 = 520 := ⟨by decide +kernel, rfl⟩
theorem dL_changes_520 : decode cL_changes 520 = .ok (.ifCond .le 7, 3) ∧ 520 + 3 = 523 ∧ ((520 : Nat) : Int) + (7) = ((527 : Nat) : Int) := ⟨by decide +kernel, rfl, rfl⟩
theorem dL_changes_523 : decode cL_changes 523 = .ok (.iconst 1, 1) ∧ 523 + 1 = 524 := ⟨by decide +kernel, rfl⟩
theorem dL_changes_524 : decode cL_changes 524 = .ok (.goto 4, 3) ∧ 524 + 3 = 527 ∧ ((524 : Nat) : Int) + (4) = ((528 : Nat) : Int) := ⟨by decide +kernel, rfl, rfl⟩
theorem dL_changes_527 : decode cL_changes 527 = .ok (.iconst 0, 1) ∧ 527 + 1 = 528 := ⟨by decide +kernel, rfl⟩
theorem dL_changes_528 : decode cL_changes 528 = .ok (.istore 7, 2) ∧ 528 + 2 = 530 := ⟨by decide +kernel, rfl⟩
theorem dL_changes_530 : decode cL_changes 530 = .ok (.aload_n 0, 1) ∧ 530 + 1 = 531 := ⟨by decide +kernel, rfl⟩
theorem dL_changes_531 : decode cL_changes 531 = .ok (.iload 5, 2) ∧ 531 + 2 = 533 := ⟨by decide +kernel, rfl⟩
theorem dL_changes_533 : decode cL_changes 533 = .ok (.iconst 4, 1) ∧ 533 + 1 = 534 := ⟨by decide +kernel, rfl⟩
theorem dL_changes_534 : decode cL_changes 534 = .ok (.invokevirtual 21, 3) ∧ 534 + 3 = 537 := ⟨by decide +kernel, rfl⟩
theorem dL_changes_537 : decode cL_changes 537 = .ok (.iconst 1, 1) ∧ 537 + 1 = 538 := ⟨by decide +kernel, rfl⟩
theorem dL_changes_538 : decode cL_changes 538 = .ok (.if_icmp .ne 7, 3) ∧ 538 + 3 = 541 ∧ ((538 : Nat) : Int) + (7) = ((545 : Nat) : Int) := ⟨by decide +kernel, rfl, rfl⟩
theorem dL_changes_541 : decode cL_changes 541 = .ok (.iconst 1, 1) ∧ 541 + 1 = 542 := ⟨by decide +kernel, rfl⟩
theorem dL_changes_542 : decode cL_changes 542 = .ok (.goto 4, 3) ∧ 542 + 3 = 545 ∧ ((542 : Nat) : Int) + (4) = ((546 : Nat) : Int) := ⟨by decide +kernel, rfl, rfl⟩
theorem dL_changes_545 : decode cL_changes 545 = .ok (.iconst 0, 1) ∧ 545 + 1 = 546 := ⟨by decide +kernel, rfl⟩
theorem dL_changes_546 : decode cL_changes 546 = .ok (.istore 8, 2) ∧ 546 + 2 = 548 := ⟨by decide +kernel, rfl⟩
theorem dL_changes_548 : decode cL_changes 548 = .ok (.aload_n 0, 1) ∧ 548 + 1 = 549 := ⟨by decide +kernel, rfl⟩
theorem dL_changes_549 : decode cL_changes 549 = .ok (.iload 5, 2) ∧ 549 + 2 = 551 := ⟨by decide +kernel, rfl⟩
theorem dL_changes_551 : decode cL_changes 551 = .ok (.bipush 8, 2) ∧ 551 + 2 = 553 := ⟨by decide +kernel, rfl⟩
theorem dL_changes_553 : decode cL_changes 553 = .ok (.invokevirtual 21, 3) ∧ 553 + 3 = 556 := ⟨by decide +kernel, rfl⟩
theorem dL_changes_556 : decode cL_changes 556 = .ok (.istore 9, 2) ∧ 556 + 2 = 558 := ⟨by decide +kernel, rfl⟩
theorem dL_changes_558 : decode cL_changes 558 = .ok (.aload_n 0, 1) ∧ 558 + 1 = 559 := ⟨by decide +kernel, rfl⟩
theorem dL_changes_559 : decode cL_changes 559 = .ok (.iload 5, 2) ∧ 559 + 2 = 561 := ⟨by decide +kernel, rfl⟩
theorem dL_changes_561 : decode cL_changes 561 = .ok (.iload 7, 2) ∧ 561 + 2 = 563 := ⟨by decide +kernel, rfl⟩
theorem dL_changes_563 : decode cL_changes 563 = .ok (.invokevirtual 71, 3) ∧ 563 + 3 = 566 := ⟨by decide +kernel, rfl⟩
theorem dL_changes_566 : decode cL_changes 566 = .ok (.istore 10, 2) ∧ 566 + 2 = 568 := ⟨by decide +kernel, rfl⟩
theorem dL_changes_568 : decode cL_changes 568 = .ok (.aload_n 0, 1) ∧ 568 + 1 = 569 := ⟨by decide +kernel, rfl⟩
theorem dL_changes_569 : decode cL_changes 569 = .ok (.iload 5, 2) ∧ 569 + 2 = 571 := ⟨by decide +kernel, rfl⟩
theorem dL_changes_571 : decode cL_changes 571 = .ok (.iconst 3, 1) ∧ 571 + 1 = 572 := ⟨by decide +kernel, rfl⟩
theorem dL_changes_572 : decode cL_changes 572 = .ok (.invokevirtual 21, 3) ∧ 572 + 3 = 575 := ⟨by decide +kernel, rfl⟩
theorem dL_changes_575 : decode cL_changes 575 = .ok (.ifCond .ne 16, 3) ∧ 575 + 3 = 578 ∧ ((575 : Nat) : Int) + (16) = ((591 : Nat) : Int) := ⟨by decide +kernel, rfl, rfl⟩
theorem dL_changes_578 : decode cL_changes 578 = .ok (.iload 10, 2) ∧ 578 + 2 = 580 := ⟨by decide +kernel, rfl⟩
theorem dL_changes_580 : decode cL_changes 580 = .ok (.bipush (-5), 2) ∧ 580 + 2 = 582 := ⟨by decide +kernel, rfl⟩
theorem dL_changes_582 : decode cL_changes 582 = .ok (.if_icmp .ne 7, 3) ∧ 582 + 3 = 585 ∧ ((582 : Nat) : Int) + (7) = ((589 : Nat) : Int) := ⟨by decide +kernel, rfl, rfl⟩
theorem dL_changes_585 : decode cL_changes 585 = .ok (.iconst 1, 1) ∧ 585 + 1 = 586 := ⟨by decide +kernel, rfl⟩
theorem dL_changes_586 : decode cL_changes 586 = .ok (.goto 4, 3) ∧ 586 + 3 = 589 ∧ ((586 : Nat) : Int) + (4) = ((590 : Nat) : Int) := ⟨by decide +kernel, rfl, rfl⟩
theorem dL_changes_589 : decode cL_changes 589 = .ok (.iconst 0, 1) ∧ 589 + 1 = 590 := ⟨by decide +kernel, rfl⟩
theorem dL_changes_590 : decode cL_changes 590 = .ok (.ireturn, 1) ∧ 590 + 1 = 591 := ⟨by decide +kernel, rfl⟩
theorem dL_changes_591 : decode cL_changes 591 = .ok (.iload 7, 2) ∧ 591 + 2 = 593 := ⟨by decide +kernel, rfl⟩
theorem dL_changes_593 : decode cL_changes 593 = .ok (.iload 8, 2) ∧ 593 + 2 = 595 := ⟨by decide +kernel, rfl⟩
theorem dL_changes_595 : decode cL_changes 595 = .ok (.if_icmp .ne 18, 3) ∧ 595 + 3 = 598 ∧ ((595 : Nat) : Int) + (18) = ((613 : Nat) : Int) := ⟨by decide +kernel, rfl, rfl⟩
theorem dL_changes_598 : decode cL_changes 598 = .ok (.iload 10, 2) ∧ 598 + 2 = 600 := ⟨by decide +kernel, rfl⟩
theorem dL_changes_600 : decode cL_changes 600 = .ok (.bipush (-6), 2) ∧ 600 + 2 = 602 := ⟨by decide +kernel, rfl⟩
theorem dL_changes_602 : decode cL_changes 602 = .ok (.if_icmp .ne 7, 3) ∧ 602 + 3 = 605 ∧ ((602 : Nat) : Int) + (7) = ((609 : Nat) : Int) := ⟨by decide +kernel, rfl, rfl⟩
theorem dL_changes_605 : decode cL_changes 605 = .ok (.iconst 1, 1) ∧ 605 + 1 = 606 := ⟨by decide +kernel, rfl⟩
theorem dL_changes_606 : decode cL_changes 606 = .ok (.goto 68, 3) ∧ 606 + 3 = 609 ∧ ((606 : Nat) : Int) + (68) = ((674 : Nat) : Int) := ⟨by decide +kernel, rfl, rfl⟩
theorem dL_changes_609 : decode cL_changes 609 = .ok (.iconst 0, 1) ∧ 609 + 1 = 610 := ⟨by decide +kernel, rfl⟩
theorem dL_changes_610 : decode cL_changes 610 = .ok (.goto 64, 3) ∧ 610 + 3 = 613 ∧ ((610 : Nat) : Int) + (64) = ((674 : Nat) : Int) := ⟨by decide +kernel, rfl, rfl⟩
theorem dL_changes_613 : decode cL_changes 613 = .ok (.iload 10, 2) ∧ 613 + 2 = 615 := ⟨by decide +kernel, rfl⟩
theorem dL_changes_615 : decode cL_changes 615 = .ok (.aload_n 0, 1) ∧ 615 + 1 = 616 := ⟨by decide +kernel, rfl⟩
theorem dL_changes_616 : decode cL_changes 616 = .ok (.iconst 3, 1) ∧ 616 + 1 = 617 := ⟨by decide +kernel, rfl⟩
theorem dL_changes_617 : decode cL_changes 617 = .ok (.invokevirtual 13, 3) ∧ 617 + 3 = 620 := ⟨by decide +kernel, rfl⟩
theorem dL_changes_620 : decode cL_changes 620 = .ok (.if_icmp .ne 53, 3) ∧ 620 + 3 = 623 ∧ ((620 : Nat) : Int) + (53) = ((673 : Nat) : Int) := ⟨by decide +kernel, rfl, rfl⟩
theorem dL_changes_623 : decode cL_changes 623 = .ok (.aload_n 0, 1) ∧ 623 + 1 = 624 := ⟨by decide +kernel, rfl⟩
theorem dL_changes_624 : decode cL_changes 624 = .ok (.iload 5, 2) ∧ 624 + 2 = 626 := ⟨by decide +kernel, rfl⟩
theorem dL_changes_626 : decode cL_changes 626 = .ok (.iconst 4, 1) ∧ 626 + 1 = 627 := ⟨by decide +kernel, rfl⟩
theorem dL_changes_627 : decode cL_changes 627 = .ok (.invokevirtual 21, 3) ∧ 627 + 3 = 630 := ⟨by decide +kernel, rfl⟩
theorem dL_changes_630 : decode cL_changes 630 = .ok (.iconst 1, 1) ∧ 630 + 1 = 631 := ⟨by decide +kernel, rfl⟩
theorem dL_changes_631 : decode cL_changes 631 = .ok (.if_icmp .ne 7, 3) ∧ 631 + 3 = 634 ∧ ((631 : Nat) : Int) + (7) = ((638 : Nat) : Int) := ⟨by decide +kernel, rfl, rfl⟩
theorem dL_changes_634 : decode cL_changes 634 = .ok (.iconst 1, 1) ∧ 634 + 1 = 635 := ⟨by decide +kernel, rfl⟩
theorem dL_changes_635 : decode cL_changes 635 = .ok (.goto 4, 3) ∧ 635 + 3 = 638 ∧ ((635 : Nat) : Int) + (4) = ((639 : Nat) : Int) := ⟨by decide +kernel, rfl, rfl⟩
theorem dL_changes_638 : decode cL_changes 638 = .ok (.iconst 0, 1) ∧ 638 + 1 = 639 := ⟨by decide +kernel, rfl⟩
theorem dL_changes_639 : decode cL_changes 639 = .ok (.iload 7, 2) ∧ 639 + 2 = 641 := ⟨by decide +kernel, rfl⟩
theorem dL_changes_641 : decode cL_changes 641 = .ok (.if_icmp .ne 32, 3) ∧ 641 + 3 = 644 ∧ ((641 : Nat) : Int) + (32) = ((673 : Nat) : Int) := ⟨by decide +kernel, rfl, rfl⟩
theorem dL_changes_644 : decode cL_changes 644 = .ok (.iload 7, 2) ∧ 644 + 2 = 646 := ⟨by decide +kernel, rfl⟩
theorem dL_changes_646 : decode cL_changes 646 = .ok (.ifCond .eq 16, 3) ∧ 646 + 3 = 649 ∧ ((646 : Nat) : Int) + (16) = ((662 : Nat) : Int) := ⟨by decide +kernel, rfl, rfl⟩
theorem dL_changes_649 : decode cL_changes 649 = .ok (.iload 10, 2) ∧ 649 + 2 = 651 := ⟨by decide +kernel, rfl⟩
theorem dL_changes_651 : decode cL_changes 651 = .ok (.iload 4, 2) ∧ 651 + 2 = 653 := ⟨by decide +kernel, rfl⟩
theorem dL_changes_653 : decode cL_changes 653 = .ok (.iload 9, 2) ∧ 653 + 2 = 655 := ⟨by decide +kernel, rfl⟩
theorem dL_changes_655 : decode cL_changes 655 = .ok (.isub, 1) ∧ 655 + 1 = 656 := ⟨by decide +kernel, rfl⟩
theorem dL_changes_656 : decode cL_changes 656 = .ok (.if_icmp .ne 17, 3) ∧ 656 + 3 = 659 ∧ ((656 : Nat) : Int) + (17) = ((673 : Nat) : Int) := ⟨by decide +kernel, rfl, rfl⟩
theorem dL_changes_659 : decode cL_changes 659 = .ok (.goto 10, 3) ∧ 659 + 3 = 662 ∧ ((659 : Nat) : Int) + (10) = ((669 : Nat) : Int) := ⟨by decide +kernel, rfl, rfl⟩
theorem dL_changes_662 : decode cL_changes 662 = .ok (.iload 10, 2) ∧ 662 + 2 = 664 := ⟨by decide +kernel, rfl⟩
theorem dL_changes_664 : decode cL_changes 664 = .ok (.iload 4, 2) ∧ 664 + 2 = 666 := ⟨by decide +kernel, rfl⟩
theorem dL_changes_666 : decode cL_changes 666 = .ok (.if_icmp .lt 7, 3) ∧ 666 + 3 = 669 ∧ ((666 : Nat) : Int) + (7) = ((673 : Nat) : Int) := ⟨by decide +kernel, rfl, rfl⟩
theorem dL_changes_669 : decode cL_changes 669 = .ok (.iconst 1, 1) ∧ 669 + 1 = 670 := ⟨by decide +kernel, rfl⟩
theorem dL_changes_670 : decode cL_changes 670 = .ok (.goto 4, 3) ∧ 670 + 3 = 673 ∧ ((670 : Nat) : Int) + (4) = ((674 : Nat) : Int) := ⟨by decide +kernel, rfl, rfl⟩
theorem dL_changes_673 : decode cL_changes 673 = .ok (.iconst 0, 1) ∧ 673 + 1 = 674 := ⟨by decide +kernel, rfl⟩
theorem dL_changes_674 : decode cL_changes 674 = .ok (.ireturn, 1) ∧ 674 + 1 = 675 := ⟨by decide +kernel, rfl⟩
theorem dL_changes_675 : decode cL_changes 675 = .ok (.iload_n 1, 1) ∧ 675 + 1 = 676 := ⟨by decide +kernel, rfl⟩
theorem dL_changes_676 : decode cL_changes 676 = .ok (.bipush 14, 2) ∧ 676 + 2 = 678 := ⟨by decide +kernel, rfl⟩
theorem dL_changes_678 : decode cL_changes 678 = .ok (.if_icmp .ne 122, 3) ∧ 678 + 3 = 681 ∧ ((678 : Nat) : Int) + (122) = ((800 : Nat) : Int) := ⟨by decide +kernel, rfl, rfl⟩
theorem dL_changes_681 : decode cL_changes 681 = .ok (.iconst 1, 1) ∧ 681 + 1 = 682 := ⟨by decide +kernel, rfl⟩
theorem dL_changes_682 : decode cL_changes 682 = .ok (.iload_n 3, 1) ∧ 682 + 1 = 683 := ⟨by decide +kernel, rfl⟩
theorem dL_changes_683 : decode cL_changes 683 = .ok (.iconst 4, 1) ∧ 683 + 1 = 684 := ⟨by decide +kernel, rfl⟩
theorem dL_changes_684 : decode cL_changes 684 = .ok (.invokestatic 40, 3) ∧ 684 + 3 = 687 := ⟨by decide +kernel, rfl⟩
theorem dL_changes_687 : decode cL_changes 687 = .ok (.iadd, 1) ∧ 687 + 1 = 688 := ⟨by decide +kernel, rfl⟩
theorem dL_changes_688 : decode cL_changes 688 = .ok (.istore 7, 2) ∧ 688 + 2 = 690 := ⟨by decide +kernel, rfl⟩
theorem dL_changes_690 : decode cL_changes 690 = .ok (.aload_n 0, 1) ∧ 690 + 1 = 691 := ⟨by decide +kernel, rfl⟩
theorem dL_changes_691 : decode cL_changes 691 = .ok (.iload 7, 2) ∧ 691 + 2 = 693 := ⟨by decide +kernel, rfl⟩
theorem dL_changes_693 : decode cL_changes 693 = .ok (.invokevirtual 81, 3) ∧ 693 + 3 = 696 := ⟨by decide +kernel, rfl⟩
theorem dL_changes_696 : decode cL_changes 696 = .ok (.istore 8, 2) ∧ 696 + 2 = 698 := ⟨by decide +kernel, rfl⟩
theorem dL_changes_698 : decode cL_changes 698 = .ok (.aload_n 0, 1) ∧ 698 + 1 = 699 := ⟨by decide +kernel, rfl⟩
theorem dL_changes_699 : decode cL_changes 699 = .ok (.iconst 3, 1) ∧ 699 + 1 = 700 := ⟨by decide +kernel, rfl⟩
theorem dL_changes_700 : decode cL_changes 700 = .ok (.invokevirtual 13, 3) ∧ 700 + 3 = 703 := ⟨by decide +kernel, rfl⟩
theorem dL_changes_703 : decode cL_changes 703 = .ok (.istore 9, 2) ∧ 703 + 2 = 705 := ⟨by decide +kernel, rfl⟩
theorem dL_changes_705 : decode cL_changes 705 = .ok (.iconst 0, 1) ∧ 705 + 1 = 706 := ⟨by decide +kernel, rfl⟩
theorem dL_changes_706 : decode cL_changes 706 = .ok (.istore 10, 2) ∧ 706 + 2 = 708 := ⟨by decide +kernel, rfl⟩
theorem dL_changes_708 : decode cL_changes 708 = .ok (.iload 10, 2) ∧ 708 + 2 = 710 := ⟨by decide +kernel, rfl⟩
theorem dL_changes_710 : decode cL_changes 710 = .ok (.iload 9, 2) ∧ 710 + 2 = 712 := ⟨by decide +kernel, rfl⟩
theorem dL_changes_712 : decode cL_changes 712 = .ok (.if_icmp .ge 68, 3) ∧ 712 + 3 = 715 ∧ ((712 : Nat) : Int) + (68) = ((780 : Nat) : Int) := ⟨by decide +kernel, rfl, rfl⟩
theorem dL_changes_715 : decode cL_changes 715 = .ok (.aload_n 0, 1) ∧ 715 + 1 = 716 := ⟨by decide +kernel, rfl⟩
theorem dL_changes_716 : decode cL_changes 716 = .ok (.iload 10, 2) ∧ 716 + 2 = 718 := ⟨by decide +kernel, rfl⟩
theorem dL_changes_718 : decode cL_changes 718 = .ok (.iconst 1, 1) ∧ 718 + 1 = 719 := ⟨by decide +kernel, rfl⟩
theorem dL_changes_719 : decode cL_changes 719 = .ok (.invokevirtual 21, 3) ∧ 719 + 3 = 722 := ⟨by decide +kernel, rfl⟩
theorem dL_changes_722 : decode cL_changes 722 = .ok (.istore 11, 2) ∧ 722 + 2 = 724 := ⟨by decide +kernel, rfl⟩
theorem dL_changes_724 : decode cL_changes 724 = .ok (.aload_n 0, 1) ∧ 724 + 1 = 725 := ⟨by decide +kernel, rfl⟩
theorem dL_changes_725 : decode cL_changes 725 = .ok (.iload 10, 2) ∧ 725 + 2 = 727 := ⟨by decide +kernel, rfl⟩
theorem dL_changes_727 : decode cL_changes 727 = .ok (.iconst 4, 1) ∧ 727 + 1 = 728 := ⟨by decide +kernel, rfl⟩
theorem dL_changes_728 : decode cL_changes 728 = .ok (.invokevirtual 21, 3) ∧ 728 + 3 = 731 := ⟨by decide +kernel, rfl⟩
theorem dL_changes_731 : decode cL_changes 731 = .ok (.istore 12, 2) ∧ 731 + 2 = 733 := ⟨by decide +kernel, rfl⟩
theorem dL_changes_733 : decode cL_changes 733 = .ok (.iload 11, 2) ∧ 733 + 2 = 735 := ⟨by decide +kernel, rfl⟩
theorem dL_changes_735 : decode cL_changes 735 = .ok (.iload 7, 2) ∧ 735 + 2 = 737 := ⟨by decide +kernel, rfl⟩
theorem dL_changes_737 : decode cL_changes 737 = .ok (.if_icmp .gt 35, 3) ∧ 737 + 3 = 740 ∧ ((737 : Nat) : Int) + (35) = ((772 : Nat) : Int) := ⟨by decide +kernel, rfl, rfl⟩
theorem dL_changes_740 : decode cL_changes 740 = .ok (.iload 12, 2) ∧ 740 + 2 = 742 := ⟨by decide +kernel, rfl⟩
theorem dL_changes_742 : decode cL_changes 742 = .ok (.iload 11, 2) ∧ 742 + 2 = 744 := ⟨by decide +kernel, rfl⟩
theorem dL_changes_744 : decode cL_changes 744 = .ok (.iload 7, 2) ∧ 744 + 2 = 746 := ⟨by decide +kernel, rfl⟩
theorem dL_changes_746 : decode cL_changes 746 = .ok (.if_icmp .lt 18, 3) ∧ 746 + 3 = 749 ∧ ((746 : Nat) : Int) + (18) = ((764 : Nat) : Int) := ⟨by decide +kernel, rfl, rfl⟩
theorem dL_changes_749 : decode cL_changes 749 = .ok (.iload 12, 2) ∧ 749 + 2 = 751 := ⟨by decide +kernel, rfl⟩
theorem dL_changes_751 : decode cL_changes 751 = .ok (.ifCond .ne 17, 3) ∧ 751 + 3 = 754 ∧ ((751 : Nat) : Int) + (17) = ((768 : Nat) : Int) := ⟨by decide +kernel, rfl, rfl⟩
theorem dL_changes_754 : decode cL_changes 754 = .ok (.aload_n 0, 1) ∧ 754 + 1 = 755 := ⟨by decide +kernel, rfl⟩
theorem dL_changes_755 : decode cL_changes 755 = .ok (.iload 10, 2) ∧ 755 + 2 = 757 := ⟨by decide +kernel, rfl⟩
theorem dL_changes_757 : decode cL_changes 757 = .ok (.iconst 3, 1) ∧ 757 + 1 = 758 := ⟨by decide +kernel, rfl⟩
theorem dL_changes_758 : decode cL_changes 758 = .ok (.invokevirtual 21, 3) ∧ 758 + 3 = 761 := ⟨by decide +kernel, rfl⟩
theorem dL_changes_761 : decode cL_changes 761 = .ok (.ifCond .ne 7, 3) ∧ 761 + 3 = 764 ∧ ((761 : Nat) : Int) + (7) = ((768 : Nat) : Int) := ⟨by decide +kernel, rfl, rfl⟩
theorem dL_changes_764 : decode cL_changes 764 = .ok (.iconst 0, 1) ∧ 764 + 1 = 765 := ⟨by decide +kernel, rfl⟩
theorem dL_changes_765 : decode cL_changes 765 = .ok (.goto 4, 3) ∧ 765 + 3 = 768 ∧ ((765 : Nat) : Int) + (4) = ((769 : Nat) : Int) := ⟨by decide +kernel, rfl, rfl⟩
theorem dL_changes_768 : decode cL_changes 768 = .ok (.iconst 1, 1) ∧ 768 + 1 = 769 := ⟨by decide +kernel, rfl⟩
theorem dL_changes_769 : decode cL_changes 769 = .ok (.if_icmp .eq 5, 3) ∧ 769 + 3 = 772 ∧ ((769 : Nat) : Int) + (5) = ((774 : Nat) : Int) := ⟨by decide +kernel, rfl, rfl⟩
theorem dL_changes_772 : decode cL_changes 772 = .ok (.iconst 0, 1) ∧ 772 + 1 = 773 := ⟨by decide +kernel, rfl⟩
theorem dL_changes_773 : decode cL_changes 773 = .ok (.ireturn, 1) ∧ 773 + 1 = 774 := ⟨by decide +kernel, rfl⟩
theorem dL_changes_774 : decode cL_changes 774 = .ok (.iinc 10 1, 3) ∧ 774 + 3 = 777 := ⟨by decide +kernel, rfl⟩
theorem dL_changes_777 : decode cL_changes 777 = .ok (.goto (-69), 3) ∧ 777 + 3 = 780 ∧ ((777 : Nat) : Int) + (-69) = ((708 : Nat) : Int) := ⟨by decide +kernel, rfl, rfl⟩
theorem dL_changes_780 : decode cL_changes 780 = .ok (.iload 8, 2) ∧ 780 + 2 = 782 := ⟨by decide +kernel, rfl⟩
theorem dL_changes_782 : decode cL_changes 782 = .ok (.bipush (-6), 2) ∧ 782 + 2 = 784 := ⟨by decide +kernel, rfl⟩
theorem dL_changes_784 : decode cL_changes 784 = .ok (.if_icmp .eq 10, 3) ∧ 784 + 3 = 787 ∧ ((784 : Nat) : Int) + (10) = ((794 : Nat) : Int) := ⟨by decide +kernel, rfl, rfl⟩
theorem dL_changes_787 : decode cL_changes 787 = .ok (.iload 8, 2) ∧ 787 + 2 = 789 := ⟨by decide +kernel, rfl⟩
theorem dL_changes_789 : decode cL_changes 789 = .ok (.iload 9, 2) ∧ 789 + 2 = 791 := ⟨by decide +kernel, rfl⟩
theorem dL_changes_791 : decode cL_changes 791 = .ok (.if_icmp .ne 7, 3) ∧ 791 + 3 = 794 ∧ ((791 : Nat) : Int) + (7) = ((798 : Nat) : Int) := ⟨by decide +kernel, rfl, rfl⟩
theorem dL_changes_794 : decode cL_changes 794 = .ok (.iconst 1, 1) ∧ 794 + 1 = 795 := ⟨by decide +kernel, rfl⟩
theorem dL_changes_795 : decode cL_changes 795 = .ok (.goto 4, 3) ∧ 795 + 3 = 798 ∧ ((795 : Nat) : Int) + (4) = ((799 : Nat) : Int) := ⟨by decide +kernel, rfl, rfl⟩
theorem dL_changes_798 : decode cL_changes 798 = .ok (.iconst 0, 1) ∧ 798 + 1 = 799 := ⟨by decide +kernel, rfl⟩
theorem dL_changes_799 : decode cL_changes 799 = .ok (.ireturn, 1) ∧ 799 + 1 = 800 := ⟨by decide +kernel, rfl⟩
theorem dL_changes_800 : decode cL_changes 800 = .ok (.iconst 1, 1) ∧ 800 + 1 = 801 := ⟨by decide +kernel, rfl⟩
theorem dL_changes_801 : decode cL_changes 801 = .ok (.iload_n 3, 1) ∧ 801 + 1 = 802 := ⟨by decide +kernel, rfl⟩
theorem dL_changes_802 : decode cL_changes 802 = .ok (.aload_n 0, 1) ∧ 802 + 1 = 803 := ⟨by decide +kernel, rfl⟩
theorem dL_changes_803 : decode cL_changes 803 = .ok (.iconst 1, 1) ∧ 803 + 1 = 804 := ⟨by decide +kernel, rfl⟩
theorem dL_changes_804 : decode cL_changes 804 = .ok (.invokevirtual 13, 3) ∧ 804 + 3 = 807 := ⟨by decide +kernel, rfl⟩
theorem dL_changes_807 : decode cL_changes 807 = .ok (.invokestatic 40, 3) ∧ 807 + 3 = 810 := ⟨by decide +kernel, rfl⟩
theorem dL_changes_810 : decode cL_changes 810 = .ok (.iadd, 1) ∧ 810 + 1 = 811 := ⟨by decide +kernel, rfl⟩
theorem dL_changes_811 : decode cL_changes 811 = .ok (.istore 7, 2) ∧ 811 + 2 = 813 := ⟨by decide +kernel, rfl⟩
theorem dL_changes_813 : decode cL_changes 813 = .ok (.aload_n 0, 1) ∧ 813 + 1 = 814 := ⟨by decide +kernel, rfl⟩
theorem dL_changes_814 : decode cL_changes 814 = .ok (.iload 7, 2) ∧ 814 + 2 = 816 := ⟨by decide +kernel, rfl⟩
theorem dL_changes_816 : decode cL_changes 816 = .ok (.iconst 5, 1) ∧ 816 + 1 = 817 := ⟨by decide +kernel, rfl⟩
theorem dL_changes_817 : decode cL_changes 817 = .ok (.invokevirtual 27, 3) ∧ 817 + 3 = 820 := ⟨by decide +kernel, rfl⟩
theorem dL_changes_820 : decode cL_changes 820 = .ok (.istore 8, 2) ∧ 820 + 2 = 822 := ⟨by decide +kernel, rfl⟩
theorem dL_changes_822 : decode cL_changes 822 = .ok (.aload_n 0, 1) ∧ 822 + 1 = 823 := ⟨by decide +kernel, rfl⟩
theorem dL_changes_823 : decode cL_changes 823 = .ok (.iload 7, 2) ∧ 823 + 2 = 825 := ⟨by decide +kernel, rfl⟩
theorem dL_changes_825 : decode cL_changes 825 = .ok (.invokevirtual 84, 3) ∧ 825 + 3 = 828 := ⟨by decide +kernel, rfl⟩
theorem dL_changes_828 : decode cL_changes 828 = .ok (.istore 9, 2) ∧ 828 + 2 = 830 := ⟨by decide +kernel, rfl⟩
theorem dL_changes_830 : decode cL_changes 830 = .ok (.aload_n 0, 1) ∧ 830 + 1 = 831 := ⟨by decide +kernel, rfl⟩
theorem dL_changes_831 : decode cL_changes 831 = .ok (.iload 7, 2) ∧ 831 + 2 = 833 := ⟨by decide +kernel, rfl⟩
theorem dL_changes_833 : decode cL_changes 833 = .ok (.iconst 0, 1) ∧ 833 + 1 = 834 := ⟨by decide +kernel, rfl⟩
theorem dL_changes_834 : decode cL_changes 834 = .ok (.invokevirtual 27, 3) ∧ 834 + 3 = 837 := ⟨by decide +kernel, rfl⟩
theorem dL_changes_837 : decode cL_changes 837 = .ok (.bipush (-2), 2) ∧ 837 + 2 = 839 := ⟨by decide +kernel, rfl⟩
theorem dL_changes_839 : decode cL_changes 839 = .ok (.if_icmp .ne 16, 3) ∧ 839 + 3 = 842 ∧ ((839 : Nat) : Int) + (16) = ((855 : Nat) : Int) := ⟨by decide +kernel, rfl, rfl⟩
theorem dL_changes_842 : decode cL_changes 842 = .ok (.iload 9, 2) ∧ 842 + 2 = 844 := ⟨by decide +kernel, rfl⟩
theorem dL_changes_844 : decode cL_changes 844 = .ok (.bipush (-2), 2) ∧ 844 + 2 = 846 := ⟨by decide +kernel, rfl⟩
theorem dL_changes_846 : decode cL_changes 846 = .ok (.if_icmp .ne 7, 3) ∧ 846 + 3 = 849 ∧ ((846 : Nat) : Int) + (7) = ((853 : Nat) : Int) := ⟨by decide +kernel, rfl, rfl⟩
theorem dL_changes_849 : decode cL_changes 849 = .ok (.iconst 1, 1) ∧ 849 + 1 = 850 := ⟨by decide +kernel, rfl⟩
theorem dL_changes_850 : decode cL_changes 850 = .ok (.goto 4, 3) ∧ 850 + 3 = 853 ∧ ((850 : Nat) : Int) + (4) = ((854 : Nat) : Int) := ⟨by decide +kernel, rfl, rfl⟩
theorem dL_changes_853 : decode cL_changes 853 = .ok (.iconst 0, 1) ∧ 853 + 1 = 854 := ⟨by decide +kernel, rfl⟩
theorem dL_changes_854 : decode cL_changes 854 = .ok (.ireturn, 1) ∧ 854 + 1 = 855 := ⟨by decide +kernel, rfl⟩
theorem dL_changes_855 : decode cL_changes 855 = .ok (.iload 9, 2) ∧ 855 + 2 = 857 := ⟨by decide +kernel, rfl⟩
theorem dL_changes_857 : decode cL_changes 857 = .ok (.bipush (-6), 2) ∧ 857 + 2 = 859 := ⟨by decide +kernel, rfl⟩
theorem dL_changes_859 : decode cL_changes 859 = .ok (.if_icmp .ne 16, 3) ∧ 859 + 3 = 862 ∧ ((859 : Nat) : Int) + (16) = ((875 : Nat) : Int) := ⟨by decide +kernel, rfl, rfl⟩
theorem dL_changes_862 : decode cL_changes 862 = .ok (.iload 8, 2) ∧ 862 + 2 = 864 := ⟨by decide +kernel, rfl⟩
theorem dL_changes_864 : decode cL_changes 864 = .ok (.ifCond .lt 7, 3) ∧ 864 + 3 = 867 ∧ ((864 : Nat) : Int) + (7) = ((871 : Nat) : Int) := ⟨by decide +kernel, rfl, rfl⟩
theorem dL_changes_867 : decode cL_changes 867 = .ok (.iconst 1, 1) ∧ 867 + 1 = 868 := ⟨by decide +kernel, rfl⟩
theorem dL_changes_868 : decode cL_changes 868 = .ok (.goto 36, 3) ∧ 868 + 3 = 871 ∧ ((868 : Nat) : Int) + (36) = ((904 : Nat) : Int) := ⟨by decide +kernel, rfl, rfl⟩
theorem dL_changes_871 : decode cL_changes 871 = .ok (.iconst 0, 1) ∧ 871 + 1 = 872 := ⟨by decide +kernel, rfl⟩
theorem dL_changes_872 : decode cL_changes 872 = .ok (.goto 32, 3) ∧ 872 + 3 = 875 ∧ ((872 : Nat) : Int) + (32) = ((904 : Nat) : Int) := ⟨by decide +kernel, rfl, rfl⟩
theorem dL_changes_875 : decode cL_changes 875 = .ok (.aload_n 0, 1) ∧ 875 + 1 = 876 := ⟨by decide +kernel, rfl⟩
theorem dL_changes_876 : decode cL_changes 876 = .ok (.iload 7, 2) ∧ 876 + 2 = 878 := ⟨by decide +kernel, rfl⟩
theorem dL_changes_878 : decode cL_changes 878 = .ok (.iconst 5, 1) ∧ 878 + 1 = 879 := ⟨by decide +kernel, rfl⟩
theorem dL_changes_879 : decode cL_changes 879 = .ok (.invokevirtual 27, 3) ∧ 879 + 3 = 882 := ⟨by decide +kernel, rfl⟩
theorem dL_changes_882 : decode cL_changes 882 = .ok (.iload 9, 2) ∧ 882 + 2 = 884 := ⟨by decide +kernel, rfl⟩
theorem dL_changes_884 : decode cL_changes 884 = .ok (.if_icmp .ne 19, 3) ∧ 884 + 3 = 887 ∧ ((884 : Nat) : Int) + (19) = ((903 : Nat) : Int) := ⟨by decide +kernel, rfl, rfl⟩
theorem dL_changes_887 : decode cL_changes 887 = .ok (.aload_n 0, 1) ∧ 887 + 1 = 888 := ⟨by decide +kernel, rfl⟩
theorem dL_changes_888 : decode cL_changes 888 = .ok (.iload 9, 2) ∧ 888 + 2 = 890 := ⟨by decide +kernel, rfl⟩
theorem dL_changes_890 : decode cL_changes 890 = .ok (.iconst 0, 1) ∧ 890 + 1 = 891 := ⟨by decide +kernel, rfl⟩
theorem dL_changes_891 : decode cL_changes 891 = .ok (.invokevirtual 21, 3) ∧ 891 + 3 = 894 := ⟨by decide +kernel, rfl⟩
theorem dL_changes_894 : decode cL_changes 894 = .ok (.iload 7, 2) ∧ 894 + 2 = 896 := ⟨by decide +kernel, rfl⟩
theorem dL_changes_896 : decode cL_changes 896 = .ok (.if_icmp .ne 7, 3) ∧ 896 + 3 = 899 ∧ ((896 : Nat) : Int) + (7) = ((903 : Nat) : Int) := ⟨by decide +kernel, rfl, rfl⟩
theorem dL_changes_899 : decode cL_changes 899 = .ok (.iconst 1, 1) ∧ 899 + 1 = 900 := ⟨by decide +kernel, rfl⟩
theorem dL_changes_900 : decode cL_changes 900 = .ok (.goto 4, 3) ∧ 900 + 3 = 903 ∧ ((900 : Nat) : Int) + (4) = ((904 : Nat) : Int) := ⟨by decide +kernel, rfl, rfl⟩
theorem dL_changes_903 : decode cL_changes 903 = .ok (.iconst 0, 1) ∧ 903 + 1 = 904 := ⟨by decide +kernel, rfl⟩
theorem dL_changes_904 : decode cL_changes 904 = .ok (.ireturn, 1) ∧ 904 + 1 = 905 := ⟨by decide +kernel, rfl⟩
theorem dL_law_0 : decode cL_law 0 = .ok (.new 14, 3) ∧ 0 + 3 = 3 := ⟨by decide +kernel, rfl⟩
theorem dL_law_3 : decode cL_law 3 = .ok (.dup, 1) ∧ 3 + 1 = 4 := ⟨by decide +kernel, rfl⟩
theorem dL_law_4 : decode cL_law 4 = .ok (.invokespecial 87, 3) ∧ 4 + 3 = 7 := ⟨by decide +kernel, rfl⟩
theorem dL_law_7 : decode cL_law 7 = .ok (.astore_n 1, 1) ∧ 7 + 1 = 8 := ⟨by decide +kernel, rfl⟩
theorem dL_law_8 : decode cL_law 8 = .ok (.aload_n 1, 1) ∧ 8 + 1 = 9 := ⟨by decide +kernel, rfl⟩
theorem dL_law_9 : decode cL_law 9 = .ok (.invokevirtual 88, 3) ∧ 9 + 3 = 12 := ⟨by decide +kernel, rfl⟩
theorem dL_law_12 : decode cL_law 12 = .ok (.bipush (-6), 2) ∧ 12 + 2 = 14 := ⟨by decide +kernel, rfl⟩
theorem dL_law_14 : decode cL_law 14 = .ok (.if_icmp .ne 70, 3) ∧ 14 + 3 = 17 ∧ ((14 : Nat) : Int) + (70) = ((84 : Nat) : Int) := ⟨by decide +kernel, rfl, rfl⟩
theorem dL_law_17 : decode cL_law 17 = .ok (.aload_n 1, 1) ∧ 17 + 1 = 18 := ⟨by decide +kernel, rfl⟩
theorem dL_law_18 : decode cL_law 18 = .ok (.invokevirtual 91, 3) ∧ 18 + 3 = 21 := ⟨by decide +kernel, rfl⟩
theorem dL_law_21 : decode cL_law 21 = .ok (.bipush (-6), 2) ∧ 21 + 2 = 23 := ⟨by decide +kernel, rfl⟩
theorem dL_law_23 : decode cL_law 23 = .ok (.if_icmp .ne 61, 3) ∧ 23 + 3 = 26 ∧ ((23 : Nat) : Int) + (61) = ((84 : Nat) : Int) := ⟨by decide +kernel, rfl, rfl⟩
theorem dL_law_26 : decode cL_law 26 = .ok (.aload_n 1, 1) ∧ 26 + 1 = 27 := ⟨by decide +kernel, rfl⟩
theorem dL_law_27 : decode cL_law 27 = .ok (.invokevirtual 94, 3) ∧ 27 + 3 = 30 := ⟨by decide +kernel, rfl⟩
theorem dL_law_30 : decode cL_law 30 = .ok (.bipush (-100), 2) ∧ 30 + 2 = 32 := ⟨by decide +kernel, rfl⟩
theorem dL_law_32 : decode cL_law 32 = .ok (.if_icmp .ne 52, 3) ∧ 32 + 3 = 35 ∧ ((32 : Nat) : Int) + (52) = ((84 : Nat) : Int) := ⟨by decide +kernel, rfl, rfl⟩
theorem dL_law_35 : decode cL_law 35 = .ok (.aload_n 1, 1) ∧ 35 + 1 = 36 := ⟨by decide +kernel, rfl⟩
theorem dL_law_36 : decode cL_law 36 = .ok (.iconst (-1), 1) ∧ 36 + 1 = 37 := ⟨by decide +kernel, rfl⟩
theorem dL_law_37 : decode cL_law 37 = .ok (.invokevirtual 53, 3) ∧ 37 + 3 = 40 := ⟨by decide +kernel, rfl⟩
theorem dL_law_40 : decode cL_law 40 = .ok (.bipush (-3), 2) ∧ 40 + 2 = 42 := ⟨by decide +kernel, rfl⟩
theorem dL_law_42 : decode cL_law 42 = .ok (.if_icmp .ne 42, 3) ∧ 42 + 3 = 45 ∧ ((42 : Nat) : Int) + (42) = ((84 : Nat) : Int) := ⟨by decide +kernel, rfl, rfl⟩
theorem dL_law_45 : decode cL_law 45 = .ok (.aload_n 1, 1) ∧ 45 + 1 = 46 := ⟨by decide +kernel, rfl⟩
theorem dL_law_46 : decode cL_law 46 = .ok (.iconst 3, 1) ∧ 46 + 1 = 47 := ⟨by decide +kernel, rfl⟩
theorem dL_law_47 : decode cL_law 47 = .ok (.invokevirtual 13, 3) ∧ 47 + 3 = 50 := ⟨by decide +kernel, rfl⟩
theorem dL_law_50 : decode cL_law 50 = .ok (.ifCond .ne 34, 3) ∧ 50 + 3 = 53 ∧ ((50 : Nat) : Int) + (34) = ((84 : Nat) : Int) := ⟨by decide +kernel, rfl, rfl⟩
theorem dL_law_53 : decode cL_law 53 = .ok (.aload_n 1, 1) ∧ 53 + 1 = 54 := ⟨by decide +kernel, rfl⟩
theorem dL_law_54 : decode cL_law 54 = .ok (.iconst 0, 1) ∧ 54 + 1 = 55 := ⟨by decide +kernel, rfl⟩
theorem dL_law_55 : decode cL_law 55 = .ok (.invokevirtual 62, 3) ∧ 55 + 3 = 58 := ⟨by decide +kernel, rfl⟩
theorem dL_law_58 : decode cL_law 58 = .ok (.bipush (-2), 2) ∧ 58 + 2 = 60 := ⟨by decide +kernel, rfl⟩
theorem dL_law_60 : decode cL_law 60 = .ok (.if_icmp .ne 24, 3) ∧ 60 + 3 = 63 ∧ ((60 : Nat) : Int) + (24) = ((84 : Nat) : Int) := ⟨by decide +kernel, rfl, rfl⟩
theorem dL_law_63 : decode cL_law 63 = .ok (.aload_n 1, 1) ∧ 63 + 1 = 64 := ⟨by decide +kernel, rfl⟩
theorem dL_law_64 : decode cL_law 64 = .ok (.iconst (-1), 1) ∧ 64 + 1 = 65 := ⟨by decide +kernel, rfl⟩
theorem dL_law_65 : decode cL_law 65 = .ok (.iconst 0, 1) ∧ 65 + 1 = 66 := ⟨by decide +kernel, rfl⟩
theorem dL_law_66 : decode cL_law 66 = .ok (.invokevirtual 97, 3) ∧ 66 + 3 = 69 := ⟨by decide +kernel, rfl⟩
theorem dL_law_69 : decode cL_law 69 = .ok (.bipush (-6), 2) ∧ 69 + 2 = 71 := ⟨by decide +kernel, rfl⟩
theorem dL_law_71 : decode cL_law 71 = .ok (.if_icmp .ne 13, 3) ∧ 71 + 3 = 74 ∧ ((71 : Nat) : Int) + (13) = ((84 : Nat) : Int) := ⟨by decide +kernel, rfl, rfl⟩
theorem dL_law_74 : decode cL_law 74 = .ok (.aload_n 1, 1) ∧ 74 + 1 = 75 := ⟨by decide +kernel, rfl⟩
theorem dL_law_75 : decode cL_law 75 = .ok (.iconst 0, 1) ∧ 75 + 1 = 76 := ⟨by decide +kernel, rfl⟩
theorem dL_law_76 : decode cL_law 76 = .ok (.invokevirtual 84, 3) ∧ 76 + 3 = 79 := ⟨by decide +kernel, rfl⟩
theorem dL_law_79 : decode cL_law 79 = .ok (.bipush (-2), 2) ∧ 79 + 2 = 81 := ⟨by decide +kernel, rfl⟩
theorem dL_law_81 : decode cL_law 81 = .ok (.if_icmp .eq 5, 3) ∧ 81 + 3 = 84 ∧ ((81 : Nat) : Int) + (5) = ((86 : Nat) : Int) := ⟨by decide +kernel, rfl, rfl⟩
theorem dL_law_84 : decode cL_law 84 = .ok (.iconst 0, 1) ∧ 84 + 1 = 85 := ⟨by decide +kernel, rfl⟩
theorem dL_law_85 : decode cL_law 85 = .ok (.ireturn, 1) ∧ 85 + 1 = 86 := ⟨by decide +kernel, rfl⟩
theorem dL_law_86 : decode cL_law 86 = .ok (.iconst 0, 1) ∧ 86 + 1 = 87 := ⟨by decide +kernel, rfl⟩
theorem dL_law_87 : decode cL_law 87 = .ok (.istore_n 2, 1) ∧ 87 + 1 = 88 := ⟨by decide +kernel, rfl⟩
theorem dL_law_88 : decode cL_law 88 = .ok (.iload_n 2, 1) ∧ 88 + 1 = 89 := ⟨by decide +kernel, rfl⟩
theorem dL_law_89 : decode cL_law 89 = .ok (.bipush 18, 2) ∧ 89 + 2 = 91 := ⟨by decide +kernel, rfl⟩
theorem dL_law_91 : decode cL_law 91 = .ok (.if_icmp .ge 243, 3) ∧ 91 + 3 = 94 ∧ ((91 : Nat) : Int) + (243) = ((334 : Nat) : Int) := ⟨by decide +kernel, rfl, rfl⟩
theorem dL_law_94 : decode cL_law 94 = .ok (.aload_n 0, 1) ∧ 94 + 1 = 95 := ⟨by decide +kernel, rfl⟩
theorem dL_law_95 : decode cL_law 95 = .ok (.iconst 2, 1) ∧ 95 + 1 = 96 := ⟨by decide +kernel, rfl⟩
theorem dL_law_96 : decode cL_law 96 = .ok (.iload_n 2, 1) ∧ 96 + 1 = 97 := ⟨by decide +kernel, rfl⟩
theorem dL_law_97 : decode cL_law 97 = .ok (.imul, 1) ∧ 97 + 1 = 98 := ⟨by decide +kernel, rfl⟩
theorem dL_law_98 : decode cL_law 98 = .ok (.invokestatic 100, 3) ∧ 98 + 3 = 101 := ⟨by decide +kernel, rfl⟩
theorem dL_law_101 : decode cL_law 101 = .ok (.istore_n 3, 1) ∧ 101 + 1 = 102 := ⟨by decide +kernel, rfl⟩
theorem dL_law_102 : decode cL_law 102 = .ok (.aload_n 0, 1) ∧ 102 + 1 = 103 := ⟨by decide +kernel, rfl⟩
theorem dL_law_103 : decode cL_law 103 = .ok (.iconst 2, 1) ∧ 103 + 1 = 104 := ⟨by decide +kernel, rfl⟩
theorem dL_law_104 : decode cL_law 104 = .ok (.iload_n 2, 1) ∧ 104 + 1 = 105 := ⟨by decide +kernel, rfl⟩
theorem dL_law_105 : decode cL_law 105 = .ok (.imul, 1) ∧ 105 + 1 = 106 := ⟨by decide +kernel, rfl⟩
theorem dL_law_106 : decode cL_law 106 = .ok (.iconst 1, 1) ∧ 106 + 1 = 107 := ⟨by decide +kernel, rfl⟩
theorem dL_law_107 : decode cL_law 107 = .ok (.iadd, 1) ∧ 107 + 1 = 108 := ⟨by decide +kernel, rfl⟩
theorem dL_law_108 : decode cL_law 108 = .ok (.invokestatic 100, 3) ∧ 108 + 3 = 111 := ⟨by decide +kernel, rfl⟩
theorem dL_law_111 : decode cL_law 111 = .ok (.istore 4, 2) ∧ 111 + 2 = 113 := ⟨by decide +kernel, rfl⟩
theorem dL_law_113 : decode cL_law 113 = .ok (.iload_n 2, 1) ∧ 113 + 1 = 114 := ⟨by decide +kernel, rfl⟩
theorem dL_law_114 : decode cL_law 114 = .ok (.iconst 4, 1) ∧ 114 + 1 = 115 := ⟨by decide +kernel, rfl⟩
theorem dL_law_115 : decode cL_law 115 = .ok (.if_icmp .ge 7, 3) ∧ 115 + 3 = 118 ∧ ((115 : Nat) : Int) + (7) = ((122 : Nat) : Int) := ⟨by decide +kernel, rfl, rfl⟩
theorem dL_law_118 : decode cL_law 118 = .ok (.iconst 0, 1) ∧ 118 + 1 = 119 := ⟨by decide +kernel, rfl⟩
theorem dL_law_119 : decode cL_law 119 = .ok (.goto 12, 3) ∧ 119 + 3 = 122 ∧ ((119 : Nat) : Int) + (12) = ((131 : Nat) : Int) := ⟨by decide +kernel, rfl, rfl⟩
theorem dL_law_122 : decode cL_law 122 = .ok (.iload_n 3, 1) ∧ 122 + 1 = 123 := ⟨by decide +kernel, rfl⟩
theorem dL_law_123 : decode cL_law 123 = .ok (.bipush 9, 2) ∧ 123 + 2 = 125 := ⟨by decide +kernel, rfl⟩
theorem dL_law_125 : decode cL_law 125 = .ok (.ishr, 1) ∧ 125 + 1 = 126 := ⟨by decide +kernel, rfl⟩
theorem dL_law_126 : decode cL_law 126 = .ok (.bipush 17, 2) ∧ 126 + 2 = 128 := ⟨by decide +kernel, rfl⟩
theorem dL_law_128 : decode cL_law 128 = .ok (.invokestatic 40, 3) ∧ 128 + 3 = 131 := ⟨by decide +kernel, rfl⟩
theorem dL_law_131 : decode cL_law 131 = .ok (.istore 5, 2) ∧ 131 + 2 = 133 := ⟨by decide +kernel, rfl⟩
theorem dL_law_133 : decode cL_law 133 = .ok (.aload_n 1, 1) ∧ 133 + 1 = 134 := ⟨by decide +kernel, rfl⟩
theorem dL_law_134 : decode cL_law 134 = .ok (.bipush 7, 2) ∧ 134 + 2 = 136 := ⟨by decide +kernel, rfl⟩
theorem dL_law_136 : decode cL_law 136 = .ok (.invokevirtual 13, 3) ∧ 136 + 3 = 139 := ⟨by decide +kernel, rfl⟩
theorem dL_law_139 : decode cL_law 139 = .ok (.istore 6, 2) ∧ 139 + 2 = 141 := ⟨by decide +kernel, rfl⟩
theorem dL_law_141 : decode cL_law 141 = .ok (.aload_n 1, 1) ∧ 141 + 1 = 142 := ⟨by decide +kernel, rfl⟩
theorem dL_law_142 : decode cL_law 142 = .ok (.invokestatic 104, 3) ∧ 142 + 3 = 145 := ⟨by decide +kernel, rfl⟩
theorem dL_law_145 : decode cL_law 145 = .ok (.lstore 7, 2) ∧ 145 + 2 = 147 := ⟨by decide +kernel, rfl⟩
theorem dL_law_147 : decode cL_law 147 = .ok (.iload 5, 2) ∧ 147 + 2 = 149 := ⟨by decide +kernel, rfl⟩
theorem dL_law_149 : decode cL_law 149 = .ok (.bipush 9, 2) ∧ 149 + 2 = 151 := ⟨by decide +kernel, rfl⟩
theorem dL_law_151 : decode cL_law 151 = .ok (.if_icmp .ge 15, 3) ∧ 151 + 3 = 154 ∧ ((151 : Nat) : Int) + (15) = ((166 : Nat) : Int) := ⟨by decide +kernel, rfl, rfl⟩
theorem dL_law_154 : decode cL_law 154 = .ok (.aload_n 1, 1) ∧ 154 + 1 = 155 := ⟨by decide +kernel, rfl⟩
theorem dL_law_155 : decode cL_law 155 = .ok (.iload 5, 2) ∧ 155 + 2 = 157 := ⟨by decide +kernel, rfl⟩
theorem dL_law_157 : decode cL_law 157 = .ok (.iload_n 3, 1) ∧ 157 + 1 = 158 := ⟨by decide +kernel, rfl⟩
theorem dL_law_158 : decode cL_law 158 = .ok (.iload 4, 2) ∧ 158 + 2 = 160 := ⟨by decide +kernel, rfl⟩
theorem dL_law_160 : decode cL_law 160 = .ok (.invokestatic 108, 3) ∧ 160 + 3 = 163 := ⟨by decide +kernel, rfl⟩
theorem dL_law_163 : decode cL_law 163 = .ok (.goto 12, 3) ∧ 163 + 3 = 166 ∧ ((163 : Nat) : Int) + (12) = ((175 : Nat) : Int) := ⟨by decide +kernel, rfl, rfl⟩
theorem dL_law_166 : decode cL_law 166 = .ok (.aload_n 1, 1) ∧ 166 + 1 = 167 := ⟨by decide +kernel, rfl⟩
theorem dL_law_167 : decode cL_law 167 = .ok (.iload 5, 2) ∧ 167 + 2 = 169 := ⟨by decide +kernel, rfl⟩
theorem dL_law_169 : decode cL_law 169 = .ok (.iload_n 3, 1) ∧ 169 + 1 = 170 := ⟨by decide +kernel, rfl⟩
theorem dL_law_170 : decode cL_law 170 = .ok (.iload 4, 2) ∧ 170 + 2 = 172 := ⟨by decide +kernel, rfl⟩
theorem dL_law_172 : decode cL_law 172 = .ok (.invokestatic 112, 3) ∧ 172 + 3 = 175 := ⟨by decide +kernel, rfl⟩
theorem dL_law_175 : decode cL_law 175 = .ok (.istore 9, 2) ∧ 175 + 2 = 177 := ⟨by decide +kernel, rfl⟩
theorem dL_law_177 : decode cL_law 177 = .ok (.iload 6, 2) ∧ 177 + 2 = 179 := ⟨by decide +kernel, rfl⟩
theorem dL_law_179 : decode cL_law 179 = .ok (.iconst 5, 1) ∧ 179 + 1 = 180 := ⟨by decide +kernel, rfl⟩
theorem dL_law_180 : decode cL_law 180 = .ok (.if_icmp .ne 7, 3) ∧ 180 + 3 = 183 ∧ ((180 : Nat) : Int) + (7) = ((187 : Nat) : Int) := ⟨by decide +kernel, rfl, rfl⟩
theorem dL_law_183 : decode cL_law 183 = .ok (.iconst 4, 1) ∧ 183 + 1 = 184 := ⟨by decide +kernel, rfl⟩
theorem dL_law_184 : decode cL_law 184 = .ok (.goto 5, 3) ∧ 184 + 3 = 187 ∧ ((184 : Nat) : Int) + (5) = ((189 : Nat) : Int) := ⟨by decide +kernel, rfl, rfl⟩
theorem dL_law_187 : decode cL_law 187 = .ok (.iload 6, 2) ∧ 187 + 2 = 189 := ⟨by decide +kernel, rfl⟩
theorem dL_law_189 : decode cL_law 189 = .ok (.istore 10, 2) ∧ 189 + 2 = 191 := ⟨by decide +kernel, rfl⟩
theorem dL_law_191 : decode cL_law 191 = .ok (.iload 9, 2) ∧ 191 + 2 = 193 := ⟨by decide +kernel, rfl⟩
theorem dL_law_193 : decode cL_law 193 = .ok (.ifCond .eq 65, 3) ∧ 193 + 3 = 196 ∧ ((193 : Nat) : Int) + (65) = ((258 : Nat) : Int) := ⟨by decide +kernel, rfl, rfl⟩
theorem dL_law_196 : decode cL_law 196 = .ok (.iload 4, 2) ∧ 196 + 2 = 198 := ⟨by decide +kernel, rfl⟩
theorem dL_law_198 : decode cL_law 198 = .ok (.sipush 3072, 3) ∧ 198 + 3 = 201 := ⟨by decide +kernel, rfl⟩
theorem dL_law_201 : decode cL_law 201 = .ok (.iand, 1) ∧ 201 + 1 = 202 := ⟨by decide +kernel, rfl⟩
theorem dL_law_202 : decode cL_law 202 = .ok (.ifCond .ne 56, 3) ∧ 202 + 3 = 205 ∧ ((202 : Nat) : Int) + (56) = ((258 : Nat) : Int) := ⟨by decide +kernel, rfl, rfl⟩
theorem dL_law_205 : decode cL_law 205 = .ok (.aload_n 1, 1) ∧ 205 + 1 = 206 := ⟨by decide +kernel, rfl⟩
theorem dL_law_206 : decode cL_law 206 = .ok (.bipush 7, 2) ∧ 206 + 2 = 208 := ⟨by decide +kernel, rfl⟩
theorem dL_law_208 : decode cL_law 208 = .ok (.invokevirtual 13, 3) ∧ 208 + 3 = 211 := ⟨by decide +kernel, rfl⟩
theorem dL_law_211 : decode cL_law 211 = .ok (.iload 6, 2) ∧ 211 + 2 = 213 := ⟨by decide +kernel, rfl⟩
theorem dL_law_213 : decode cL_law 213 = .ok (.if_icmp .ne 19, 3) ∧ 213 + 3 = 216 ∧ ((213 : Nat) : Int) + (19) = ((232 : Nat) : Int) := ⟨by decide +kernel, rfl, rfl⟩
theorem dL_law_216 : decode cL_law 216 = .ok (.iload 6, 2) ∧ 216 + 2 = 218 := ⟨by decide +kernel, rfl⟩
theorem dL_law_218 : decode cL_law 218 = .ok (.iconst 5, 1) ∧ 218 + 1 = 219 := ⟨by decide +kernel, rfl⟩
theorem dL_law_219 : decode cL_law 219 = .ok (.if_icmp .ne 39, 3) ∧ 219 + 3 = 222 ∧ ((219 : Nat) : Int) + (39) = ((258 : Nat) : Int) := ⟨by decide +kernel, rfl, rfl⟩
theorem dL_law_222 : decode cL_law 222 = .ok (.aload_n 1, 1) ∧ 222 + 1 = 223 := ⟨by decide +kernel, rfl⟩
theorem dL_law_223 : decode cL_law 223 = .ok (.invokestatic 104, 3) ∧ 223 + 3 = 226 := ⟨by decide +kernel, rfl⟩
theorem dL_law_226 : decode cL_law 226 = .ok (.lload 7, 2) ∧ 226 + 2 = 228 := ⟨by decide +kernel, rfl⟩
theorem dL_law_228 : decode cL_law 228 = .ok (.lcmp, 1) ∧ 228 + 1 = 229 := ⟨by decide +kernel, rfl⟩
theorem dL_law_229 : decode cL_law 229 = .ok (.ifCond .eq 29, 3) ∧ 229 + 3 = 232 ∧ ((229 : Nat) : Int) + (29) = ((258 : Nat) : Int) := ⟨by decide +kernel, rfl, rfl⟩
theorem dL_law_232 : decode cL_law 232 = .ok (.aload_n 1, 1) ∧ 232 + 1 = 233 := ⟨by decide +kernel, rfl⟩
theorem dL_law_233 : decode cL_law 233 = .ok (.invokevirtual 88, 3) ∧ 233 + 3 = 236 := ⟨by decide +kernel, rfl⟩
theorem dL_law_236 : decode cL_law 236 = .ok (.iload 10, 2) ∧ 236 + 2 = 238 := ⟨by decide +kernel, rfl⟩
theorem dL_law_238 : decode cL_law 238 = .ok (.if_icmp .ne 17, 3) ∧ 238 + 3 = 241 ∧ ((238 : Nat) : Int) + (17) = ((255 : Nat) : Int) := ⟨by decide +kernel, rfl, rfl⟩
theorem dL_law_241 : decode cL_law 241 = .ok (.aload_n 1, 1) ∧ 241 + 1 = 242 := ⟨by decide +kernel, rfl⟩
theorem dL_law_242 : decode cL_law 242 = .ok (.invokestatic 104, 3) ∧ 242 + 3 = 245 := ⟨by decide +kernel, rfl⟩
theorem dL_law_245 : decode cL_law 245 = .ok (.lload 7, 2) ∧ 245 + 2 = 247 := ⟨by decide +kernel, rfl⟩
theorem dL_law_247 : decode cL_law 247 = .ok (.lcmp, 1) ∧ 247 + 1 = 248 := ⟨by decide +kernel, rfl⟩
theorem dL_law_248 : decode cL_law 248 = .ok (.ifCond .ne 7, 3) ∧ 248 + 3 = 251 ∧ ((248 : Nat) : Int) + (7) = ((255 : Nat) : Int) := ⟨by decide +kernel, rfl, rfl⟩
theorem dL_law_251 : decode cL_law 251 = .ok (.iconst 1, 1) ∧ 251 + 1 = 252 := ⟨by decide +kernel, rfl⟩
theorem dL_law_252 : decode cL_law 252 = .ok (.goto 4, 3) ∧ 252 + 3 = 255 ∧ ((252 : Nat) : Int) + (4) = ((256 : Nat) : Int) := ⟨by decide +kernel, rfl, rfl⟩
theorem dL_law_255 : decode cL_law 255 = .ok (.iconst 0, 1) ∧ 255 + 1 = 256 := ⟨by decide +kernel, rfl⟩
theorem dL_law_256 : decode cL_law 256 = .ok (.istore 9, 2) ∧ 256 + 2 = 258 := ⟨by decide +kernel, rfl⟩
theorem dL_law_258 : decode cL_law 258 = .ok (.iload 9, 2) ∧ 258 + 2 = 260 := ⟨by decide +kernel, rfl⟩
theorem dL_law_260 : decode cL_law 260 = .ok (.ifCond .eq 10, 3) ∧ 260 + 3 = 263 ∧ ((260 : Nat) : Int) + (10) = ((270 : Nat) : Int) := ⟨by decide +kernel, rfl, rfl⟩
theorem dL_law_263 : decode cL_law 263 = .ok (.aload_n 1, 1) ∧ 263 + 1 = 264 := ⟨by decide +kernel, rfl⟩
theorem dL_law_264 : decode cL_law 264 = .ok (.invokestatic 115, 3) ∧ 264 + 3 = 267 := ⟨by decide +kernel, rfl⟩
theorem dL_law_267 : decode cL_law 267 = .ok (.ifCond .ne 5, 3) ∧ 267 + 3 = 270 ∧ ((267 : Nat) : Int) + (5) = ((272 : Nat) : Int) := ⟨by decide +kernel, rfl, rfl⟩
theorem dL_law_270 : decode cL_law 270 = .ok (.iconst 0, 1) ∧ 270 + 1 = 271 := ⟨by decide +kernel, rfl⟩
theorem dL_law_271 : decode cL_law 271 = .ok (.ireturn, 1) ∧ 271 + 1 = 272 := ⟨by decide +kernel, rfl⟩
theorem dL_law_272 : decode cL_law 272 = .ok (.aload_n 1, 1) ∧ 272 + 1 = 273 := ⟨by decide +kernel, rfl⟩
theorem dL_law_273 : decode cL_law 273 = .ok (.iconst 3, 1) ∧ 273 + 1 = 274 := ⟨by decide +kernel, rfl⟩
theorem dL_law_274 : decode cL_law 274 = .ok (.invokevirtual 13, 3) ∧ 274 + 3 = 277 := ⟨by decide +kernel, rfl⟩
theorem dL_law_277 : decode cL_law 277 = .ok (.istore 11, 2) ∧ 277 + 2 = 279 := ⟨by decide +kernel, rfl⟩
theorem dL_law_279 : decode cL_law 279 = .ok (.iload 11, 2) ∧ 279 + 2 = 281 := ⟨by decide +kernel, rfl⟩
theorem dL_law_281 : decode cL_law 281 = .ok (.ifCond .le 47, 3) ∧ 281 + 3 = 284 ∧ ((281 : Nat) : Int) + (47) = ((328 : Nat) : Int) := ⟨by decide +kernel, rfl, rfl⟩
theorem dL_law_284 : decode cL_law 284 = .ok (.aload_n 1, 1) ∧ 284 + 1 = 285 := ⟨by decide +kernel, rfl⟩
theorem dL_law_285 : decode cL_law 285 = .ok (.iload_n 3, 1) ∧ 285 + 1 = 286 := ⟨by decide +kernel, rfl⟩
theorem dL_law_286 : decode cL_law 286 = .ok (.iconst 3, 1) ∧ 286 + 1 = 287 := ⟨by decide +kernel, rfl⟩
theorem dL_law_287 : decode cL_law 287 = .ok (.ishr, 1) ∧ 287 + 1 = 288 := ⟨by decide +kernel, rfl⟩
theorem dL_law_288 : decode cL_law 288 = .ok (.iload 11, 2) ∧ 288 + 2 = 290 := ⟨by decide +kernel, rfl⟩
theorem dL_law_290 : decode cL_law 290 = .ok (.invokestatic 40, 3) ∧ 290 + 3 = 293 := ⟨by decide +kernel, rfl⟩
theorem dL_law_293 : decode cL_law 293 = .ok (.invokestatic 119, 3) ∧ 293 + 3 = 296 := ⟨by decide +kernel, rfl⟩
theorem dL_law_296 : decode cL_law 296 = .ok (.ifCond .eq 30, 3) ∧ 296 + 3 = 299 ∧ ((296 : Nat) : Int) + (30) = ((326 : Nat) : Int) := ⟨by decide +kernel, rfl, rfl⟩
theorem dL_law_299 : decode cL_law 299 = .ok (.aload_n 1, 1) ∧ 299 + 1 = 300 := ⟨by decide +kernel, rfl⟩
theorem dL_law_300 : decode cL_law 300 = .ok (.iload 4, 2) ∧ 300 + 2 = 302 := ⟨by decide +kernel, rfl⟩
theorem dL_law_302 : decode cL_law 302 = .ok (.iconst 2, 1) ∧ 302 + 1 = 303 := ⟨by decide +kernel, rfl⟩
theorem dL_law_303 : decode cL_law 303 = .ok (.ishr, 1) ∧ 303 + 1 = 304 := ⟨by decide +kernel, rfl⟩
theorem dL_law_304 : decode cL_law 304 = .ok (.iload 11, 2) ∧ 304 + 2 = 306 := ⟨by decide +kernel, rfl⟩
theorem dL_law_306 : decode cL_law 306 = .ok (.invokestatic 40, 3) ∧ 306 + 3 = 309 := ⟨by decide +kernel, rfl⟩
theorem dL_law_309 : decode cL_law 309 = .ok (.invokestatic 119, 3) ∧ 309 + 3 = 312 := ⟨by decide +kernel, rfl⟩
theorem dL_law_312 : decode cL_law 312 = .ok (.ifCond .eq 14, 3) ∧ 312 + 3 = 315 ∧ ((312 : Nat) : Int) + (14) = ((326 : Nat) : Int) := ⟨by decide +kernel, rfl, rfl⟩
theorem dL_law_315 : decode cL_law 315 = .ok (.aload_n 1, 1) ∧ 315 + 1 = 316 := ⟨by decide +kernel, rfl⟩
theorem dL_law_316 : decode cL_law 316 = .ok (.iload 11, 2) ∧ 316 + 2 = 318 := ⟨by decide +kernel, rfl⟩
theorem dL_law_318 : decode cL_law 318 = .ok (.iconst 1, 1) ∧ 318 + 1 = 319 := ⟨by decide +kernel, rfl⟩
theorem dL_law_319 : decode cL_law 319 = .ok (.isub, 1) ∧ 319 + 1 = 320 := ⟨by decide +kernel, rfl⟩
theorem dL_law_320 : decode cL_law 320 = .ok (.invokestatic 119, 3) ∧ 320 + 3 = 323 := ⟨by decide +kernel, rfl⟩
theorem dL_law_323 : decode cL_law 323 = .ok (.ifCond .ne 5, 3) ∧ 323 + 3 = 326 ∧ ((323 : Nat) : Int) + (5) = ((328 : Nat) : Int) := ⟨by decide +kernel, rfl, rfl⟩
theorem dL_law_326 : decode cL_law 326 = .ok (.iconst 0, 1) ∧ 326 + 1 = 327 := ⟨by decide +kernel, rfl⟩
theorem dL_law_327 : decode cL_law 327 = .ok (.ireturn, 1) ∧ 327 + 1 = 328 := ⟨by decide +kernel, rfl⟩
theorem dL_law_328 : decode cL_law 328 = .ok (.iinc 2 1, 3) ∧ 328 + 3 = 331 := ⟨by decide +kernel, rfl⟩
theorem dL_law_331 : decode cL_law 331 = .ok (.goto (-243), 3) ∧ 331 + 3 = 334 ∧ ((331 : Nat) : Int) + (-243) = ((88 : Nat) : Int) := ⟨by decide +kernel, rfl, rfl⟩
theorem dL_law_334 : decode cL_law 334 = .ok (.iconst 1, 1) ∧ 334 + 1 = 335 := ⟨by decide +kernel, rfl⟩
theorem dL_law_335 : decode cL_law 335 = .ok (.ireturn, 1) ∧ 335 + 1 = 336 := ⟨by decide +kernel, rfl⟩
