theorem dX0_init_0 : decode cX0_init 0 = .ok (.aload_n 0, 1) ∧ 0 + 1 = 1 := ⟨by decide +kernel, rfl⟩
theorem dX0_init_1 : decode cX0_init 1 = .ok (.invokespecial 3, 3) ∧ 1 + 3 = 4 := ⟨by decide +kernel, rfl⟩
theorem dX0_init_4 : decode cX0_init 4 = .ok (.aload_n 0, 1) ∧ 4 + 1 = 5 := ⟨by decide +kernel, rfl⟩
theorem dX0_init_5 : decode cX0_init 5 = .ok (.iconst 5, 1) ∧ 5 + 1 = 6 := ⟨by decide +kernel, rfl⟩
theorem dX0_init_6 : decode cX0_init 6 = .ok (.anewarray 9, 3) ∧ 6 + 3 = 9 := ⟨by decide +kernel, rfl⟩
theorem dX0_init_9 : decode cX0_init 9 = .ok (.putfield 11, 3) ∧ 9 + 3 = 12 := ⟨by decide +kernel, rfl⟩
theorem dX0_init_12 : decode cX0_init 12 = .ok (.iconst 0, 1) ∧ 12 + 1 = 13 := ⟨by decide +kernel, rfl⟩
theorem dX0_init_13 : decode cX0_init 13 = .ok (.istore_n 1, 1) ∧ 13 + 1 = 14 := ⟨by decide +kernel, rfl⟩
theorem dX0_init_14 : decode cX0_init 14 = .ok (.iload_n 1, 1) ∧ 14 + 1 = 15 := ⟨by decide +kernel, rfl⟩
theorem dX0_init_15 : decode cX0_init 15 = .ok (.iconst 5, 1) ∧ 15 + 1 = 16 := ⟨by decide +kernel, rfl⟩
theorem dX0_init_16 : decode cX0_init 16 = .ok (.if_icmp .ge 22, 3) ∧ 16 + 3 = 19 ∧ ((16 : Nat) : Int) + (22) = ((38 : Nat) : Int) := ⟨by decide +kernel, rfl, rfl⟩
theorem dX0_init_19 : decode cX0_init 19 = .ok (.aload_n 0, 1) ∧ 19 + 1 = 20 := ⟨by decide +kernel, rfl⟩
theorem dX0_init_20 : decode cX0_init 20 = .ok (.getfield 11, 3) ∧ 20 + 3 = 23 := ⟨by decide +kernel, rfl⟩
theorem dX0_init_23 : decode cX0_init 23 = .ok (.iload_n 1, 1) ∧ 23 + 1 = 24 := ⟨by decide +kernel, rfl⟩
theorem dX0_init_24 : decode cX0_init 24 = .ok (.new 9, 3) ∧ 24 + 3 = 27 := ⟨by decide +kernel, rfl⟩
theorem dX0_init_27 : decode cX0_init 27 = .ok (.dup, 1) ∧ 27 + 1 = 28 := ⟨by decide +kernel, rfl⟩
theorem dX0_init_28 : decode cX0_init 28 = .ok (.invokespecial 17, 3) ∧ 28 + 3 = 31 := ⟨by decide +kernel, rfl⟩
theorem dX0_init_31 : decode cX0_init 31 = .ok (.aastore, 1) ∧ 31 + 1 = 32 := ⟨by decide +kernel, rfl⟩
theorem dX0_init_32 : decode cX0_init 32 = .ok (.iinc 1 1, 3) ∧ 32 + 3 = 35 := ⟨by decide +kernel, rfl⟩
theorem dX0_init_35 : decode cX0_init 35 = .ok (.goto (-21), 3) ∧ 35 + 3 = 38 ∧ ((35 : Nat) : Int) + (-21) = ((14 : Nat) : Int) := ⟨by decide +kernel, rfl, rfl⟩
theorem dX0_init_38 : decode cX0_init 38 = .ok (.return_, 1) ∧ 38 + 1 = 39 := ⟨by decide +kernel, rfl⟩
theorem dX0_push_0 : decode cX0_push 0 = .ok (.aload_n 0, 1) ∧ 0 + 1 = 1 := ⟨by decide +kernel, rfl⟩
theorem dX0_push_1 : decode cX0_push 1 = .ok (.getfield 18, 3) ∧ 1 + 3 = 4 := ⟨by decide +kernel, rfl⟩
theorem dX0_push_4 : decode cX0_push 4 = .ok (.iconst 5, 1) ∧ 4 + 1 = 5 := ⟨by decide +kernel, rfl⟩
theorem dX0_push_5 : decode cX0_push 5 = .ok (.if_icmp .lt 20, 3) ∧ 5 + 3 = 8 ∧ ((5 : Nat) : Int) + (20) = ((25 : Nat) : Int) := ⟨by decide +kernel, rfl, rfl⟩
theorem dX0_push_8 : decode cX0_push 8 = .ok (.aload_n 0, 1) ∧ 8 + 1 = 9 := ⟨by decide +kernel, rfl⟩
theorem dX0_push_9 : decode cX0_push 9 = .ok (.aload_n 0, 1) ∧ 9 + 1 = 10 := ⟨by decide +kernel, rfl⟩
theorem dX0_push_10 : decode cX0_push 10 = .ok (.getfield 22, 3) ∧ 10 + 3 = 13 := ⟨by decide +kernel, rfl⟩
theorem dX0_push_13 : decode cX0_push 13 = .ok (.iconst 1, 1) ∧ 13 + 1 = 14 := ⟨by decide +kernel, rfl⟩
theorem dX0_push_14 : decode cX0_push 14 = .ok (.iadd, 1) ∧ 14 + 1 = 15 := ⟨by decide +kernel, rfl⟩
theorem dX0_push_15 : decode cX0_push 15 = .ok (.iconst 5, 1) ∧ 15 + 1 = 16 := ⟨by decide +kernel, rfl⟩
theorem dX0_push_16 : decode cX0_push 16 = .ok (.irem, 1) ∧ 16 + 1 = 17 := ⟨by decide +kernel, rfl⟩
theorem dX0_push_17 : decode cX0_push 17 = .ok (.putfield 22, 3) ∧ 17 + 3 = 20 := ⟨by decide +kernel, rfl⟩
theorem dX0_push_20 : decode cX0_push 20 = .ok (.aload_n 0, 1) ∧ 20 + 1 = 21 := ⟨by decide +kernel, rfl⟩
theorem dX0_push_21 : decode cX0_push 21 = .ok (.iconst 4, 1) ∧ 21 + 1 = 22 := ⟨by decide +kernel, rfl⟩
theorem dX0_push_22 : decode cX0_push 22 = .ok (.putfield 18, 3) ∧ 22 + 3 = 25 := ⟨by decide +kernel, rfl⟩
theorem dX0_push_25 : decode cX0_push 25 = .ok (.aload_n 0, 1) ∧ 25 + 1 = 26 := ⟨by decide +kernel, rfl⟩
theorem dX0_push_26 : decode cX0_push 26 = .ok (.getfield 11, 3) ∧ 26 + 3 = 29 := ⟨by decide +kernel, rfl⟩
theorem dX0_push_29 : decode cX0_push 29 = .ok (.aload_n 0, 1) ∧ 29 + 1 = 30 := ⟨by decide +kernel, rfl⟩
theorem dX0_push_30 : decode cX0_push 30 = .ok (.getfield 22, 3) ∧ 30 + 3 = 33 := ⟨by decide +kernel, rfl⟩
theorem dX0_push_33 : decode cX0_push 33 = .ok (.aload_n 0, 1) ∧ 33 + 1 = 34 := ⟨by decide +kernel, rfl⟩
theorem dX0_push_34 : decode cX0_push 34 = .ok (.getfield 18, 3) ∧ 34 + 3 = 37 := ⟨by decide +kernel, rfl⟩
theorem dX0_push_37 : decode cX0_push 37 = .ok (.iadd, 1) ∧ 37 + 1 = 38 := ⟨by decide +kernel, rfl⟩
theorem dX0_push_38 : decode cX0_push 38 = .ok (.iconst 5, 1) ∧ 38 + 1 = 39 := ⟨by decide +kernel, rfl⟩
theorem dX0_push_39 : decode cX0_push 39 = .ok (.invokestatic 25, 3) ∧ 39 + 3 = 42 := ⟨by decide +kernel, rfl⟩
theorem dX0_push_42 : decode cX0_push 42 = .ok (.aaload, 1) ∧ 42 + 1 = 43 := ⟨by decide +kernel, rfl⟩
theorem dX0_push_43 : decode cX0_push 43 = .ok (.aload_n 1, 1) ∧ 43 + 1 = 44 := ⟨by decide +kernel, rfl⟩
theorem dX0_push_44 : decode cX0_push 44 = .ok (.invokevirtual 31, 3) ∧ 44 + 3 = 47 := ⟨by decide +kernel, rfl⟩
theorem dX0_push_47 : decode cX0_push 47 = .ok (.aload_n 0, 1) ∧ 47 + 1 = 48 := ⟨by decide +kernel, rfl⟩
theorem dX0_push_48 : decode cX0_push 48 = .ok (.dup, 1) ∧ 48 + 1 = 49 := ⟨by decide +kernel, rfl⟩
theorem dX0_push_49 : decode cX0_push 49 = .ok (.getfield 18, 3) ∧ 49 + 3 = 52 := ⟨by decide +kernel, rfl⟩
theorem dX0_push_52 : decode cX0_push 52 = .ok (.iconst 1, 1) ∧ 52 + 1 = 53 := ⟨by decide +kernel, rfl⟩
theorem dX0_push_53 : decode cX0_push 53 = .ok (.iadd, 1) ∧ 53 + 1 = 54 := ⟨by decide +kernel, rfl⟩
theorem dX0_push_54 : decode cX0_push 54 = .ok (.putfield 18, 3) ∧ 54 + 3 = 57 := ⟨by decide +kernel, rfl⟩
theorem dX0_push_57 : decode cX0_push 57 = .ok (.return_, 1) ∧ 57 + 1 = 58 := ⟨by decide +kernel, rfl⟩
theorem dX0_popInto_0 : decode cX0_popInto 0 = .ok (.aload_n 0, 1) ∧ 0 + 1 = 1 := ⟨by decide +kernel, rfl⟩
theorem dX0_popInto_1 : decode cX0_popInto 1 = .ok (.getfield 18, 3) ∧ 1 + 3 = 4 := ⟨by decide +kernel, rfl⟩
theorem dX0_popInto_4 : decode cX0_popInto 4 = .ok (.ifCond .gt 5, 3) ∧ 4 + 3 = 7 ∧ ((4 : Nat) : Int) + (5) = ((9 : Nat) : Int) := ⟨by decide +kernel, rfl, rfl⟩
theorem dX0_popInto_7 : decode cX0_popInto 7 = .ok (.iconst 0, 1) ∧ 7 + 1 = 8 := ⟨by decide +kernel, rfl⟩
theorem dX0_popInto_8 : decode cX0_popInto 8 = .ok (.ireturn, 1) ∧ 8 + 1 = 9 := ⟨by decide +kernel, rfl⟩
theorem dX0_popInto_9 : decode cX0_popInto 9 = .ok (.aload_n 0, 1) ∧ 9 + 1 = 10 := ⟨by decide +kernel, rfl⟩
theorem dX0_popInto_10 : decode cX0_popInto 10 = .ok (.dup, 1) ∧ 10 + 1 = 11 := ⟨by decide +kernel, rfl⟩
theorem dX0_popInto_11 : decode cX0_popInto 11 = .ok (.getfield 18, 3) ∧ 11 + 3 = 14 := ⟨by decide +kernel, rfl⟩
theorem dX0_popInto_14 : decode cX0_popInto 14 = .ok (.iconst 1, 1) ∧ 14 + 1 = 15 := ⟨by decide +kernel, rfl⟩
theorem dX0_popInto_15 : decode cX0_popInto 15 = .ok (.isub, 1) ∧ 15 + 1 = 16 := ⟨by decide +kernel, rfl⟩
theorem dX0_popInto_16 : decode cX0_popInto 16 = .ok (.putfield 18, 3) ∧ 16 + 3 = 19 := ⟨by decide +kernel, rfl⟩
theorem dX0_popInto_19 : decode cX0_popInto 19 = .ok (.aload_n 1, 1) ∧ 19 + 1 = 20 := ⟨by decide +kernel, rfl⟩
theorem dX0_popInto_20 : decode cX0_popInto 20 = .ok (.aload_n 0, 1) ∧ 20 + 1 = 21 := ⟨by decide +kernel, rfl⟩
theorem dX0_popInto_21 : decode cX0_popInto 21 = .ok (.getfield 11, 3) ∧ 21 + 3 = 24 := ⟨by decide +kernel, rfl⟩
theorem dX0_popInto_24 : decode cX0_popInto 24 = .ok (.aload_n 0, 1) ∧ 24 + 1 = 25 := ⟨by decide +kernel, rfl⟩
theorem dX0_popInto_25 : decode cX0_popInto 25 = .ok (.getfield 22, 3) ∧ 25 + 3 = 28 := ⟨by decide +kernel, rfl⟩
theorem dX0_popInto_28 : decode cX0_popInto 28 = .ok (.aload_n 0, 1) ∧ 28 + 1 = 29 := ⟨by decide +kernel, rfl⟩
theorem dX0_popInto_29 : decode cX0_popInto 29 = .ok (.getfield 18, 3) ∧ 29 + 3 = 32 := ⟨by decide +kernel, rfl⟩
theorem dX0_popInto_32 : decode cX0_popInto 32 = .ok (.iadd, 1) ∧ 32 + 1 = 33 := ⟨by decide +kernel, rfl⟩
theorem dX0_popInto_33 : decode cX0_popInto 33 = .ok (.iconst 5, 1) ∧ 33 + 1 = 34 := ⟨by decide +kernel, rfl⟩
theorem dX0_popInto_34 : decode cX0_popInto 34 = .ok (.invokestatic 25, 3) ∧ 34 + 3 = 37 := ⟨by decide +kernel, rfl⟩
theorem dX0_popInto_37 : decode cX0_popInto 37 = .ok (.aaload, 1) ∧ 37 + 1 = 38 := ⟨by decide +kernel, rfl⟩
theorem dX0_popInto_38 : decode cX0_popInto 38 = .ok (.invokevirtual 31, 3) ∧ 38 + 3 = 41 := ⟨by decide +kernel, rfl⟩
theorem dX0_popInto_41 : decode cX0_popInto 41 = .ok (.iconst 1, 1) ∧ 41 + 1 = 42 := ⟨by decide +kernel, rfl⟩
theorem dX0_popInto_42 : decode cX0_popInto 42 = .ok (.ireturn, 1) ∧ 42 + 1 = 43 := ⟨by decide +kernel, rfl⟩
theorem dX1_init_0 : decode cX1_init 0 = .ok (.aload_n 0, 1) ∧ 0 + 1 = 1 := ⟨by decide +kernel, rfl⟩
theorem dX1_init_1 : decode cX1_init 1 = .ok (.invokespecial 3, 3) ∧ 1 + 3 = 4 := ⟨by decide +kernel, rfl⟩
theorem dX1_init_4 : decode cX1_init 4 = .ok (.aload_n 0, 1) ∧ 4 + 1 = 5 := ⟨by decide +kernel, rfl⟩
theorem dX1_init_5 : decode cX1_init 5 = .ok (.bipush 120, 2) ∧ 5 + 2 = 7 := ⟨by decide +kernel, rfl⟩
theorem dX1_init_7 : decode cX1_init 7 = .ok (.newarray .int, 2) ∧ 7 + 2 = 9 := ⟨by decide +kernel, rfl⟩
theorem dX1_init_9 : decode cX1_init 9 = .ok (.putfield 9, 3) ∧ 9 + 3 = 12 := ⟨by decide +kernel, rfl⟩
theorem dX1_init_12 : decode cX1_init 12 = .ok (.aload_n 0, 1) ∧ 12 + 1 = 13 := ⟨by decide +kernel, rfl⟩
theorem dX1_init_13 : decode cX1_init 13 = .ok (.bipush 120, 2) ∧ 13 + 2 = 15 := ⟨by decide +kernel, rfl⟩
theorem dX1_init_15 : decode cX1_init 15 = .ok (.newarray .int, 2) ∧ 15 + 2 = 17 := ⟨by decide +kernel, rfl⟩
theorem dX1_init_17 : decode cX1_init 17 = .ok (.putfield 15, 3) ∧ 17 + 3 = 20 := ⟨by decide +kernel, rfl⟩
theorem dX1_init_20 : decode cX1_init 20 = .ok (.return_, 1) ∧ 20 + 1 = 21 := ⟨by decide +kernel, rfl⟩
theorem dX1_copyFrom_0 : decode cX1_copyFrom 0 = .ok (.aload_n 0, 1) ∧ 0 + 1 = 1 := ⟨by decide +kernel, rfl⟩
theorem dX1_copyFrom_1 : decode cX1_copyFrom 1 = .ok (.aload_n 1, 1) ∧ 1 + 1 = 2 := ⟨by decide +kernel, rfl⟩
theorem dX1_copyFrom_2 : decode cX1_copyFrom 2 = .ok (.getfield 18, 3) ∧ 2 + 3 = 5 := ⟨by decide +kernel, rfl⟩
theorem dX1_copyFrom_5 : decode cX1_copyFrom 5 = .ok (.putfield 18, 3) ∧ 5 + 3 = 8 := ⟨by decide +kernel, rfl⟩
theorem dX1_copyFrom_8 : decode cX1_copyFrom 8 = .ok (.aload_n 1, 1) ∧ 8 + 1 = 9 := ⟨by decide +kernel, rfl⟩
theorem dX1_copyFrom_9 : decode cX1_copyFrom 9 = .ok (.getfield 9, 3) ∧ 9 + 3 = 12 := ⟨by decide +kernel, rfl⟩
theorem dX1_copyFrom_12 : decode cX1_copyFrom 12 = .ok (.iconst 0, 1) ∧ 12 + 1 = 13 := ⟨by decide +kernel, rfl⟩
theorem dX1_copyFrom_13 : decode cX1_copyFrom 13 = .ok (.aload_n 0, 1) ∧ 13 + 1 = 14 := ⟨by decide +kernel, rfl⟩
theorem dX1_copyFrom_14 : decode cX1_copyFrom 14 = .ok (.getfield 9, 3) ∧ 14 + 3 = 17 := ⟨by decide +kernel, rfl⟩
theorem dX1_copyFrom_17 : decode cX1_copyFrom 17 = .ok (.iconst 0, 1) ∧ 17 + 1 = 18 := ⟨by decide +kernel, rfl⟩
theorem dX1_copyFrom_18 : decode cX1_copyFrom 18 = .ok (.bipush 120, 2) ∧ 18 + 2 = 20 := ⟨by decide +kernel, rfl⟩
theorem dX1_copyFrom_20 : decode cX1_copyFrom 20 = .ok (.invokestatic 22, 3) ∧ 20 + 3 = 23 := ⟨by decide +kernel, rfl⟩
theorem dX1_copyFrom_23 : decode cX1_copyFrom 23 = .ok (.aload_n 1, 1) ∧ 23 + 1 = 24 := ⟨by decide +kernel, rfl⟩
theorem dX1_copyFrom_24 : decode cX1_copyFrom 24 = .ok (.getfield 15, 3) ∧ 24 + 3 = 27 := ⟨by decide +kernel, rfl⟩
theorem dX1_copyFrom_27 : decode cX1_copyFrom 27 = .ok (.iconst 0, 1) ∧ 27 + 1 = 28 := ⟨by decide +kernel, rfl⟩
theorem dX1_copyFrom_28 : decode cX1_copyFrom 28 = .ok (.aload_n 0, 1) ∧ 28 + 1 = 29 := ⟨by decide +kernel, rfl⟩
theorem dX1_copyFrom_29 : decode cX1_copyFrom 29 = .ok (.getfield 15, 3) ∧ 29 + 3 = 32 := ⟨by decide +kernel, rfl⟩
theorem dX1_copyFrom_32 : decode cX1_copyFrom 32 = .ok (.iconst 0, 1) ∧ 32 + 1 = 33 := ⟨by decide +kernel, rfl⟩
theorem dX1_copyFrom_33 : decode cX1_copyFrom 33 = .ok (.bipush 120, 2) ∧ 33 + 2 = 35 := ⟨by decide +kernel, rfl⟩
theorem dX1_copyFrom_35 : decode cX1_copyFrom 35 = .ok (.invokestatic 22, 3) ∧ 35 + 3 = 38 := ⟨by decide +kernel, rfl⟩
theorem dX1_copyFrom_38 : decode cX1_copyFrom 38 = .ok (.return_, 1) ∧ 38 + 1 = 39 := ⟨by decide +kernel, rfl⟩
theorem dX1_append_0 : decode cX1_append 0 = .ok (.aload_n 0, 1) ∧ 0 + 1 = 1 := ⟨by decide +kernel, rfl⟩
theorem dX1_append_1 : decode cX1_append 1 = .ok (.getfield 18, 3) ∧ 1 + 3 = 4 := ⟨by decide +kernel, rfl⟩
theorem dX1_append_4 : decode cX1_append 4 = .ok (.ifCond .lt 12, 3) ∧ 4 + 3 = 7 ∧ ((4 : Nat) : Int) + (12) = ((16 : Nat) : Int) := ⟨by decide +kernel, rfl, rfl⟩
theorem dX1_append_7 : decode cX1_append 7 = .ok (.aload_n 0, 1) ∧ 7 + 1 = 8 := ⟨by decide +kernel, rfl⟩
theorem dX1_append_8 : decode cX1_append 8 = .ok (.getfield 18, 3) ∧ 8 + 3 = 11 := ⟨by decide +kernel, rfl⟩
theorem dX1_append_11 : decode cX1_append 11 = .ok (.bipush 120, 2) ∧ 11 + 2 = 13 := ⟨by decide +kernel, rfl⟩
theorem dX1_append_13 : decode cX1_append 13 = .ok (.if_icmp .lt 5, 3) ∧ 13 + 3 = 16 ∧ ((13 : Nat) : Int) + (5) = ((18 : Nat) : Int) := ⟨by decide +kernel, rfl, rfl⟩
theorem dX1_append_16 : decode cX1_append 16 = .ok (.iconst 0, 1) ∧ 16 + 1 = 17 := ⟨by decide +kernel, rfl⟩
theorem dX1_append_17 : decode cX1_append 17 = .ok (.ireturn, 1) ∧ 17 + 1 = 18 := ⟨by decide +kernel, rfl⟩
theorem dX1_append_18 : decode cX1_append 18 = .ok (.aload_n 0, 1) ∧ 18 + 1 = 19 := ⟨by decide +kernel, rfl⟩
theorem dX1_append_19 : decode cX1_append 19 = .ok (.getfield 9, 3) ∧ 19 + 3 = 22 := ⟨by decide +kernel, rfl⟩
theorem dX1_append_22 : decode cX1_append 22 = .ok (.aload_n 0, 1) ∧ 22 + 1 = 23 := ⟨by decide +kernel, rfl⟩
theorem dX1_append_23 : decode cX1_append 23 = .ok (.getfield 18, 3) ∧ 23 + 3 = 26 := ⟨by decide +kernel, rfl⟩
theorem dX1_append_26 : decode cX1_append 26 = .ok (.iload_n 1, 1) ∧ 26 + 1 = 27 := ⟨by decide +kernel, rfl⟩
theorem dX1_append_27 : decode cX1_append 27 = .ok (.iastore, 1) ∧ 27 + 1 = 28 := ⟨by decide +kernel, rfl⟩
theorem dX1_append_28 : decode cX1_append 28 = .ok (.aload_n 0, 1) ∧ 28 + 1 = 29 := ⟨by decide +kernel, rfl⟩
theorem dX1_append_29 : decode cX1_append 29 = .ok (.getfield 15, 3) ∧ 29 + 3 = 32 := ⟨by decide +kernel, rfl⟩
theorem dX1_append_32 : decode cX1_append 32 = .ok (.aload_n 0, 1) ∧ 32 + 1 = 33 := ⟨by decide +kernel, rfl⟩
theorem dX1_append_33 : decode cX1_append 33 = .ok (.getfield 18, 3) ∧ 33 + 3 = 36 := ⟨by decide +kernel, rfl⟩
theorem dX1_append_36 : decode cX1_append 36 = .ok (.iload_n 2, 1) ∧ 36 + 1 = 37 := ⟨by decide +kernel, rfl⟩
theorem dX1_append_37 : decode cX1_append 37 = .ok (.iastore, 1) ∧ 37 + 1 = 38 := ⟨by decide +kernel, rfl⟩
theorem dX1_append_38 : decode cX1_append 38 = .ok (.aload_n 0, 1) ∧ 38 + 1 = 39 := ⟨by decide +kernel, rfl⟩
theorem dX1_append_39 : decode cX1_append 39 = .ok (.dup, 1) ∧ 39 + 1 = 40 := ⟨by decide +kernel, rfl⟩
theorem dX1_append_40 : decode cX1_append 40 = .ok (.getfield 18, 3) ∧ 40 + 3 = 43 := ⟨by decide +kernel, rfl⟩
theorem dX1_append_43 : decode cX1_append 43 = .ok (.iconst 1, 1) ∧ 43 + 1 = 44 := ⟨by decide +kernel, rfl⟩
theorem dX1_append_44 : decode cX1_append 44 = .ok (.iadd, 1) ∧ 44 + 1 = 45 := ⟨by decide +kernel, rfl⟩
theorem dX1_append_45 : decode cX1_append 45 = .ok (.putfield 18, 3) ∧ 45 + 3 = 48 := ⟨by decide +kernel, rfl⟩
theorem dX1_append_48 : decode cX1_append 48 = .ok (.iconst 1, 1) ∧ 48 + 1 = 49 := ⟨by decide +kernel, rfl⟩
theorem dX1_append_49 : decode cX1_append 49 = .ok (.ireturn, 1) ∧ 49 + 1 = 50 := ⟨by decide +kernel, rfl⟩
theorem dX1_indexOf_0 : decode cX1_indexOf 0 = .ok (.iconst 0, 1) ∧ 0 + 1 = 1 := ⟨by decide +kernel, rfl⟩
theorem dX1_indexOf_1 : decode cX1_indexOf 1 = .ok (.istore_n 3, 1) ∧ 1 + 1 = 2 := ⟨by decide +kernel, rfl⟩
theorem dX1_indexOf_2 : decode cX1_indexOf 2 = .ok (.iload_n 3, 1) ∧ 2 + 1 = 3 := ⟨by decide +kernel, rfl⟩
theorem dX1_indexOf_3 : decode cX1_indexOf 3 = .ok (.aload_n 0, 1) ∧ 3 + 1 = 4 := ⟨by decide +kernel, rfl⟩
theorem dX1_indexOf_4 : decode cX1_indexOf 4 = .ok (.getfield 18, 3) ∧ 4 + 3 = 7 := ⟨by decide +kernel, rfl⟩
theorem dX1_indexOf_7 : decode cX1_indexOf 7 = .ok (.if_icmp .ge 31, 3) ∧ 7 + 3 = 10 ∧ ((7 : Nat) : Int) + (31) = ((38 : Nat) : Int) := ⟨by decide +kernel, rfl, rfl⟩
theorem dX1_indexOf_10 : decode cX1_indexOf 10 = .ok (.aload_n 0, 1) ∧ 10 + 1 = 11 := ⟨by decide +kernel, rfl⟩
theorem dX1_indexOf_11 : decode cX1_indexOf 11 = .ok (.getfield 9, 3) ∧ 11 + 3 = 14 := ⟨by decide +kernel, rfl⟩
theorem dX1_indexOf_14 : decode cX1_indexOf 14 = .ok (.iload_n 3, 1) ∧ 14 + 1 = 15 := ⟨by decide +kernel, rfl⟩
theorem dX1_indexOf_15 : decode cX1_indexOf 15 = .ok (.iaload, 1) ∧ 15 + 1 = 16 := ⟨by decide +kernel, rfl⟩
theorem dX1_indexOf_16 : decode cX1_indexOf 16 = .ok (.iload_n 1, 1) ∧ 16 + 1 = 17 := ⟨by decide +kernel, rfl⟩
theorem dX1_indexOf_17 : decode cX1_indexOf 17 = .ok (.if_icmp .ne 15, 3) ∧ 17 + 3 = 20 ∧ ((17 : Nat) : Int) + (15) = ((32 : Nat) : Int) := ⟨by decide +kernel, rfl, rfl⟩
theorem dX1_indexOf_20 : decode cX1_indexOf 20 = .ok (.aload_n 0, 1) ∧ 20 + 1 = 21 := ⟨by decide +kernel, rfl⟩
theorem dX1_indexOf_21 : decode cX1_indexOf 21 = .ok (.getfield 15, 3) ∧ 21 + 3 = 24 := ⟨by decide +kernel, rfl⟩
theorem dX1_indexOf_24 : decode cX1_indexOf 24 = .ok (.iload_n 3, 1) ∧ 24 + 1 = 25 := ⟨by decide +kernel, rfl⟩
theorem dX1_indexOf_25 : decode cX1_indexOf 25 = .ok (.iaload, 1) ∧ 25 + 1 = 26 := ⟨by decide +kernel, rfl⟩
theorem dX1_indexOf_26 : decode cX1_indexOf 26 = .ok (.iload_n 2, 1) ∧ 26 + 1 = 27 := ⟨by decide +kernel, rfl⟩
theorem dX1_indexOf_27 : decode cX1_indexOf 27 = .ok (.if_icmp .ne 5, 3) ∧ 27 + 3 = 30 ∧ ((27 : Nat) : Int) + (5) = ((32 : Nat) : Int) := ⟨by decide +kernel, rfl, rfl⟩
theorem dX1_indexOf_30 : decode cX1_indexOf 30 = .ok (.iload_n 3, 1) ∧ 30 + 1 = 31 := ⟨by decide +kernel, rfl⟩
theorem dX1_indexOf_31 : decode cX1_indexOf 31 = .ok (.ireturn, 1) ∧ 31 + 1 = 32 := ⟨by decide +kernel, rfl⟩
theorem dX1_indexOf_32 : decode cX1_indexOf 32 = .ok (.iinc 3 1, 3) ∧ 32 + 3 = 35 := ⟨by decide +kernel, rfl⟩
theorem dX1_indexOf_35 : decode cX1_indexOf 35 = .ok (.goto (-33), 3) ∧ 35 + 3 = 38 ∧ ((35 : Nat) : Int) + (-33) = ((2 : Nat) : Int) := ⟨by decide +kernel, rfl, rfl⟩
theorem dX1_indexOf_38 : decode cX1_indexOf 38 = .ok (.iconst (-1), 1) ∧ 38 + 1 = 39 := ⟨by decide +kernel, rfl⟩
theorem dX1_indexOf_39 : decode cX1_indexOf 39 = .ok (.ireturn, 1) ∧ 39 + 1 = 40 := ⟨by decide +kernel, rfl⟩
theorem dX1_drop_0 : decode cX1_drop 0 = .ok (.aload_n 0, 1) ∧ 0 + 1 = 1 := ⟨by decide +kernel, rfl⟩
theorem dX1_drop_1 : decode cX1_drop 1 = .ok (.iload_n 1, 1) ∧ 1 + 1 = 2 := ⟨by decide +kernel, rfl⟩
theorem dX1_drop_2 : decode cX1_drop 2 = .ok (.iload_n 2, 1) ∧ 2 + 1 = 3 := ⟨by decide +kernel, rfl⟩
theorem dX1_drop_3 : decode cX1_drop 3 = .ok (.invokevirtual 28, 3) ∧ 3 + 3 = 6 := ⟨by decide +kernel, rfl⟩
theorem dX1_drop_6 : decode cX1_drop 6 = .ok (.istore_n 3, 1) ∧ 6 + 1 = 7 := ⟨by decide +kernel, rfl⟩
theorem dX1_drop_7 : decode cX1_drop 7 = .ok (.iload_n 3, 1) ∧ 7 + 1 = 8 := ⟨by decide +kernel, rfl⟩
theorem dX1_drop_8 : decode cX1_drop 8 = .ok (.iconst (-1), 1) ∧ 8 + 1 = 9 := ⟨by decide +kernel, rfl⟩
theorem dX1_drop_9 : decode cX1_drop 9 = .ok (.if_icmp .ne 4, 3) ∧ 9 + 3 = 12 ∧ ((9 : Nat) : Int) + (4) = ((13 : Nat) : Int) := ⟨by decide +kernel, rfl, rfl⟩
theorem dX1_drop_12 : decode cX1_drop 12 = .ok (.return_, 1) ∧ 12 + 1 = 13 := ⟨by decide +kernel, rfl⟩
theorem dX1_drop_13 : decode cX1_drop 13 = .ok (.iload_n 3, 1) ∧ 13 + 1 = 14 := ⟨by decide +kernel, rfl⟩
theorem dX1_drop_14 : decode cX1_drop 14 = .ok (.iconst 1, 1) ∧ 14 + 1 = 15 := ⟨by decide +kernel, rfl⟩
theorem dX1_drop_15 : decode cX1_drop 15 = .ok (.iadd, 1) ∧ 15 + 1 = 16 := ⟨by decide +kernel, rfl⟩
theorem dX1_drop_16 : decode cX1_drop 16 = .ok (.istore 4, 2) ∧ 16 + 2 = 18 := ⟨by decide +kernel, rfl⟩
theorem dX1_drop_18 : decode cX1_drop 18 = .ok (.iload 4, 2) ∧ 18 + 2 = 20 := ⟨by decide +kernel, rfl⟩
theorem dX1_drop_20 : decode cX1_drop 20 = .ok (.aload_n 0, 1) ∧ 20 + 1 = 21 := ⟨by decide +kernel, rfl⟩
theorem dX1_drop_21 : decode cX1_drop 21 = .ok (.getfield 18, 3) ∧ 21 + 3 = 24 := ⟨by decide +kernel, rfl⟩
theorem dX1_drop_24 : decode cX1_drop 24 = .ok (.if_icmp .ge 41, 3) ∧ 24 + 3 = 27 ∧ ((24 : Nat) : Int) + (41) = ((65 : Nat) : Int) := ⟨by decide +kernel, rfl, rfl⟩
theorem dX1_drop_27 : decode cX1_drop 27 = .ok (.aload_n 0, 1) ∧ 27 + 1 = 28 := ⟨by decide +kernel, rfl⟩
theorem dX1_drop_28 : decode cX1_drop 28 = .ok (.getfield 9, 3) ∧ 28 + 3 = 31 := ⟨by decide +kernel, rfl⟩
theorem dX1_drop_31 : decode cX1_drop 31 = .ok (.iload 4, 2) ∧ 31 + 2 = 33 := ⟨by decide +kernel, rfl⟩
theorem dX1_drop_33 : decode cX1_drop 33 = .ok (.iconst 1, 1) ∧ 33 + 1 = 34 := ⟨by decide +kernel, rfl⟩
theorem dX1_drop_34 : decode cX1_drop 34 = .ok (.isub, 1) ∧ 34 + 1 = 35 := ⟨by decide +kernel, rfl⟩
theorem dX1_drop_35 : decode cX1_drop 35 = .ok (.aload_n 0, 1) ∧ 35 + 1 = 36 := ⟨by decide +kernel, rfl⟩
theorem dX1_drop_36 : decode cX1_drop 36 = .ok (.getfield 9, 3) ∧ 36 + 3 = 39 := ⟨by decide +kernel, rfl⟩
theorem dX1_drop_39 : decode cX1_drop 39 = .ok (.iload 4, 2) ∧ 39 + 2 = 41 := ⟨by decide +kernel, rfl⟩
theorem dX1_drop_41 : decode cX1_drop 41 = .ok (.iaload, 1) ∧ 41 + 1 = 42 := ⟨by decide +kernel, rfl⟩
theorem dX1_drop_42 : decode cX1_drop 42 = .ok (.iastore, 1) ∧ 42 + 1 = 43 := ⟨by decide +kernel, rfl⟩
theorem dX1_drop_43 : decode cX1_drop 43 = .ok (.aload_n 0, 1) ∧ 43 + 1 = 44 := ⟨by decide +kernel, rfl⟩
theorem dX1_drop_44 : decode cX1_drop 44 = .ok (.getfield 15, 3) ∧ 44 + 3 = 47 := ⟨by decide +kernel, rfl⟩
theorem dX1_drop_47 : decode cX1_drop 47 = .ok (.iload 4, 2) ∧ 47 + 2 = 49 := ⟨by decide +kernel, rfl⟩
theorem dX1_drop_49 : decode cX1_drop 49 = .ok (.iconst 1, 1) ∧ 49 + 1 = 50 := ⟨by decide +kernel, rfl⟩
theorem dX1_drop_50 : decode cX1_drop 50 = .ok (.isub, 1) ∧ 50 + 1 = 51 := ⟨by decide +kernel, rfl⟩
theorem dX1_drop_51 : decode cX1_drop 51 = .ok (.aload_n 0, 1) ∧ 51 + 1 = 52 := ⟨by decide +kernel, rfl⟩
theorem dX1_drop_52 : decode cX1_drop 52 = .ok (.getfield 15, 3) ∧ 52 + 3 = 55 := ⟨by decide +kernel, rfl⟩
theorem dX1_drop_55 : decode cX1_drop 55 = .ok (.iload 4, 2) ∧ 55 + 2 = 57 := ⟨by decide +kernel, rfl⟩
theorem dX1_drop_57 : decode cX1_drop 57 = .ok (.iaload, 1) ∧ 57 + 1 = 58 := ⟨by decide +kernel, rfl⟩
theorem dX1_drop_58 : decode cX1_drop 58 = .ok (.iastore, 1) ∧ 58 + 1 = 59 := ⟨by decide +kernel, rfl⟩
theorem dX1_drop_59 : decode cX1_drop 59 = .ok (.iinc 4 1, 3) ∧ 59 + 3 = 62 := ⟨by decide +kernel, rfl⟩
theorem dX1_drop_62 : decode cX1_drop 62 = .ok (.goto (-44), 3) ∧ 62 + 3 = 65 ∧ ((62 : Nat) : Int) + (-44) = ((18 : Nat) : Int) := ⟨by decide +kernel, rfl, rfl⟩
theorem dX1_drop_65 : decode cX1_drop 65 = .ok (.aload_n 0, 1) ∧ 65 + 1 = 66 := ⟨by decide +kernel, rfl⟩
theorem dX1_drop_66 : decode cX1_drop 66 = .ok (.dup, 1) ∧ 66 + 1 = 67 := ⟨by decide +kernel, rfl⟩
theorem dX1_drop_67 : decode cX1_drop 67 = .ok (.getfield 18, 3) ∧ 67 + 3 = 70 := ⟨by decide +kernel, rfl⟩
theorem dX1_drop_70 : decode cX1_drop 70 = .ok (.iconst 1, 1) ∧ 70 + 1 = 71 := ⟨by decide +kernel, rfl⟩
theorem dX1_drop_71 : decode cX1_drop 71 = .ok (.isub, 1) ∧ 71 + 1 = 72 := ⟨by decide +kernel, rfl⟩
theorem dX1_drop_72 : decode cX1_drop 72 = .ok (.putfield 18, 3) ∧ 72 + 3 = 75 := ⟨by decide +kernel, rfl⟩
theorem dX1_drop_75 : decode cX1_drop 75 = .ok (.return_, 1) ∧ 75 + 1 = 76 := ⟨by decide +kernel, rfl⟩
theorem dX1_keepParents_0 : decode cX1_keepParents 0 = .ok (.iconst 0, 1) ∧ 0 + 1 = 1 := ⟨by decide +kernel, rfl⟩
theorem dX1_keepParents_1 : decode cX1_keepParents 1 = .ok (.istore_n 3, 1) ∧ 1 + 1 = 2 := ⟨by decide +kernel, rfl⟩
theorem dX1_keepParents_2 : decode cX1_keepParents 2 = .ok (.iconst 0, 1) ∧ 2 + 1 = 3 := ⟨by decide +kernel, rfl⟩
theorem dX1_keepParents_3 : decode cX1_keepParents 3 = .ok (.istore 4, 2) ∧ 3 + 2 = 5 := ⟨by decide +kernel, rfl⟩
theorem dX1_keepParents_5 : decode cX1_keepParents 5 = .ok (.iload 4, 2) ∧ 5 + 2 = 7 := ⟨by decide +kernel, rfl⟩
theorem dX1_keepParents_7 : decode cX1_keepParents 7 = .ok (.aload_n 0, 1) ∧ 7 + 1 = 8 := ⟨by decide +kernel, rfl⟩
theorem dX1_keepParents_8 : decode cX1_keepParents 8 = .ok (.getfield 18, 3) ∧ 8 + 3 = 11 := ⟨by decide +kernel, rfl⟩
theorem dX1_keepParents_11 : decode cX1_keepParents 11 = .ok (.if_icmp .ge 54, 3) ∧ 11 + 3 = 14 ∧ ((11 : Nat) : Int) + (54) = ((65 : Nat) : Int) := ⟨by decide +kernel, rfl, rfl⟩
theorem dX1_keepParents_14 : decode cX1_keepParents 14 = .ok (.lload_n 1, 1) ∧ 14 + 1 = 15 := ⟨by decide +kernel, rfl⟩
theorem dX1_keepParents_15 : decode cX1_keepParents 15 = .ok (.aload_n 0, 1) ∧ 15 + 1 = 16 := ⟨by decide +kernel, rfl⟩
theorem dX1_keepParents_16 : decode cX1_keepParents 16 = .ok (.getfield 9, 3) ∧ 16 + 3 = 19 := ⟨by decide +kernel, rfl⟩
theorem dX1_keepParents_19 : decode cX1_keepParents 19 = .ok (.iload 4, 2) ∧ 19 + 2 = 21 := ⟨by decide +kernel, rfl⟩
theorem dX1_keepParents_21 : decode cX1_keepParents 21 = .ok (.iaload, 1) ∧ 21 + 1 = 22 := ⟨by decide +kernel, rfl⟩
theorem dX1_keepParents_22 : decode cX1_keepParents 22 = .ok (.lshr, 1) ∧ 22 + 1 = 23 := ⟨by decide +kernel, rfl⟩
theorem dX1_keepParents_23 : decode cX1_keepParents 23 = .ok (.lconst 1, 1) ∧ 23 + 1 = 24 := ⟨by decide +kernel, rfl⟩
theorem dX1_keepParents_24 : decode cX1_keepParents 24 = .ok (.land, 1) ∧ 24 + 1 = 25 := ⟨by decide +kernel, rfl⟩
theorem dX1_keepParents_25 : decode cX1_keepParents 25 = .ok (.lconst 1, 1) ∧ 25 + 1 = 26 := ⟨by decide +kernel, rfl⟩
theorem dX1_keepParents_26 : decode cX1_keepParents 26 = .ok (.lcmp, 1) ∧ 26 + 1 = 27 := ⟨by decide +kernel, rfl⟩
theorem dX1_keepParents_27 : decode cX1_keepParents 27 = .ok (.ifCond .ne 32, 3) ∧ 27 + 3 = 30 ∧ ((27 : Nat) : Int) + (32) = ((59 : Nat) : Int) := ⟨by decide +kernel, rfl, rfl⟩
theorem dX1_keepParents_30 : decode cX1_keepParents 30 = .ok (.aload_n 0, 1) ∧ 30 + 1 = 31 := ⟨by decide +kernel, rfl⟩
theorem dX1_keepParents_31 : decode cX1_keepParents 31 = .ok (.getfield 9, 3) ∧ 31 + 3 = 34 := ⟨by decide +kernel, rfl⟩
theorem dX1_keepParents_34 : decode cX1_keepParents 34 = .ok (.iload_n 3, 1) ∧ 34 + 1 = 35 := ⟨by decide +kernel, rfl⟩
theorem dX1_keepParents_35 : decode cX1_keepParents 35 = .ok (.aload_n 0, 1) ∧ 35 + 1 = 36 := ⟨by decide +kernel, rfl⟩
theorem dX1_keepParents_36 : decode cX1_keepParents 36 = .ok (.getfield 9, 3) ∧ 36 + 3 = 39 := ⟨by decide +kernel, rfl⟩
theorem dX1_keepParents_39 : decode cX1_keepParents 39 = .ok (.iload 4, 2) ∧ 39 + 2 = 41 := ⟨by decide +kernel, rfl⟩
theorem dX1_keepParents_41 : decode cX1_keepParents 41 = .ok (.iaload, 1) ∧ 41 + 1 = 42 := ⟨by decide +kernel, rfl⟩
theorem dX1_keepParents_42 : decode cX1_keepParents 42 = .ok (.iastore, 1) ∧ 42 + 1 = 43 := ⟨by decide +kernel, rfl⟩
theorem dX1_keepParents_43 : decode cX1_keepParents 43 = .ok (.aload_n 0, 1) ∧ 43 + 1 = 44 := ⟨by decide +kernel, rfl⟩
theorem dX1_keepParents_44 : decode cX1_keepParents 44 = .ok (.getfield 15, 3) ∧ 44 + 3 = 47 := ⟨by decide +kernel, rfl⟩
theorem dX1_keepParents_47 : decode cX1_keepParents 47 = .ok (.iload_n 3, 1) ∧ 47 + 1 = 48 := ⟨by decide +kernel, rfl⟩
theorem dX1_keepParents_48 : decode cX1_keepParents 48 = .ok (.aload_n 0, 1) ∧ 48 + 1 = 49 := ⟨by decide +kernel, rfl⟩
theorem dX1_keepParents_49 : decode cX1_keepParents 49 = .ok (.getfield 15, 3) ∧ 49 + 3 = 52 := ⟨by decide +kernel, rfl⟩
theorem dX1_keepParents_52 : decode cX1_keepParents 52 = .ok (.iload 4, 2) ∧ 52 + 2 = 54 := ⟨by decide +kernel, rfl⟩
theorem dX1_keepParents_54 : decode cX1_keepParents 54 = .ok (.iaload, 1) ∧ 54 + 1 = 55 := ⟨by decide +kernel, rfl⟩
theorem dX1_keepParents_55 : decode cX1_keepParents 55 = .ok (.iastore, 1) ∧ 55 + 1 = 56 := ⟨by decide +kernel, rfl⟩
theorem dX1_keepParents_56 : decode cX1_keepParents 56 = .ok (.iinc 3 1, 3) ∧ 56 + 3 = 59 := ⟨by decide +kernel, rfl⟩
theorem dX1_keepParents_59 : decode cX1_keepParents 59 = .ok (.iinc 4 1, 3) ∧ 59 + 3 = 62 := ⟨by decide +kernel, rfl⟩
theorem dX1_keepParents_62 : decode cX1_keepParents 62 = .ok (.goto (-57), 3) ∧ 62 + 3 = 65 ∧ ((62 : Nat) : Int) + (-57) = ((5 : Nat) : Int) := ⟨by decide +kernel, rfl, rfl⟩
theorem dX1_keepParents_65 : decode cX1_keepParents 65 = .ok (.aload_n 0, 1) ∧ 65 + 1 = 66 := ⟨by decide +kernel, rfl⟩
theorem dX1_keepParents_66 : decode cX1_keepParents 66 = .ok (.iload_n 3, 1) ∧ 66 + 1 = 67 := ⟨by decide +kernel, rfl⟩
theorem dX1_keepParents_67 : decode cX1_keepParents 67 = .ok (.putfield 18, 3) ∧ 67 + 3 = 70 := ⟨by decide +kernel, rfl⟩
theorem dX1_keepParents_70 : decode cX1_keepParents 70 = .ok (.return_, 1) ∧ 70 + 1 = 71 := ⟨by decide +kernel, rfl⟩
theorem dX1_childCount_0 : decode cX1_childCount 0 = .ok (.iconst 0, 1) ∧ 0 + 1 = 1 := ⟨by decide +kernel, rfl⟩
theorem dX1_childCount_1 : decode cX1_childCount 1 = .ok (.istore_n 2, 1) ∧ 1 + 1 = 2 := ⟨by decide +kernel, rfl⟩
theorem dX1_childCount_2 : decode cX1_childCount 2 = .ok (.iconst 0, 1) ∧ 2 + 1 = 3 := ⟨by decide +kernel, rfl⟩
theorem dX1_childCount_3 : decode cX1_childCount 3 = .ok (.istore_n 3, 1) ∧ 3 + 1 = 4 := ⟨by decide +kernel, rfl⟩
theorem dX1_childCount_4 : decode cX1_childCount 4 = .ok (.iload_n 3, 1) ∧ 4 + 1 = 5 := ⟨by decide +kernel, rfl⟩
theorem dX1_childCount_5 : decode cX1_childCount 5 = .ok (.aload_n 0, 1) ∧ 5 + 1 = 6 := ⟨by decide +kernel, rfl⟩
theorem dX1_childCount_6 : decode cX1_childCount 6 = .ok (.getfield 18, 3) ∧ 6 + 3 = 9 := ⟨by decide +kernel, rfl⟩
theorem dX1_childCount_9 : decode cX1_childCount 9 = .ok (.if_icmp .ge 22, 3) ∧ 9 + 3 = 12 ∧ ((9 : Nat) : Int) + (22) = ((31 : Nat) : Int) := ⟨by decide +kernel, rfl, rfl⟩
theorem dX1_childCount_12 : decode cX1_childCount 12 = .ok (.aload_n 0, 1) ∧ 12 + 1 = 13 := ⟨by decide +kernel, rfl⟩
theorem dX1_childCount_13 : decode cX1_childCount 13 = .ok (.getfield 9, 3) ∧ 13 + 3 = 16 := ⟨by decide +kernel, rfl⟩
theorem dX1_childCount_16 : decode cX1_childCount 16 = .ok (.iload_n 3, 1) ∧ 16 + 1 = 17 := ⟨by decide +kernel, rfl⟩
theorem dX1_childCount_17 : decode cX1_childCount 17 = .ok (.iaload, 1) ∧ 17 + 1 = 18 := ⟨by decide +kernel, rfl⟩
theorem dX1_childCount_18 : decode cX1_childCount 18 = .ok (.iload_n 1, 1) ∧ 18 + 1 = 19 := ⟨by decide +kernel, rfl⟩
theorem dX1_childCount_19 : decode cX1_childCount 19 = .ok (.if_icmp .ne 6, 3) ∧ 19 + 3 = 22 ∧ ((19 : Nat) : Int) + (6) = ((25 : Nat) : Int) := ⟨by decide +kernel, rfl, rfl⟩
theorem dX1_childCount_22 : decode cX1_childCount 22 = .ok (.iinc 2 1, 3) ∧ 22 + 3 = 25 := ⟨by decide +kernel, rfl⟩
theorem dX1_childCount_25 : decode cX1_childCount 25 = .ok (.iinc 3 1, 3) ∧ 25 + 3 = 28 := ⟨by decide +kernel, rfl⟩
theorem dX1_childCount_28 : decode cX1_childCount 28 = .ok (.goto (-24), 3) ∧ 28 + 3 = 31 ∧ ((28 : Nat) : Int) + (-24) = ((4 : Nat) : Int) := ⟨by decide +kernel, rfl, rfl⟩
theorem dX1_childCount_31 : decode cX1_childCount 31 = .ok (.iload_n 2, 1) ∧ 31 + 1 = 32 := ⟨by decide +kernel, rfl⟩
theorem dX1_childCount_32 : decode cX1_childCount 32 = .ok (.ireturn, 1) ∧ 32 + 1 = 33 := ⟨by decide +kernel, rfl⟩
theorem dX1_parentCount_0 : decode cX1_parentCount 0 = .ok (.iconst 0, 1) ∧ 0 + 1 = 1 := ⟨by decide +kernel, rfl⟩
theorem dX1_parentCount_1 : decode cX1_parentCount 1 = .ok (.istore_n 2, 1) ∧ 1 + 1 = 2 := ⟨by decide +kernel, rfl⟩
theorem dX1_parentCount_2 : decode cX1_parentCount 2 = .ok (.iconst 0, 1) ∧ 2 + 1 = 3 := ⟨by decide +kernel, rfl⟩
theorem dX1_parentCount_3 : decode cX1_parentCount 3 = .ok (.istore_n 3, 1) ∧ 3 + 1 = 4 := ⟨by decide +kernel, rfl⟩
theorem dX1_parentCount_4 : decode cX1_parentCount 4 = .ok (.iload_n 3, 1) ∧ 4 + 1 = 5 := ⟨by decide +kernel, rfl⟩
theorem dX1_parentCount_5 : decode cX1_parentCount 5 = .ok (.aload_n 0, 1) ∧ 5 + 1 = 6 := ⟨by decide +kernel, rfl⟩
theorem dX1_parentCount_6 : decode cX1_parentCount 6 = .ok (.getfield 18, 3) ∧ 6 + 3 = 9 := ⟨by decide +kernel, rfl⟩
theorem dX1_parentCount_9 : decode cX1_parentCount 9 = .ok (.if_icmp .ge 22, 3) ∧ 9 + 3 = 12 ∧ ((9 : Nat) : Int) + (22) = ((31 : Nat) : Int) := ⟨by decide +kernel, rfl, rfl⟩
theorem dX1_parentCount_12 : decode cX1_parentCount 12 = .ok (.aload_n 0, 1) ∧ 12 + 1 = 13 := ⟨by decide +kernel, rfl⟩
theorem dX1_parentCount_13 : decode cX1_parentCount 13 = .ok (.getfield 15, 3) ∧ 13 + 3 = 16 := ⟨by decide +kernel, rfl⟩
theorem dX1_parentCount_16 : decode cX1_parentCount 16 = .ok (.iload_n 3, 1) ∧ 16 + 1 = 17 := ⟨by decide +kernel, rfl⟩
theorem dX1_parentCount_17 : decode cX1_parentCount 17 = .ok (.iaload, 1) ∧ 17 + 1 = 18 := ⟨by decide +kernel, rfl⟩
theorem dX1_parentCount_18 : decode cX1_parentCount 18 = .ok (.iload_n 1, 1) ∧ 18 + 1 = 19 := ⟨by decide +kernel, rfl⟩
theorem dX1_parentCount_19 : decode cX1_parentCount 19 = .ok (.if_icmp .ne 6, 3) ∧ 19 + 3 = 22 ∧ ((19 : Nat) : Int) + (6) = ((25 : Nat) : Int) := ⟨by decide +kernel, rfl, rfl⟩
theorem dX1_parentCount_22 : decode cX1_parentCount 22 = .ok (.iinc 2 1, 3) ∧ 22 + 3 = 25 := ⟨by decide +kernel, rfl⟩
theorem dX1_parentCount_25 : decode cX1_parentCount 25 = .ok (.iinc 3 1, 3) ∧ 25 + 3 = 28 := ⟨by decide +kernel, rfl⟩
theorem dX1_parentCount_28 : decode cX1_parentCount 28 = .ok (.goto (-24), 3) ∧ 28 + 3 = 31 ∧ ((28 : Nat) : Int) + (-24) = ((4 : Nat) : Int) := ⟨by decide +kernel, rfl, rfl⟩
theorem dX1_parentCount_31 : decode cX1_parentCount 31 = .ok (.iload_n 2, 1) ∧ 31 + 1 = 32 := ⟨by decide +kernel, rfl⟩
theorem dX1_parentCount_32 : decode cX1_parentCount 32 = .ok (.ireturn, 1) ∧ 32 + 1 = 33 := ⟨by decide +kernel, rfl⟩
theorem dX1_sharedCount_0 : decode cX1_sharedCount 0 = .ok (.iconst 0, 1) ∧ 0 + 1 = 1 := ⟨by decide +kernel, rfl⟩
theorem dX1_sharedCount_1 : decode cX1_sharedCount 1 = .ok (.istore_n 1, 1) ∧ 1 + 1 = 2 := ⟨by decide +kernel, rfl⟩
theorem dX1_sharedCount_2 : decode cX1_sharedCount 2 = .ok (.iconst 1, 1) ∧ 2 + 1 = 3 := ⟨by decide +kernel, rfl⟩
theorem dX1_sharedCount_3 : decode cX1_sharedCount 3 = .ok (.istore_n 2, 1) ∧ 3 + 1 = 4 := ⟨by decide +kernel, rfl⟩
theorem dX1_sharedCount_4 : decode cX1_sharedCount 4 = .ok (.iload_n 2, 1) ∧ 4 + 1 = 5 := ⟨by decide +kernel, rfl⟩
theorem dX1_sharedCount_5 : decode cX1_sharedCount 5 = .ok (.bipush 40, 2) ∧ 5 + 2 = 7 := ⟨by decide +kernel, rfl⟩
theorem dX1_sharedCount_7 : decode cX1_sharedCount 7 = .ok (.if_icmp .gt 21, 3) ∧ 7 + 3 = 10 ∧ ((7 : Nat) : Int) + (21) = ((28 : Nat) : Int) := ⟨by decide +kernel, rfl, rfl⟩
theorem dX1_sharedCount_10 : decode cX1_sharedCount 10 = .ok (.aload_n 0, 1) ∧ 10 + 1 = 11 := ⟨by decide +kernel, rfl⟩
theorem dX1_sharedCount_11 : decode cX1_sharedCount 11 = .ok (.iload_n 2, 1) ∧ 11 + 1 = 12 := ⟨by decide +kernel, rfl⟩
theorem dX1_sharedCount_12 : decode cX1_sharedCount 12 = .ok (.invokevirtual 32, 3) ∧ 12 + 3 = 15 := ⟨by decide +kernel, rfl⟩
theorem dX1_sharedCount_15 : decode cX1_sharedCount 15 = .ok (.iconst 1, 1) ∧ 15 + 1 = 16 := ⟨by decide +kernel, rfl⟩
theorem dX1_sharedCount_16 : decode cX1_sharedCount 16 = .ok (.if_icmp .le 6, 3) ∧ 16 + 3 = 19 ∧ ((16 : Nat) : Int) + (6) = ((22 : Nat) : Int) := ⟨by decide +kernel, rfl, rfl⟩
theorem dX1_sharedCount_19 : decode cX1_sharedCount 19 = .ok (.iinc 1 1, 3) ∧ 19 + 3 = 22 := ⟨by decide +kernel, rfl⟩
theorem dX1_sharedCount_22 : decode cX1_sharedCount 22 = .ok (.iinc 2 1, 3) ∧ 22 + 3 = 25 := ⟨by decide +kernel, rfl⟩
theorem dX1_sharedCount_25 : decode cX1_sharedCount 25 = .ok (.goto (-21), 3) ∧ 25 + 3 = 28 ∧ ((25 : Nat) : Int) + (-21) = ((4 : Nat) : Int) := ⟨by decide +kernel, rfl, rfl⟩
theorem dX1_sharedCount_28 : decode cX1_sharedCount 28 = .ok (.iload_n 1, 1) ∧ 28 + 1 = 29 := ⟨by decide +kernel, rfl⟩
theorem dX1_sharedCount_29 : decode cX1_sharedCount 29 = .ok (.ireturn, 1) ∧ 29 + 1 = 30 := ⟨by decide +kernel, rfl⟩
theorem dX1_position_0 : decode cX1_position 0 = .ok (.iconst 0, 1) ∧ 0 + 1 = 1 := ⟨by decide +kernel, rfl⟩
theorem dX1_position_1 : decode cX1_position 1 = .ok (.istore_n 3, 1) ∧ 1 + 1 = 2 := ⟨by decide +kernel, rfl⟩
theorem dX1_position_2 : decode cX1_position 2 = .ok (.iconst 0, 1) ∧ 2 + 1 = 3 := ⟨by decide +kernel, rfl⟩
theorem dX1_position_3 : decode cX1_position 3 = .ok (.istore 4, 2) ∧ 3 + 2 = 5 := ⟨by decide +kernel, rfl⟩
theorem dX1_position_5 : decode cX1_position 5 = .ok (.iload 4, 2) ∧ 5 + 2 = 7 := ⟨by decide +kernel, rfl⟩
theorem dX1_position_7 : decode cX1_position 7 = .ok (.aload_n 0, 1) ∧ 7 + 1 = 8 := ⟨by decide +kernel, rfl⟩
theorem dX1_position_8 : decode cX1_position 8 = .ok (.getfield 18, 3) ∧ 8 + 3 = 11 := ⟨by decide +kernel, rfl⟩
theorem dX1_position_11 : decode cX1_position 11 = .ok (.if_icmp .ge 36, 3) ∧ 11 + 3 = 14 ∧ ((11 : Nat) : Int) + (36) = ((47 : Nat) : Int) := ⟨by decide +kernel, rfl, rfl⟩
theorem dX1_position_14 : decode cX1_position 14 = .ok (.aload_n 0, 1) ∧ 14 + 1 = 15 := ⟨by decide +kernel, rfl⟩
theorem dX1_position_15 : decode cX1_position 15 = .ok (.getfield 9, 3) ∧ 15 + 3 = 18 := ⟨by decide +kernel, rfl⟩
theorem dX1_position_18 : decode cX1_position 18 = .ok (.iload 4, 2) ∧ 18 + 2 = 20 := ⟨by decide +kernel, rfl⟩
theorem dX1_position_20 : decode cX1_position 20 = .ok (.iaload, 1) ∧ 20 + 1 = 21 := ⟨by decide +kernel, rfl⟩
theorem dX1_position_21 : decode cX1_position 21 = .ok (.iload_n 1, 1) ∧ 21 + 1 = 22 := ⟨by decide +kernel, rfl⟩
theorem dX1_position_22 : decode cX1_position 22 = .ok (.if_icmp .ne 19, 3) ∧ 22 + 3 = 25 ∧ ((22 : Nat) : Int) + (19) = ((41 : Nat) : Int) := ⟨by decide +kernel, rfl, rfl⟩
theorem dX1_position_25 : decode cX1_position 25 = .ok (.aload_n 0, 1) ∧ 25 + 1 = 26 := ⟨by decide +kernel, rfl⟩
theorem dX1_position_26 : decode cX1_position 26 = .ok (.getfield 15, 3) ∧ 26 + 3 = 29 := ⟨by decide +kernel, rfl⟩
theorem dX1_position_29 : decode cX1_position 29 = .ok (.iload 4, 2) ∧ 29 + 2 = 31 := ⟨by decide +kernel, rfl⟩
theorem dX1_position_31 : decode cX1_position 31 = .ok (.iaload, 1) ∧ 31 + 1 = 32 := ⟨by decide +kernel, rfl⟩
theorem dX1_position_32 : decode cX1_position 32 = .ok (.iload_n 2, 1) ∧ 32 + 1 = 33 := ⟨by decide +kernel, rfl⟩
theorem dX1_position_33 : decode cX1_position 33 = .ok (.if_icmp .ne 5, 3) ∧ 33 + 3 = 36 ∧ ((33 : Nat) : Int) + (5) = ((38 : Nat) : Int) := ⟨by decide +kernel, rfl, rfl⟩
theorem dX1_position_36 : decode cX1_position 36 = .ok (.iload_n 3, 1) ∧ 36 + 1 = 37 := ⟨by decide +kernel, rfl⟩
theorem dX1_position_37 : decode cX1_position 37 = .ok (.ireturn, 1) ∧ 37 + 1 = 38 := ⟨by decide +kernel, rfl⟩
theorem dX1_position_38 : decode cX1_position 38 = .ok (.iinc 3 1, 3) ∧ 38 + 3 = 41 := ⟨by decide +kernel, rfl⟩
theorem dX1_position_41 : decode cX1_position 41 = .ok (.iinc 4 1, 3) ∧ 41 + 3 = 44 := ⟨by decide +kernel, rfl⟩
theorem dX1_position_44 : decode cX1_position 44 = .ok (.goto (-39), 3) ∧ 44 + 3 = 47 ∧ ((44 : Nat) : Int) + (-39) = ((5 : Nat) : Int) := ⟨by decide +kernel, rfl, rfl⟩
theorem dX1_position_47 : decode cX1_position 47 = .ok (.iconst (-1), 1) ∧ 47 + 1 = 48 := ⟨by decide +kernel, rfl⟩
theorem dX1_position_48 : decode cX1_position 48 = .ok (.ireturn, 1) ∧ 48 + 1 = 49 := ⟨by decide +kernel, rfl⟩
theorem dX1_shiftChild_0 : decode cX1_shiftChild 0 = .ok (.iload_n 3, 1) ∧ 0 + 1 = 1 := ⟨by decide +kernel, rfl⟩
theorem dX1_shiftChild_1 : decode cX1_shiftChild 1 = .ok (.ifCond .ge 7, 3) ∧ 1 + 3 = 4 ∧ ((1 : Nat) : Int) + (7) = ((8 : Nat) : Int) := ⟨by decide +kernel, rfl, rfl⟩
theorem dX1_shiftChild_4 : decode cX1_shiftChild 4 = .ok (.iconst (-1), 1) ∧ 4 + 1 = 5 := ⟨by decide +kernel, rfl⟩
theorem dX1_shiftChild_5 : decode cX1_shiftChild 5 = .ok (.goto 4, 3) ∧ 5 + 3 = 8 ∧ ((5 : Nat) : Int) + (4) = ((9 : Nat) : Int) := ⟨by decide +kernel, rfl, rfl⟩
theorem dX1_shiftChild_8 : decode cX1_shiftChild 8 = .ok (.iconst 1, 1) ∧ 8 + 1 = 9 := ⟨by decide +kernel, rfl⟩
theorem dX1_shiftChild_9 : decode cX1_shiftChild 9 = .ok (.istore 4, 2) ∧ 9 + 2 = 11 := ⟨by decide +kernel, rfl⟩
theorem dX1_shiftChild_11 : decode cX1_shiftChild 11 = .ok (.iload_n 3, 1) ∧ 11 + 1 = 12 := ⟨by decide +kernel, rfl⟩
theorem dX1_shiftChild_12 : decode cX1_shiftChild 12 = .ok (.invokestatic 36, 3) ∧ 12 + 3 = 15 := ⟨by decide +kernel, rfl⟩
theorem dX1_shiftChild_15 : decode cX1_shiftChild 15 = .ok (.istore 5, 2) ∧ 15 + 2 = 17 := ⟨by decide +kernel, rfl⟩
theorem dX1_shiftChild_17 : decode cX1_shiftChild 17 = .ok (.aload_n 0, 1) ∧ 17 + 1 = 18 := ⟨by decide +kernel, rfl⟩
theorem dX1_shiftChild_18 : decode cX1_shiftChild 18 = .ok (.iload_n 1, 1) ∧ 18 + 1 = 19 := ⟨by decide +kernel, rfl⟩
theorem dX1_shiftChild_19 : decode cX1_shiftChild 19 = .ok (.iload_n 2, 1) ∧ 19 + 1 = 20 := ⟨by decide +kernel, rfl⟩
theorem dX1_shiftChild_20 : decode cX1_shiftChild 20 = .ok (.invokevirtual 28, 3) ∧ 20 + 3 = 23 := ⟨by decide +kernel, rfl⟩
theorem dX1_shiftChild_23 : decode cX1_shiftChild 23 = .ok (.istore 6, 2) ∧ 23 + 2 = 25 := ⟨by decide +kernel, rfl⟩
theorem dX1_shiftChild_25 : decode cX1_shiftChild 25 = .ok (.iload 6, 2) ∧ 25 + 2 = 27 := ⟨by decide +kernel, rfl⟩
theorem dX1_shiftChild_27 : decode cX1_shiftChild 27 = .ok (.iconst (-1), 1) ∧ 27 + 1 = 28 := ⟨by decide +kernel, rfl⟩
theorem dX1_shiftChild_28 : decode cX1_shiftChild 28 = .ok (.if_icmp .ne 4, 3) ∧ 28 + 3 = 31 ∧ ((28 : Nat) : Int) + (4) = ((32 : Nat) : Int) := ⟨by decide +kernel, rfl, rfl⟩
theorem dX1_shiftChild_31 : decode cX1_shiftChild 31 = .ok (.return_, 1) ∧ 31 + 1 = 32 := ⟨by decide +kernel, rfl⟩
theorem dX1_shiftChild_32 : decode cX1_shiftChild 32 = .ok (.iload 6, 2) ∧ 32 + 2 = 34 := ⟨by decide +kernel, rfl⟩
theorem dX1_shiftChild_34 : decode cX1_shiftChild 34 = .ok (.iload 4, 2) ∧ 34 + 2 = 36 := ⟨by decide +kernel, rfl⟩
theorem dX1_shiftChild_36 : decode cX1_shiftChild 36 = .ok (.iadd, 1) ∧ 36 + 1 = 37 := ⟨by decide +kernel, rfl⟩
theorem dX1_shiftChild_37 : decode cX1_shiftChild 37 = .ok (.istore 7, 2) ∧ 37 + 2 = 39 := ⟨by decide +kernel, rfl⟩
theorem dX1_shiftChild_39 : decode cX1_shiftChild 39 = .ok (.iload 7, 2) ∧ 39 + 2 = 41 := ⟨by decide +kernel, rfl⟩
theorem dX1_shiftChild_41 : decode cX1_shiftChild 41 = .ok (.ifCond .lt 67, 3) ∧ 41 + 3 = 44 ∧ ((41 : Nat) : Int) + (67) = ((108 : Nat) : Int) := ⟨by decide +kernel, rfl, rfl⟩
theorem dX1_shiftChild_44 : decode cX1_shiftChild 44 = .ok (.iload 7, 2) ∧ 44 + 2 = 46 := ⟨by decide +kernel, rfl⟩
theorem dX1_shiftChild_46 : decode cX1_shiftChild 46 = .ok (.aload_n 0, 1) ∧ 46 + 1 = 47 := ⟨by decide +kernel, rfl⟩
theorem dX1_shiftChild_47 : decode cX1_shiftChild 47 = .ok (.getfield 18, 3) ∧ 47 + 3 = 50 := ⟨by decide +kernel, rfl⟩
theorem dX1_shiftChild_50 : decode cX1_shiftChild 50 = .ok (.if_icmp .ge 58, 3) ∧ 50 + 3 = 53 ∧ ((50 : Nat) : Int) + (58) = ((108 : Nat) : Int) := ⟨by decide +kernel, rfl, rfl⟩
theorem dX1_shiftChild_53 : decode cX1_shiftChild 53 = .ok (.iload 5, 2) ∧ 53 + 2 = 55 := ⟨by decide +kernel, rfl⟩
theorem dX1_shiftChild_55 : decode cX1_shiftChild 55 = .ok (.ifCond .le 53, 3) ∧ 55 + 3 = 58 ∧ ((55 : Nat) : Int) + (53) = ((108 : Nat) : Int) := ⟨by decide +kernel, rfl, rfl⟩
theorem dX1_shiftChild_58 : decode cX1_shiftChild 58 = .ok (.aload_n 0, 1) ∧ 58 + 1 = 59 := ⟨by decide +kernel, rfl⟩
theorem dX1_shiftChild_59 : decode cX1_shiftChild 59 = .ok (.getfield 9, 3) ∧ 59 + 3 = 62 := ⟨by decide +kernel, rfl⟩
theorem dX1_shiftChild_62 : decode cX1_shiftChild 62 = .ok (.iload 7, 2) ∧ 62 + 2 = 64 := ⟨by decide +kernel, rfl⟩
theorem dX1_shiftChild_64 : decode cX1_shiftChild 64 = .ok (.iaload, 1) ∧ 64 + 1 = 65 := ⟨by decide +kernel, rfl⟩
theorem dX1_shiftChild_65 : decode cX1_shiftChild 65 = .ok (.iload_n 1, 1) ∧ 65 + 1 = 66 := ⟨by decide +kernel, rfl⟩
theorem dX1_shiftChild_66 : decode cX1_shiftChild 66 = .ok (.if_icmp .ne 32, 3) ∧ 66 + 3 = 69 ∧ ((66 : Nat) : Int) + (32) = ((98 : Nat) : Int) := ⟨by decide +kernel, rfl, rfl⟩
theorem dX1_shiftChild_69 : decode cX1_shiftChild 69 = .ok (.aload_n 0, 1) ∧ 69 + 1 = 70 := ⟨by decide +kernel, rfl⟩
theorem dX1_shiftChild_70 : decode cX1_shiftChild 70 = .ok (.getfield 15, 3) ∧ 70 + 3 = 73 := ⟨by decide +kernel, rfl⟩
theorem dX1_shiftChild_73 : decode cX1_shiftChild 73 = .ok (.iload 6, 2) ∧ 73 + 2 = 75 := ⟨by decide +kernel, rfl⟩
theorem dX1_shiftChild_75 : decode cX1_shiftChild 75 = .ok (.aload_n 0, 1) ∧ 75 + 1 = 76 := ⟨by decide +kernel, rfl⟩
theorem dX1_shiftChild_76 : decode cX1_shiftChild 76 = .ok (.getfield 15, 3) ∧ 76 + 3 = 79 := ⟨by decide +kernel, rfl⟩
theorem dX1_shiftChild_79 : decode cX1_shiftChild 79 = .ok (.iload 7, 2) ∧ 79 + 2 = 81 := ⟨by decide +kernel, rfl⟩
theorem dX1_shiftChild_81 : decode cX1_shiftChild 81 = .ok (.iaload, 1) ∧ 81 + 1 = 82 := ⟨by decide +kernel, rfl⟩
theorem dX1_shiftChild_82 : decode cX1_shiftChild 82 = .ok (.iastore, 1) ∧ 82 + 1 = 83 := ⟨by decide +kernel, rfl⟩
theorem dX1_shiftChild_83 : decode cX1_shiftChild 83 = .ok (.aload_n 0, 1) ∧ 83 + 1 = 84 := ⟨by decide +kernel, rfl⟩
theorem dX1_shiftChild_84 : decode cX1_shiftChild 84 = .ok (.getfield 15, 3) ∧ 84 + 3 = 87 := ⟨by decide +kernel, rfl⟩
theorem dX1_shiftChild_87 : decode cX1_shiftChild 87 = .ok (.iload 7, 2) ∧ 87 + 2 = 89 := ⟨by decide +kernel, rfl⟩
theorem dX1_shiftChild_89 : decode cX1_shiftChild 89 = .ok (.iload_n 2, 1) ∧ 89 + 1 = 90 := ⟨by decide +kernel, rfl⟩
theorem dX1_shiftChild_90 : decode cX1_shiftChild 90 = .ok (.iastore, 1) ∧ 90 + 1 = 91 := ⟨by decide +kernel, rfl⟩
theorem dX1_shiftChild_91 : decode cX1_shiftChild 91 = .ok (.iload 7, 2) ∧ 91 + 2 = 93 := ⟨by decide +kernel, rfl⟩
theorem dX1_shiftChild_93 : decode cX1_shiftChild 93 = .ok (.istore 6, 2) ∧ 93 + 2 = 95 := ⟨by decide +kernel, rfl⟩
theorem dX1_shiftChild_95 : decode cX1_shiftChild 95 = .ok (.iinc 5 (-1), 3) ∧ 95 + 3 = 98 := ⟨by decide +kernel, rfl⟩
theorem dX1_shiftChild_98 : decode cX1_shiftChild 98 = .ok (.iload 7, 2) ∧ 98 + 2 = 100 := ⟨by decide +kernel, rfl⟩
theorem dX1_shiftChild_100 : decode cX1_shiftChild 100 = .ok (.iload 4, 2) ∧ 100 + 2 = 102 := ⟨by decide +kernel, rfl⟩
theorem dX1_shiftChild_102 : decode cX1_shiftChild 102 = .ok (.iadd, 1) ∧ 102 + 1 = 103 := ⟨by decide +kernel, rfl⟩
theorem dX1_shiftChild_103 : decode cX1_shiftChild 103 = .ok (.istore 7, 2) ∧ 103 + 2 = 105 := ⟨by decide +kernel, rfl⟩
theorem dX1_shiftChild_105 : decode cX1_shiftChild 105 = .ok (.goto (-66), 3) ∧ 105 + 3 = 108 ∧ ((105 : Nat) : Int) + (-66) = ((39 : Nat) : Int) := ⟨by decide +kernel, rfl, rfl⟩
theorem dX1_shiftChild_108 : decode cX1_shiftChild 108 = .ok (.return_, 1) ∧ 108 + 1 = 109 := ⟨by decide +kernel, rfl⟩
theorem dX2_init_0 : decode cX2_init 0 = .ok (.aload_n 0, 1) ∧ 0 + 1 = 1 := ⟨by decide +kernel, rfl⟩
theorem dX2_init_1 : decode cX2_init 1 = .ok (.invokespecial 3, 3) ∧ 1 + 3 = 4 := ⟨by decide +kernel, rfl⟩
theorem dX2_init_4 : decode cX2_init 4 = .ok (.aload_n 0, 1) ∧ 4 + 1 = 5 := ⟨by decide +kernel, rfl⟩
theorem dX2_init_5 : decode cX2_init 5 = .ok (.bipush 41, 2) ∧ 5 + 2 = 7 := ⟨by decide +kernel, rfl⟩
theorem dX2_init_7 : decode cX2_init 7 = .ok (.newarray .int, 2) ∧ 7 + 2 = 9 := ⟨by decide +kernel, rfl⟩
theorem dX2_init_9 : decode cX2_init 9 = .ok (.putfield 9, 3) ∧ 9 + 3 = 12 := ⟨by decide +kernel, rfl⟩
theorem dX2_init_12 : decode cX2_init 12 = .ok (.aload_n 0, 1) ∧ 12 + 1 = 13 := ⟨by decide +kernel, rfl⟩
theorem dX2_init_13 : decode cX2_init 13 = .ok (.bipush 41, 2) ∧ 13 + 2 = 15 := ⟨by decide +kernel, rfl⟩
theorem dX2_init_15 : decode cX2_init 15 = .ok (.newarray .int, 2) ∧ 15 + 2 = 17 := ⟨by decide +kernel, rfl⟩
theorem dX2_init_17 : decode cX2_init 17 = .ok (.putfield 15, 3) ∧ 17 + 3 = 20 := ⟨by decide +kernel, rfl⟩
theorem dX2_init_20 : decode cX2_init 20 = .ok (.aload_n 0, 1) ∧ 20 + 1 = 21 := ⟨by decide +kernel, rfl⟩
theorem dX2_init_21 : decode cX2_init 21 = .ok (.sipush 328, 3) ∧ 21 + 3 = 24 := ⟨by decide +kernel, rfl⟩
theorem dX2_init_24 : decode cX2_init 24 = .ok (.newarray .int, 2) ∧ 24 + 2 = 26 := ⟨by decide +kernel, rfl⟩
theorem dX2_init_26 : decode cX2_init 26 = .ok (.putfield 18, 3) ∧ 26 + 3 = 29 := ⟨by decide +kernel, rfl⟩
theorem dX2_init_29 : decode cX2_init 29 = .ok (.return_, 1) ∧ 29 + 1 = 30 := ⟨by decide +kernel, rfl⟩
theorem dX2_copyFrom_0 : decode cX2_copyFrom 0 = .ok (.aload_n 0, 1) ∧ 0 + 1 = 1 := ⟨by decide +kernel, rfl⟩
theorem dX2_copyFrom_1 : decode cX2_copyFrom 1 = .ok (.aload_n 1, 1) ∧ 1 + 1 = 2 := ⟨by decide +kernel, rfl⟩
theorem dX2_copyFrom_2 : decode cX2_copyFrom 2 = .ok (.getfield 21, 3) ∧ 2 + 3 = 5 := ⟨by decide +kernel, rfl⟩
theorem dX2_copyFrom_5 : decode cX2_copyFrom 5 = .ok (.putfield 21, 3) ∧ 5 + 3 = 8 := ⟨by decide +kernel, rfl⟩
theorem dX2_copyFrom_8 : decode cX2_copyFrom 8 = .ok (.aload_n 1, 1) ∧ 8 + 1 = 9 := ⟨by decide +kernel, rfl⟩
theorem dX2_copyFrom_9 : decode cX2_copyFrom 9 = .ok (.getfield 9, 3) ∧ 9 + 3 = 12 := ⟨by decide +kernel, rfl⟩
theorem dX2_copyFrom_12 : decode cX2_copyFrom 12 = .ok (.iconst 0, 1) ∧ 12 + 1 = 13 := ⟨by decide +kernel, rfl⟩
theorem dX2_copyFrom_13 : decode cX2_copyFrom 13 = .ok (.aload_n 0, 1) ∧ 13 + 1 = 14 := ⟨by decide +kernel, rfl⟩
theorem dX2_copyFrom_14 : decode cX2_copyFrom 14 = .ok (.getfield 9, 3) ∧ 14 + 3 = 17 := ⟨by decide +kernel, rfl⟩
theorem dX2_copyFrom_17 : decode cX2_copyFrom 17 = .ok (.iconst 0, 1) ∧ 17 + 1 = 18 := ⟨by decide +kernel, rfl⟩
theorem dX2_copyFrom_18 : decode cX2_copyFrom 18 = .ok (.bipush 41, 2) ∧ 18 + 2 = 20 := ⟨by decide +kernel, rfl⟩
theorem dX2_copyFrom_20 : decode cX2_copyFrom 20 = .ok (.invokestatic 25, 3) ∧ 20 + 3 = 23 := ⟨by decide +kernel, rfl⟩
theorem dX2_copyFrom_23 : decode cX2_copyFrom 23 = .ok (.aload_n 1, 1) ∧ 23 + 1 = 24 := ⟨by decide +kernel, rfl⟩
theorem dX2_copyFrom_24 : decode cX2_copyFrom 24 = .ok (.getfield 15, 3) ∧ 24 + 3 = 27 := ⟨by decide +kernel, rfl⟩
theorem dX2_copyFrom_27 : decode cX2_copyFrom 27 = .ok (.iconst 0, 1) ∧ 27 + 1 = 28 := ⟨by decide +kernel, rfl⟩
theorem dX2_copyFrom_28 : decode cX2_copyFrom 28 = .ok (.aload_n 0, 1) ∧ 28 + 1 = 29 := ⟨by decide +kernel, rfl⟩
theorem dX2_copyFrom_29 : decode cX2_copyFrom 29 = .ok (.getfield 15, 3) ∧ 29 + 3 = 32 := ⟨by decide +kernel, rfl⟩
theorem dX2_copyFrom_32 : decode cX2_copyFrom 32 = .ok (.iconst 0, 1) ∧ 32 + 1 = 33 := ⟨by decide +kernel, rfl⟩
theorem dX2_copyFrom_33 : decode cX2_copyFrom 33 = .ok (.bipush 41, 2) ∧ 33 + 2 = 35 := ⟨by decide +kernel, rfl⟩
theorem dX2_copyFrom_35 : decode cX2_copyFrom 35 = .ok (.invokestatic 25, 3) ∧ 35 + 3 = 38 := ⟨by decide +kernel, rfl⟩
theorem dX2_copyFrom_38 : decode cX2_copyFrom 38 = .ok (.aload_n 1, 1) ∧ 38 + 1 = 39 := ⟨by decide +kernel, rfl⟩
theorem dX2_copyFrom_39 : decode cX2_copyFrom 39 = .ok (.getfield 18, 3) ∧ 39 + 3 = 42 := ⟨by decide +kernel, rfl⟩
theorem dX2_copyFrom_42 : decode cX2_copyFrom 42 = .ok (.iconst 0, 1) ∧ 42 + 1 = 43 := ⟨by decide +kernel, rfl⟩
theorem dX2_copyFrom_43 : decode cX2_copyFrom 43 = .ok (.aload_n 0, 1) ∧ 43 + 1 = 44 := ⟨by decide +kernel, rfl⟩
theorem dX2_copyFrom_44 : decode cX2_copyFrom 44 = .ok (.getfield 18, 3) ∧ 44 + 3 = 47 := ⟨by decide +kernel, rfl⟩
theorem dX2_copyFrom_47 : decode cX2_copyFrom 47 = .ok (.iconst 0, 1) ∧ 47 + 1 = 48 := ⟨by decide +kernel, rfl⟩
theorem dX2_copyFrom_48 : decode cX2_copyFrom 48 = .ok (.sipush 328, 3) ∧ 48 + 3 = 51 := ⟨by decide +kernel, rfl⟩
theorem dX2_copyFrom_51 : decode cX2_copyFrom 51 = .ok (.invokestatic 25, 3) ∧ 51 + 3 = 54 := ⟨by decide +kernel, rfl⟩
theorem dX2_copyFrom_54 : decode cX2_copyFrom 54 = .ok (.return_, 1) ∧ 54 + 1 = 55 := ⟨by decide +kernel, rfl⟩
theorem dX2_isNumber_0 : decode cX2_isNumber 0 = .ok (.iload_n 0, 1) ∧ 0 + 1 = 1 := ⟨by decide +kernel, rfl⟩
theorem dX2_isNumber_1 : decode cX2_isNumber 1 = .ok (.ifCond .lt 13, 3) ∧ 1 + 3 = 4 ∧ ((1 : Nat) : Int) + (13) = ((14 : Nat) : Int) := ⟨by decide +kernel, rfl, rfl⟩
theorem dX2_isNumber_4 : decode cX2_isNumber 4 = .ok (.iload_n 0, 1) ∧ 4 + 1 = 5 := ⟨by decide +kernel, rfl⟩
theorem dX2_isNumber_5 : decode cX2_isNumber 5 = .ok (.bipush 40, 2) ∧ 5 + 2 = 7 := ⟨by decide +kernel, rfl⟩
theorem dX2_isNumber_7 : decode cX2_isNumber 7 = .ok (.if_icmp .gt 7, 3) ∧ 7 + 3 = 10 ∧ ((7 : Nat) : Int) + (7) = ((14 : Nat) : Int) := ⟨by decide +kernel, rfl, rfl⟩
theorem dX2_isNumber_10 : decode cX2_isNumber 10 = .ok (.iconst 1, 1) ∧ 10 + 1 = 11 := ⟨by decide +kernel, rfl⟩
theorem dX2_isNumber_11 : decode cX2_isNumber 11 = .ok (.goto 4, 3) ∧ 11 + 3 = 14 ∧ ((11 : Nat) : Int) + (4) = ((15 : Nat) : Int) := ⟨by decide +kernel, rfl, rfl⟩
theorem dX2_isNumber_14 : decode cX2_isNumber 14 = .ok (.iconst 0, 1) ∧ 14 + 1 = 15 := ⟨by decide +kernel, rfl⟩
theorem dX2_isNumber_15 : decode cX2_isNumber 15 = .ok (.ireturn, 1) ∧ 15 + 1 = 16 := ⟨by decide +kernel, rfl⟩
theorem dX2_makeNode_0 : decode cX2_makeNode 0 = .ok (.aload_n 0, 1) ∧ 0 + 1 = 1 := ⟨by decide +kernel, rfl⟩
theorem dX2_makeNode_1 : decode cX2_makeNode 1 = .ok (.getfield 21, 3) ∧ 1 + 3 = 4 := ⟨by decide +kernel, rfl⟩
theorem dX2_makeNode_4 : decode cX2_makeNode 4 = .ok (.ifCond .lt 12, 3) ∧ 4 + 3 = 7 ∧ ((4 : Nat) : Int) + (12) = ((16 : Nat) : Int) := ⟨by decide +kernel, rfl, rfl⟩
theorem dX2_makeNode_7 : decode cX2_makeNode 7 = .ok (.aload_n 0, 1) ∧ 7 + 1 = 8 := ⟨by decide +kernel, rfl⟩
theorem dX2_makeNode_8 : decode cX2_makeNode 8 = .ok (.getfield 21, 3) ∧ 8 + 3 = 11 := ⟨by decide +kernel, rfl⟩
theorem dX2_makeNode_11 : decode cX2_makeNode 11 = .ok (.bipush 40, 2) ∧ 11 + 2 = 13 := ⟨by decide +kernel, rfl⟩
theorem dX2_makeNode_13 : decode cX2_makeNode 13 = .ok (.if_icmp .lt 5, 3) ∧ 13 + 3 = 16 ∧ ((13 : Nat) : Int) + (5) = ((18 : Nat) : Int) := ⟨by decide +kernel, rfl, rfl⟩
theorem dX2_makeNode_16 : decode cX2_makeNode 16 = .ok (.iconst 0, 1) ∧ 16 + 1 = 17 := ⟨by decide +kernel, rfl⟩
theorem dX2_makeNode_17 : decode cX2_makeNode 17 = .ok (.ireturn, 1) ∧ 17 + 1 = 18 := ⟨by decide +kernel, rfl⟩
theorem dX2_makeNode_18 : decode cX2_makeNode 18 = .ok (.aload_n 0, 1) ∧ 18 + 1 = 19 := ⟨by decide +kernel, rfl⟩
theorem dX2_makeNode_19 : decode cX2_makeNode 19 = .ok (.dup, 1) ∧ 19 + 1 = 20 := ⟨by decide +kernel, rfl⟩
theorem dX2_makeNode_20 : decode cX2_makeNode 20 = .ok (.getfield 21, 3) ∧ 20 + 3 = 23 := ⟨by decide +kernel, rfl⟩
theorem dX2_makeNode_23 : decode cX2_makeNode 23 = .ok (.iconst 1, 1) ∧ 23 + 1 = 24 := ⟨by decide +kernel, rfl⟩
theorem dX2_makeNode_24 : decode cX2_makeNode 24 = .ok (.iadd, 1) ∧ 24 + 1 = 25 := ⟨by decide +kernel, rfl⟩
theorem dX2_makeNode_25 : decode cX2_makeNode 25 = .ok (.putfield 21, 3) ∧ 25 + 3 = 28 := ⟨by decide +kernel, rfl⟩
theorem dX2_makeNode_28 : decode cX2_makeNode 28 = .ok (.aload_n 0, 1) ∧ 28 + 1 = 29 := ⟨by decide +kernel, rfl⟩
theorem dX2_makeNode_29 : decode cX2_makeNode 29 = .ok (.getfield 9, 3) ∧ 29 + 3 = 32 := ⟨by decide +kernel, rfl⟩
theorem dX2_makeNode_32 : decode cX2_makeNode 32 = .ok (.aload_n 0, 1) ∧ 32 + 1 = 33 := ⟨by decide +kernel, rfl⟩
theorem dX2_makeNode_33 : decode cX2_makeNode 33 = .ok (.getfield 21, 3) ∧ 33 + 3 = 36 := ⟨by decide +kernel, rfl⟩
theorem dX2_makeNode_36 : decode cX2_makeNode 36 = .ok (.iconst 0, 1) ∧ 36 + 1 = 37 := ⟨by decide +kernel, rfl⟩
theorem dX2_makeNode_37 : decode cX2_makeNode 37 = .ok (.iastore, 1) ∧ 37 + 1 = 38 := ⟨by decide +kernel, rfl⟩
theorem dX2_makeNode_38 : decode cX2_makeNode 38 = .ok (.aload_n 0, 1) ∧ 38 + 1 = 39 := ⟨by decide +kernel, rfl⟩
theorem dX2_makeNode_39 : decode cX2_makeNode 39 = .ok (.getfield 15, 3) ∧ 39 + 3 = 42 := ⟨by decide +kernel, rfl⟩
theorem dX2_makeNode_42 : decode cX2_makeNode 42 = .ok (.aload_n 0, 1) ∧ 42 + 1 = 43 := ⟨by decide +kernel, rfl⟩
theorem dX2_makeNode_43 : decode cX2_makeNode 43 = .ok (.getfield 21, 3) ∧ 43 + 3 = 46 := ⟨by decide +kernel, rfl⟩
theorem dX2_makeNode_46 : decode cX2_makeNode 46 = .ok (.iconst 0, 1) ∧ 46 + 1 = 47 := ⟨by decide +kernel, rfl⟩
theorem dX2_makeNode_47 : decode cX2_makeNode 47 = .ok (.iastore, 1) ∧ 47 + 1 = 48 := ⟨by decide +kernel, rfl⟩
theorem dX2_makeNode_48 : decode cX2_makeNode 48 = .ok (.aload_n 0, 1) ∧ 48 + 1 = 49 := ⟨by decide +kernel, rfl⟩
theorem dX2_makeNode_49 : decode cX2_makeNode 49 = .ok (.getfield 21, 3) ∧ 49 + 3 = 52 := ⟨by decide +kernel, rfl⟩
theorem dX2_makeNode_52 : decode cX2_makeNode 52 = .ok (.ireturn, 1) ∧ 52 + 1 = 53 := ⟨by decide +kernel, rfl⟩
theorem dX2_setLetter_0 : decode cX2_setLetter 0 = .ok (.iload_n 1, 1) ∧ 0 + 1 = 1 := ⟨by decide +kernel, rfl⟩
theorem dX2_setLetter_1 : decode cX2_setLetter 1 = .ok (.invokestatic 31, 3) ∧ 1 + 3 = 4 := ⟨by decide +kernel, rfl⟩
theorem dX2_setLetter_4 : decode cX2_setLetter 4 = .ok (.ifCond .eq 20, 3) ∧ 4 + 3 = 7 ∧ ((4 : Nat) : Int) + (20) = ((24 : Nat) : Int) := ⟨by decide +kernel, rfl, rfl⟩
theorem dX2_setLetter_7 : decode cX2_setLetter 7 = .ok (.aload_n 0, 1) ∧ 7 + 1 = 8 := ⟨by decide +kernel, rfl⟩
theorem dX2_setLetter_8 : decode cX2_setLetter 8 = .ok (.getfield 18, 3) ∧ 8 + 3 = 11 := ⟨by decide +kernel, rfl⟩
theorem dX2_setLetter_11 : decode cX2_setLetter 11 = .ok (.iload_n 1, 1) ∧ 11 + 1 = 12 := ⟨by decide +kernel, rfl⟩
theorem dX2_setLetter_12 : decode cX2_setLetter 12 = .ok (.bipush 8, 2) ∧ 12 + 2 = 14 := ⟨by decide +kernel, rfl⟩
theorem dX2_setLetter_14 : decode cX2_setLetter 14 = .ok (.imul, 1) ∧ 14 + 1 = 15 := ⟨by decide +kernel, rfl⟩
theorem dX2_setLetter_15 : decode cX2_setLetter 15 = .ok (.iload_n 2, 1) ∧ 15 + 1 = 16 := ⟨by decide +kernel, rfl⟩
theorem dX2_setLetter_16 : decode cX2_setLetter 16 = .ok (.iastore, 1) ∧ 16 + 1 = 17 := ⟨by decide +kernel, rfl⟩
theorem dX2_setLetter_17 : decode cX2_setLetter 17 = .ok (.aload_n 0, 1) ∧ 17 + 1 = 18 := ⟨by decide +kernel, rfl⟩
theorem dX2_setLetter_18 : decode cX2_setLetter 18 = .ok (.getfield 15, 3) ∧ 18 + 3 = 21 := ⟨by decide +kernel, rfl⟩
theorem dX2_setLetter_21 : decode cX2_setLetter 21 = .ok (.iload_n 1, 1) ∧ 21 + 1 = 22 := ⟨by decide +kernel, rfl⟩
theorem dX2_setLetter_22 : decode cX2_setLetter 22 = .ok (.iconst 1, 1) ∧ 22 + 1 = 23 := ⟨by decide +kernel, rfl⟩
theorem dX2_setLetter_23 : decode cX2_setLetter 23 = .ok (.iastore, 1) ∧ 23 + 1 = 24 := ⟨by decide +kernel, rfl⟩
theorem dX2_setLetter_24 : decode cX2_setLetter 24 = .ok (.return_, 1) ∧ 24 + 1 = 25 := ⟨by decide +kernel, rfl⟩
theorem dX2_setText_0 : decode cX2_setText 0 = .ok (.iload_n 1, 1) ∧ 0 + 1 = 1 := ⟨by decide +kernel, rfl⟩
theorem dX2_setText_1 : decode cX2_setText 1 = .ok (.invokestatic 31, 3) ∧ 1 + 3 = 4 := ⟨by decide +kernel, rfl⟩
theorem dX2_setText_4 : decode cX2_setText 4 = .ok (.ifCond .eq 10, 3) ∧ 4 + 3 = 7 ∧ ((4 : Nat) : Int) + (10) = ((14 : Nat) : Int) := ⟨by decide +kernel, rfl, rfl⟩
theorem dX2_setText_7 : decode cX2_setText 7 = .ok (.aload_n 2, 1) ∧ 7 + 1 = 8 := ⟨by decide +kernel, rfl⟩
theorem dX2_setText_8 : decode cX2_setText 8 = .ok (.invokevirtual 35, 3) ∧ 8 + 3 = 11 := ⟨by decide +kernel, rfl⟩
theorem dX2_setText_11 : decode cX2_setText 11 = .ok (.ifCond .ne 4, 3) ∧ 11 + 3 = 14 ∧ ((11 : Nat) : Int) + (4) = ((15 : Nat) : Int) := ⟨by decide +kernel, rfl, rfl⟩
theorem dX2_setText_14 : decode cX2_setText 14 = .ok (.return_, 1) ∧ 14 + 1 = 15 := ⟨by decide +kernel, rfl⟩
theorem dX2_setText_15 : decode cX2_setText 15 = .ok (.iconst 0, 1) ∧ 15 + 1 = 16 := ⟨by decide +kernel, rfl⟩
theorem dX2_setText_16 : decode cX2_setText 16 = .ok (.istore_n 3, 1) ∧ 16 + 1 = 17 := ⟨by decide +kernel, rfl⟩
theorem dX2_setText_17 : decode cX2_setText 17 = .ok (.iload_n 3, 1) ∧ 17 + 1 = 18 := ⟨by decide +kernel, rfl⟩
theorem dX2_setText_18 : decode cX2_setText 18 = .ok (.aload_n 2, 1) ∧ 18 + 1 = 19 := ⟨by decide +kernel, rfl⟩
theorem dX2_setText_19 : decode cX2_setText 19 = .ok (.getfield 41, 3) ∧ 19 + 3 = 22 := ⟨by decide +kernel, rfl⟩
theorem dX2_setText_22 : decode cX2_setText 22 = .ok (.if_icmp .ge 31, 3) ∧ 22 + 3 = 25 ∧ ((22 : Nat) : Int) + (31) = ((53 : Nat) : Int) := ⟨by decide +kernel, rfl, rfl⟩
theorem dX2_setText_25 : decode cX2_setText 25 = .ok (.iload_n 3, 1) ∧ 25 + 1 = 26 := ⟨by decide +kernel, rfl⟩
theorem dX2_setText_26 : decode cX2_setText 26 = .ok (.bipush 8, 2) ∧ 26 + 2 = 28 := ⟨by decide +kernel, rfl⟩
theorem dX2_setText_28 : decode cX2_setText 28 = .ok (.if_icmp .ge 25, 3) ∧ 28 + 3 = 31 ∧ ((28 : Nat) : Int) + (25) = ((53 : Nat) : Int) := ⟨by decide +kernel, rfl, rfl⟩
theorem dX2_setText_31 : decode cX2_setText 31 = .ok (.aload_n 0, 1) ∧ 31 + 1 = 32 := ⟨by decide +kernel, rfl⟩
theorem dX2_setText_32 : decode cX2_setText 32 = .ok (.getfield 18, 3) ∧ 32 + 3 = 35 := ⟨by decide +kernel, rfl⟩
theorem dX2_setText_35 : decode cX2_setText 35 = .ok (.iload_n 1, 1) ∧ 35 + 1 = 36 := ⟨by decide +kernel, rfl⟩
theorem dX2_setText_36 : decode cX2_setText 36 = .ok (.bipush 8, 2) ∧ 36 + 2 = 38 := ⟨by decide +kernel, rfl⟩
theorem dX2_setText_38 : decode cX2_setText 38 = .ok (.imul, 1) ∧ 38 + 1 = 39 := ⟨by decide +kernel, rfl⟩
theorem dX2_setText_39 : decode cX2_setText 39 = .ok (.iload_n 3, 1) ∧ 39 + 1 = 40 := ⟨by decide +kernel, rfl⟩
theorem dX2_setText_40 : decode cX2_setText 40 = .ok (.iadd, 1) ∧ 40 + 1 = 41 := ⟨by decide +kernel, rfl⟩
theorem dX2_setText_41 : decode cX2_setText 41 = .ok (.aload_n 2, 1) ∧ 41 + 1 = 42 := ⟨by decide +kernel, rfl⟩
theorem dX2_setText_42 : decode cX2_setText 42 = .ok (.iload_n 3, 1) ∧ 42 + 1 = 43 := ⟨by decide +kernel, rfl⟩
theorem dX2_setText_43 : decode cX2_setText 43 = .ok (.invokevirtual 44, 3) ∧ 43 + 3 = 46 := ⟨by decide +kernel, rfl⟩
theorem dX2_setText_46 : decode cX2_setText 46 = .ok (.iastore, 1) ∧ 46 + 1 = 47 := ⟨by decide +kernel, rfl⟩
theorem dX2_setText_47 : decode cX2_setText 47 = .ok (.iinc 3 1, 3) ∧ 47 + 3 = 50 := ⟨by decide +kernel, rfl⟩
theorem dX2_setText_50 : decode cX2_setText 50 = .ok (.goto (-33), 3) ∧ 50 + 3 = 53 ∧ ((50 : Nat) : Int) + (-33) = ((17 : Nat) : Int) := ⟨by decide +kernel, rfl, rfl⟩
theorem dX2_setText_53 : decode cX2_setText 53 = .ok (.aload_n 0, 1) ∧ 53 + 1 = 54 := ⟨by decide +kernel, rfl⟩
theorem dX2_setText_54 : decode cX2_setText 54 = .ok (.getfield 15, 3) ∧ 54 + 3 = 57 := ⟨by decide +kernel, rfl⟩
theorem dX2_setText_57 : decode cX2_setText 57 = .ok (.iload_n 1, 1) ∧ 57 + 1 = 58 := ⟨by decide +kernel, rfl⟩
theorem dX2_setText_58 : decode cX2_setText 58 = .ok (.aload_n 2, 1) ∧ 58 + 1 = 59 := ⟨by decide +kernel, rfl⟩
theorem dX2_setText_59 : decode cX2_setText 59 = .ok (.getfield 41, 3) ∧ 59 + 3 = 62 := ⟨by decide +kernel, rfl⟩
theorem dX2_setText_62 : decode cX2_setText 62 = .ok (.iastore, 1) ∧ 62 + 1 = 63 := ⟨by decide +kernel, rfl⟩
theorem dX2_setText_63 : decode cX2_setText 63 = .ok (.return_, 1) ∧ 63 + 1 = 64 := ⟨by decide +kernel, rfl⟩
theorem dX2_hasText_0 : decode cX2_hasText 0 = .ok (.aload_n 0, 1) ∧ 0 + 1 = 1 := ⟨by decide +kernel, rfl⟩
theorem dX2_hasText_1 : decode cX2_hasText 1 = .ok (.iload_n 1, 1) ∧ 1 + 1 = 2 := ⟨by decide +kernel, rfl⟩
theorem dX2_hasText_2 : decode cX2_hasText 2 = .ok (.invokevirtual 48, 3) ∧ 2 + 3 = 5 := ⟨by decide +kernel, rfl⟩
theorem dX2_hasText_5 : decode cX2_hasText 5 = .ok (.aload_n 2, 1) ∧ 5 + 1 = 6 := ⟨by decide +kernel, rfl⟩
theorem dX2_hasText_6 : decode cX2_hasText 6 = .ok (.getfield 41, 3) ∧ 6 + 3 = 9 := ⟨by decide +kernel, rfl⟩
theorem dX2_hasText_9 : decode cX2_hasText 9 = .ok (.if_icmp .eq 5, 3) ∧ 9 + 3 = 12 ∧ ((9 : Nat) : Int) + (5) = ((14 : Nat) : Int) := ⟨by decide +kernel, rfl, rfl⟩
theorem dX2_hasText_12 : decode cX2_hasText 12 = .ok (.iconst 0, 1) ∧ 12 + 1 = 13 := ⟨by decide +kernel, rfl⟩
theorem dX2_hasText_13 : decode cX2_hasText 13 = .ok (.ireturn, 1) ∧ 13 + 1 = 14 := ⟨by decide +kernel, rfl⟩
theorem dX2_hasText_14 : decode cX2_hasText 14 = .ok (.iconst 0, 1) ∧ 14 + 1 = 15 := ⟨by decide +kernel, rfl⟩
theorem dX2_hasText_15 : decode cX2_hasText 15 = .ok (.istore_n 3, 1) ∧ 15 + 1 = 16 := ⟨by decide +kernel, rfl⟩
theorem dX2_hasText_16 : decode cX2_hasText 16 = .ok (.iload_n 3, 1) ∧ 16 + 1 = 17 := ⟨by decide +kernel, rfl⟩
theorem dX2_hasText_17 : decode cX2_hasText 17 = .ok (.aload_n 2, 1) ∧ 17 + 1 = 18 := ⟨by decide +kernel, rfl⟩
theorem dX2_hasText_18 : decode cX2_hasText 18 = .ok (.getfield 41, 3) ∧ 18 + 3 = 21 := ⟨by decide +kernel, rfl⟩
theorem dX2_hasText_21 : decode cX2_hasText 21 = .ok (.if_icmp .ge 25, 3) ∧ 21 + 3 = 24 ∧ ((21 : Nat) : Int) + (25) = ((46 : Nat) : Int) := ⟨by decide +kernel, rfl, rfl⟩
theorem dX2_hasText_24 : decode cX2_hasText 24 = .ok (.aload_n 0, 1) ∧ 24 + 1 = 25 := ⟨by decide +kernel, rfl⟩
theorem dX2_hasText_25 : decode cX2_hasText 25 = .ok (.iload_n 1, 1) ∧ 25 + 1 = 26 := ⟨by decide +kernel, rfl⟩
theorem dX2_hasText_26 : decode cX2_hasText 26 = .ok (.iload_n 3, 1) ∧ 26 + 1 = 27 := ⟨by decide +kernel, rfl⟩
theorem dX2_hasText_27 : decode cX2_hasText 27 = .ok (.invokevirtual 51, 3) ∧ 27 + 3 = 30 := ⟨by decide +kernel, rfl⟩
theorem dX2_hasText_30 : decode cX2_hasText 30 = .ok (.aload_n 2, 1) ∧ 30 + 1 = 31 := ⟨by decide +kernel, rfl⟩
theorem dX2_hasText_31 : decode cX2_hasText 31 = .ok (.iload_n 3, 1) ∧ 31 + 1 = 32 := ⟨by decide +kernel, rfl⟩
theorem dX2_hasText_32 : decode cX2_hasText 32 = .ok (.invokevirtual 44, 3) ∧ 32 + 3 = 35 := ⟨by decide +kernel, rfl⟩
theorem dX2_hasText_35 : decode cX2_hasText 35 = .ok (.if_icmp .eq 5, 3) ∧ 35 + 3 = 38 ∧ ((35 : Nat) : Int) + (5) = ((40 : Nat) : Int) := ⟨by decide +kernel, rfl, rfl⟩
theorem dX2_hasText_38 : decode cX2_hasText 38 = .ok (.iconst 0, 1) ∧ 38 + 1 = 39 := ⟨by decide +kernel, rfl⟩
theorem dX2_hasText_39 : decode cX2_hasText 39 = .ok (.ireturn, 1) ∧ 39 + 1 = 40 := ⟨by decide +kernel, rfl⟩
theorem dX2_hasText_40 : decode cX2_hasText 40 = .ok (.iinc 3 1, 3) ∧ 40 + 3 = 43 := ⟨by decide +kernel, rfl⟩
theorem dX2_hasText_43 : decode cX2_hasText 43 = .ok (.goto (-27), 3) ∧ 43 + 3 = 46 ∧ ((43 : Nat) : Int) + (-27) = ((16 : Nat) : Int) := ⟨by decide +kernel, rfl, rfl⟩
theorem dX2_hasText_46 : decode cX2_hasText 46 = .ok (.iconst 1, 1) ∧ 46 + 1 = 47 := ⟨by decide +kernel, rfl⟩
theorem dX2_hasText_47 : decode cX2_hasText 47 = .ok (.ireturn, 1) ∧ 47 + 1 = 48 := ⟨by decide +kernel, rfl⟩
theorem dX2_lengthOf_0 : decode cX2_lengthOf 0 = .ok (.iload_n 1, 1) ∧ 0 + 1 = 1 := ⟨by decide +kernel, rfl⟩
theorem dX2_lengthOf_1 : decode cX2_lengthOf 1 = .ok (.invokestatic 31, 3) ∧ 1 + 3 = 4 := ⟨by decide +kernel, rfl⟩
theorem dX2_lengthOf_4 : decode cX2_lengthOf 4 = .ok (.ifCond .eq 12, 3) ∧ 4 + 3 = 7 ∧ ((4 : Nat) : Int) + (12) = ((16 : Nat) : Int) := ⟨by decide +kernel, rfl, rfl⟩
theorem dX2_lengthOf_7 : decode cX2_lengthOf 7 = .ok (.aload_n 0, 1) ∧ 7 + 1 = 8 := ⟨by decide +kernel, rfl⟩
theorem dX2_lengthOf_8 : decode cX2_lengthOf 8 = .ok (.getfield 15, 3) ∧ 8 + 3 = 11 := ⟨by decide +kernel, rfl⟩
theorem dX2_lengthOf_11 : decode cX2_lengthOf 11 = .ok (.iload_n 1, 1) ∧ 11 + 1 = 12 := ⟨by decide +kernel, rfl⟩
theorem dX2_lengthOf_12 : decode cX2_lengthOf 12 = .ok (.iaload, 1) ∧ 12 + 1 = 13 := ⟨by decide +kernel, rfl⟩
theorem dX2_lengthOf_13 : decode cX2_lengthOf 13 = .ok (.goto 4, 3) ∧ 13 + 3 = 16 ∧ ((13 : Nat) : Int) + (4) = ((17 : Nat) : Int) := ⟨by decide +kernel, rfl, rfl⟩
theorem dX2_lengthOf_16 : decode cX2_lengthOf 16 = .ok (.iconst 0, 1) ∧ 16 + 1 = 17 := ⟨by decide +kernel, rfl⟩
theorem dX2_lengthOf_17 : decode cX2_lengthOf 17 = .ok (.ireturn, 1) ∧ 17 + 1 = 18 := ⟨by decide +kernel, rfl⟩
theorem dX2_codeAt_0 : decode cX2_codeAt 0 = .ok (.iload_n 1, 1) ∧ 0 + 1 = 1 := ⟨by decide +kernel, rfl⟩
theorem dX2_codeAt_1 : decode cX2_codeAt 1 = .ok (.invokestatic 31, 3) ∧ 1 + 3 = 4 := ⟨by decide +kernel, rfl⟩
theorem dX2_codeAt_4 : decode cX2_codeAt 4 = .ok (.ifCond .eq 17, 3) ∧ 4 + 3 = 7 ∧ ((4 : Nat) : Int) + (17) = ((21 : Nat) : Int) := ⟨by decide +kernel, rfl, rfl⟩
theorem dX2_codeAt_7 : decode cX2_codeAt 7 = .ok (.iload_n 2, 1) ∧ 7 + 1 = 8 := ⟨by decide +kernel, rfl⟩
theorem dX2_codeAt_8 : decode cX2_codeAt 8 = .ok (.ifCond .lt 13, 3) ∧ 8 + 3 = 11 ∧ ((8 : Nat) : Int) + (13) = ((21 : Nat) : Int) := ⟨by decide +kernel, rfl, rfl⟩
theorem dX2_codeAt_11 : decode cX2_codeAt 11 = .ok (.iload_n 2, 1) ∧ 11 + 1 = 12 := ⟨by decide +kernel, rfl⟩
theorem dX2_codeAt_12 : decode cX2_codeAt 12 = .ok (.bipush 8, 2) ∧ 12 + 2 = 14 := ⟨by decide +kernel, rfl⟩
theorem dX2_codeAt_14 : decode cX2_codeAt 14 = .ok (.if_icmp .ge 7, 3) ∧ 14 + 3 = 17 ∧ ((14 : Nat) : Int) + (7) = ((21 : Nat) : Int) := ⟨by decide +kernel, rfl, rfl⟩
theorem dX2_codeAt_17 : decode cX2_codeAt 17 = .ok (.iconst 1, 1) ∧ 17 + 1 = 18 := ⟨by decide +kernel, rfl⟩
theorem dX2_codeAt_18 : decode cX2_codeAt 18 = .ok (.goto 4, 3) ∧ 18 + 3 = 21 ∧ ((18 : Nat) : Int) + (4) = ((22 : Nat) : Int) := ⟨by decide +kernel, rfl, rfl⟩
theorem dX2_codeAt_21 : decode cX2_codeAt 21 = .ok (.iconst 0, 1) ∧ 21 + 1 = 22 := ⟨by decide +kernel, rfl⟩
theorem dX2_codeAt_22 : decode cX2_codeAt 22 = .ok (.istore_n 3, 1) ∧ 22 + 1 = 23 := ⟨by decide +kernel, rfl⟩
theorem dX2_codeAt_23 : decode cX2_codeAt 23 = .ok (.iload_n 3, 1) ∧ 23 + 1 = 24 := ⟨by decide +kernel, rfl⟩
theorem dX2_codeAt_24 : decode cX2_codeAt 24 = .ok (.ifCond .eq 17, 3) ∧ 24 + 3 = 27 ∧ ((24 : Nat) : Int) + (17) = ((41 : Nat) : Int) := ⟨by decide +kernel, rfl, rfl⟩
theorem dX2_codeAt_27 : decode cX2_codeAt 27 = .ok (.aload_n 0, 1) ∧ 27 + 1 = 28 := ⟨by decide +kernel, rfl⟩
theorem dX2_codeAt_28 : decode cX2_codeAt 28 = .ok (.getfield 18, 3) ∧ 28 + 3 = 31 := ⟨by decide +kernel, rfl⟩
theorem dX2_codeAt_31 : decode cX2_codeAt 31 = .ok (.iload_n 1, 1) ∧ 31 + 1 = 32 := ⟨by decide +kernel, rfl⟩
theorem dX2_codeAt_32 : decode cX2_codeAt 32 = .ok (.bipush 8, 2) ∧ 32 + 2 = 34 := ⟨by decide +kernel, rfl⟩
theorem dX2_codeAt_34 : decode cX2_codeAt 34 = .ok (.imul, 1) ∧ 34 + 1 = 35 := ⟨by decide +kernel, rfl⟩
theorem dX2_codeAt_35 : decode cX2_codeAt 35 = .ok (.iload_n 2, 1) ∧ 35 + 1 = 36 := ⟨by decide +kernel, rfl⟩
theorem dX2_codeAt_36 : decode cX2_codeAt 36 = .ok (.iadd, 1) ∧ 36 + 1 = 37 := ⟨by decide +kernel, rfl⟩
theorem dX2_codeAt_37 : decode cX2_codeAt 37 = .ok (.iaload, 1) ∧ 37 + 1 = 38 := ⟨by decide +kernel, rfl⟩
theorem dX2_codeAt_38 : decode cX2_codeAt 38 = .ok (.goto 4, 3) ∧ 38 + 3 = 41 ∧ ((38 : Nat) : Int) + (4) = ((42 : Nat) : Int) := ⟨by decide +kernel, rfl, rfl⟩
theorem dX2_codeAt_41 : decode cX2_codeAt 41 = .ok (.iconst (-1), 1) ∧ 41 + 1 = 42 := ⟨by decide +kernel, rfl⟩
theorem dX2_codeAt_42 : decode cX2_codeAt 42 = .ok (.ireturn, 1) ∧ 42 + 1 = 43 := ⟨by decide +kernel, rfl⟩
theorem dX2_marksOf_0 : decode cX2_marksOf 0 = .ok (.iload_n 1, 1) ∧ 0 + 1 = 1 := ⟨by decide +kernel, rfl⟩
theorem dX2_marksOf_1 : decode cX2_marksOf 1 = .ok (.invokestatic 31, 3) ∧ 1 + 3 = 4 := ⟨by decide +kernel, rfl⟩
theorem dX2_marksOf_4 : decode cX2_marksOf 4 = .ok (.ifCond .eq 12, 3) ∧ 4 + 3 = 7 ∧ ((4 : Nat) : Int) + (12) = ((16 : Nat) : Int) := ⟨by decide +kernel, rfl, rfl⟩
theorem dX2_marksOf_7 : decode cX2_marksOf 7 = .ok (.aload_n 0, 1) ∧ 7 + 1 = 8 := ⟨by decide +kernel, rfl⟩
theorem dX2_marksOf_8 : decode cX2_marksOf 8 = .ok (.getfield 9, 3) ∧ 8 + 3 = 11 := ⟨by decide +kernel, rfl⟩
theorem dX2_marksOf_11 : decode cX2_marksOf 11 = .ok (.iload_n 1, 1) ∧ 11 + 1 = 12 := ⟨by decide +kernel, rfl⟩
theorem dX2_marksOf_12 : decode cX2_marksOf 12 = .ok (.iaload, 1) ∧ 12 + 1 = 13 := ⟨by decide +kernel, rfl⟩
theorem dX2_marksOf_13 : decode cX2_marksOf 13 = .ok (.goto 4, 3) ∧ 13 + 3 = 16 ∧ ((13 : Nat) : Int) + (4) = ((17 : Nat) : Int) := ⟨by decide +kernel, rfl, rfl⟩
theorem dX2_marksOf_16 : decode cX2_marksOf 16 = .ok (.iconst 0, 1) ∧ 16 + 1 = 17 := ⟨by decide +kernel, rfl⟩
theorem dX2_marksOf_17 : decode cX2_marksOf 17 = .ok (.ireturn, 1) ∧ 17 + 1 = 18 := ⟨by decide +kernel, rfl⟩
theorem dX2_toggleMark_0 : decode cX2_toggleMark 0 = .ok (.iload_n 1, 1) ∧ 0 + 1 = 1 := ⟨by decide +kernel, rfl⟩
theorem dX2_toggleMark_1 : decode cX2_toggleMark 1 = .ok (.invokestatic 31, 3) ∧ 1 + 3 = 4 := ⟨by decide +kernel, rfl⟩
theorem dX2_toggleMark_4 : decode cX2_toggleMark 4 = .ok (.ifCond .eq 22, 3) ∧ 4 + 3 = 7 ∧ ((4 : Nat) : Int) + (22) = ((26 : Nat) : Int) := ⟨by decide +kernel, rfl, rfl⟩
theorem dX2_toggleMark_7 : decode cX2_toggleMark 7 = .ok (.iload_n 2, 1) ∧ 7 + 1 = 8 := ⟨by decide +kernel, rfl⟩
theorem dX2_toggleMark_8 : decode cX2_toggleMark 8 = .ok (.invokestatic 54, 3) ∧ 8 + 3 = 11 := ⟨by decide +kernel, rfl⟩
theorem dX2_toggleMark_11 : decode cX2_toggleMark 11 = .ok (.ifCond .eq 15, 3) ∧ 11 + 3 = 14 ∧ ((11 : Nat) : Int) + (15) = ((26 : Nat) : Int) := ⟨by decide +kernel, rfl, rfl⟩
theorem dX2_toggleMark_14 : decode cX2_toggleMark 14 = .ok (.aload_n 0, 1) ∧ 14 + 1 = 15 := ⟨by decide +kernel, rfl⟩
theorem dX2_toggleMark_15 : decode cX2_toggleMark 15 = .ok (.getfield 9, 3) ∧ 15 + 3 = 18 := ⟨by decide +kernel, rfl⟩
theorem dX2_toggleMark_18 : decode cX2_toggleMark 18 = .ok (.iload_n 1, 1) ∧ 18 + 1 = 19 := ⟨by decide +kernel, rfl⟩
theorem dX2_toggleMark_19 : decode cX2_toggleMark 19 = .ok (.dup2, 1) ∧ 19 + 1 = 20 := ⟨by decide +kernel, rfl⟩
theorem dX2_toggleMark_20 : decode cX2_toggleMark 20 = .ok (.iaload, 1) ∧ 20 + 1 = 21 := ⟨by decide +kernel, rfl⟩
theorem dX2_toggleMark_21 : decode cX2_toggleMark 21 = .ok (.iconst 1, 1) ∧ 21 + 1 = 22 := ⟨by decide +kernel, rfl⟩
theorem dX2_toggleMark_22 : decode cX2_toggleMark 22 = .ok (.iload_n 2, 1) ∧ 22 + 1 = 23 := ⟨by decide +kernel, rfl⟩
theorem dX2_toggleMark_23 : decode cX2_toggleMark 23 = .ok (.ishl, 1) ∧ 23 + 1 = 24 := ⟨by decide +kernel, rfl⟩
theorem dX2_toggleMark_24 : decode cX2_toggleMark 24 = .ok (.ixor, 1) ∧ 24 + 1 = 25 := ⟨by decide +kernel, rfl⟩
theorem dX2_toggleMark_25 : decode cX2_toggleMark 25 = .ok (.iastore, 1) ∧ 25 + 1 = 26 := ⟨by decide +kernel, rfl⟩
theorem dX2_toggleMark_26 : decode cX2_toggleMark 26 = .ok (.return_, 1) ∧ 26 + 1 = 27 := ⟨by decide +kernel, rfl⟩
theorem dX3_init_0 : decode cX3_init 0 = .ok (.aload_n 0, 1) ∧ 0 + 1 = 1 := ⟨by decide +kernel, rfl⟩
theorem dX3_init_1 : decode cX3_init 1 = .ok (.invokespecial 3, 3) ∧ 1 + 3 = 4 := ⟨by decide +kernel, rfl⟩
theorem dX3_init_4 : decode cX3_init 4 = .ok (.aload_n 0, 1) ∧ 4 + 1 = 5 := ⟨by decide +kernel, rfl⟩
theorem dX3_init_5 : decode cX3_init 5 = .ok (.bipush 120, 2) ∧ 5 + 2 = 7 := ⟨by decide +kernel, rfl⟩
theorem dX3_init_7 : decode cX3_init 7 = .ok (.newarray .int, 2) ∧ 7 + 2 = 9 := ⟨by decide +kernel, rfl⟩
theorem dX3_init_9 : decode cX3_init 9 = .ok (.putfield 9, 3) ∧ 9 + 3 = 12 := ⟨by decide +kernel, rfl⟩
theorem dX3_init_12 : decode cX3_init 12 = .ok (.aload_n 0, 1) ∧ 12 + 1 = 13 := ⟨by decide +kernel, rfl⟩
theorem dX3_init_13 : decode cX3_init 13 = .ok (.bipush 120, 2) ∧ 13 + 2 = 15 := ⟨by decide +kernel, rfl⟩
theorem dX3_init_15 : decode cX3_init 15 = .ok (.newarray .int, 2) ∧ 15 + 2 = 17 := ⟨by decide +kernel, rfl⟩
theorem dX3_init_17 : decode cX3_init 17 = .ok (.putfield 15, 3) ∧ 17 + 3 = 20 := ⟨by decide +kernel, rfl⟩
theorem dX3_init_20 : decode cX3_init 20 = .ok (.aload_n 0, 1) ∧ 20 + 1 = 21 := ⟨by decide +kernel, rfl⟩
theorem dX3_init_21 : decode cX3_init 21 = .ok (.bipush 120, 2) ∧ 21 + 2 = 23 := ⟨by decide +kernel, rfl⟩
theorem dX3_init_23 : decode cX3_init 23 = .ok (.newarray .int, 2) ∧ 23 + 2 = 25 := ⟨by decide +kernel, rfl⟩
theorem dX3_init_25 : decode cX3_init 25 = .ok (.putfield 18, 3) ∧ 25 + 3 = 28 := ⟨by decide +kernel, rfl⟩
theorem dX3_init_28 : decode cX3_init 28 = .ok (.return_, 1) ∧ 28 + 1 = 29 := ⟨by decide +kernel, rfl⟩
theorem dX3_copyFrom_0 : decode cX3_copyFrom 0 = .ok (.aload_n 0, 1) ∧ 0 + 1 = 1 := ⟨by decide +kernel, rfl⟩
theorem dX3_copyFrom_1 : decode cX3_copyFrom 1 = .ok (.aload_n 1, 1) ∧ 1 + 1 = 2 := ⟨by decide +kernel, rfl⟩
theorem dX3_copyFrom_2 : decode cX3_copyFrom 2 = .ok (.getfield 21, 3) ∧ 2 + 3 = 5 := ⟨by decide +kernel, rfl⟩
theorem dX3_copyFrom_5 : decode cX3_copyFrom 5 = .ok (.putfield 21, 3) ∧ 5 + 3 = 8 := ⟨by decide +kernel, rfl⟩
theorem dX3_copyFrom_8 : decode cX3_copyFrom 8 = .ok (.aload_n 1, 1) ∧ 8 + 1 = 9 := ⟨by decide +kernel, rfl⟩
theorem dX3_copyFrom_9 : decode cX3_copyFrom 9 = .ok (.getfield 9, 3) ∧ 9 + 3 = 12 := ⟨by decide +kernel, rfl⟩
theorem dX3_copyFrom_12 : decode cX3_copyFrom 12 = .ok (.iconst 0, 1) ∧ 12 + 1 = 13 := ⟨by decide +kernel, rfl⟩
theorem dX3_copyFrom_13 : decode cX3_copyFrom 13 = .ok (.aload_n 0, 1) ∧ 13 + 1 = 14 := ⟨by decide +kernel, rfl⟩
theorem dX3_copyFrom_14 : decode cX3_copyFrom 14 = .ok (.getfield 9, 3) ∧ 14 + 3 = 17 := ⟨by decide +kernel, rfl⟩
theorem dX3_copyFrom_17 : decode cX3_copyFrom 17 = .ok (.iconst 0, 1) ∧ 17 + 1 = 18 := ⟨by decide +kernel, rfl⟩
theorem dX3_copyFrom_18 : decode cX3_copyFrom 18 = .ok (.bipush 120, 2) ∧ 18 + 2 = 20 := ⟨by decide +kernel, rfl⟩
theorem dX3_copyFrom_20 : decode cX3_copyFrom 20 = .ok (.invokestatic 25, 3) ∧ 20 + 3 = 23 := ⟨by decide +kernel, rfl⟩
theorem dX3_copyFrom_23 : decode cX3_copyFrom 23 = .ok (.aload_n 1, 1) ∧ 23 + 1 = 24 := ⟨by decide +kernel, rfl⟩
theorem dX3_copyFrom_24 : decode cX3_copyFrom 24 = .ok (.getfield 15, 3) ∧ 24 + 3 = 27 := ⟨by decide +kernel, rfl⟩
theorem dX3_copyFrom_27 : decode cX3_copyFrom 27 = .ok (.iconst 0, 1) ∧ 27 + 1 = 28 := ⟨by decide +kernel, rfl⟩
theorem dX3_copyFrom_28 : decode cX3_copyFrom 28 = .ok (.aload_n 0, 1) ∧ 28 + 1 = 29 := ⟨by decide +kernel, rfl⟩
theorem dX3_copyFrom_29 : decode cX3_copyFrom 29 = .ok (.getfield 15, 3) ∧ 29 + 3 = 32 := ⟨by decide +kernel, rfl⟩
theorem dX3_copyFrom_32 : decode cX3_copyFrom 32 = .ok (.iconst 0, 1) ∧ 32 + 1 = 33 := ⟨by decide +kernel, rfl⟩
theorem dX3_copyFrom_33 : decode cX3_copyFrom 33 = .ok (.bipush 120, 2) ∧ 33 + 2 = 35 := ⟨by decide +kernel, rfl⟩
theorem dX3_copyFrom_35 : decode cX3_copyFrom 35 = .ok (.invokestatic 25, 3) ∧ 35 + 3 = 38 := ⟨by decide +kernel, rfl⟩
theorem dX3_copyFrom_38 : decode cX3_copyFrom 38 = .ok (.aload_n 1, 1) ∧ 38 + 1 = 39 := ⟨by decide +kernel, rfl⟩
theorem dX3_copyFrom_39 : decode cX3_copyFrom 39 = .ok (.getfield 18, 3) ∧ 39 + 3 = 42 := ⟨by decide +kernel, rfl⟩
theorem dX3_copyFrom_42 : decode cX3_copyFrom 42 = .ok (.iconst 0, 1) ∧ 42 + 1 = 43 := ⟨by decide +kernel, rfl⟩
theorem dX3_copyFrom_43 : decode cX3_copyFrom 43 = .ok (.aload_n 0, 1) ∧ 43 + 1 = 44 := ⟨by decide +kernel, rfl⟩
theorem dX3_copyFrom_44 : decode cX3_copyFrom 44 = .ok (.getfield 18, 3) ∧ 44 + 3 = 47 := ⟨by decide +kernel, rfl⟩
theorem dX3_copyFrom_47 : decode cX3_copyFrom 47 = .ok (.iconst 0, 1) ∧ 47 + 1 = 48 := ⟨by decide +kernel, rfl⟩
theorem dX3_copyFrom_48 : decode cX3_copyFrom 48 = .ok (.bipush 120, 2) ∧ 48 + 2 = 50 := ⟨by decide +kernel, rfl⟩
theorem dX3_copyFrom_50 : decode cX3_copyFrom 50 = .ok (.invokestatic 25, 3) ∧ 50 + 3 = 53 := ⟨by decide +kernel, rfl⟩
theorem dX3_copyFrom_53 : decode cX3_copyFrom 53 = .ok (.return_, 1) ∧ 53 + 1 = 54 := ⟨by decide +kernel, rfl⟩
theorem dX3_append_0 : decode cX3_append 0 = .ok (.aload_n 0, 1) ∧ 0 + 1 = 1 := ⟨by decide +kernel, rfl⟩
theorem dX3_append_1 : decode cX3_append 1 = .ok (.getfield 21, 3) ∧ 1 + 3 = 4 := ⟨by decide +kernel, rfl⟩
theorem dX3_append_4 : decode cX3_append 4 = .ok (.ifCond .lt 18, 3) ∧ 4 + 3 = 7 ∧ ((4 : Nat) : Int) + (18) = ((22 : Nat) : Int) := ⟨by decide +kernel, rfl, rfl⟩
theorem dX3_append_7 : decode cX3_append 7 = .ok (.aload_n 0, 1) ∧ 7 + 1 = 8 := ⟨by decide +kernel, rfl⟩
theorem dX3_append_8 : decode cX3_append 8 = .ok (.getfield 21, 3) ∧ 8 + 3 = 11 := ⟨by decide +kernel, rfl⟩
theorem dX3_append_11 : decode cX3_append 11 = .ok (.bipush 120, 2) ∧ 11 + 2 = 13 := ⟨by decide +kernel, rfl⟩
theorem dX3_append_13 : decode cX3_append 13 = .ok (.if_icmp .ge 9, 3) ∧ 13 + 3 = 16 ∧ ((13 : Nat) : Int) + (9) = ((22 : Nat) : Int) := ⟨by decide +kernel, rfl, rfl⟩
theorem dX3_append_16 : decode cX3_append 16 = .ok (.iload_n 2, 1) ∧ 16 + 1 = 17 := ⟨by decide +kernel, rfl⟩
theorem dX3_append_17 : decode cX3_append 17 = .ok (.bipush 40, 2) ∧ 17 + 2 = 19 := ⟨by decide +kernel, rfl⟩
theorem dX3_append_19 : decode cX3_append 19 = .ok (.if_icmp .le 6, 3) ∧ 19 + 3 = 22 ∧ ((19 : Nat) : Int) + (6) = ((25 : Nat) : Int) := ⟨by decide +kernel, rfl, rfl⟩
theorem dX3_append_22 : decode cX3_append 22 = .ok (.bipush (-2), 2) ∧ 22 + 2 = 24 := ⟨by decide +kernel, rfl⟩
theorem dX3_append_24 : decode cX3_append 24 = .ok (.ireturn, 1) ∧ 24 + 1 = 25 := ⟨by decide +kernel, rfl⟩
theorem dX3_append_25 : decode cX3_append 25 = .ok (.aload_n 0, 1) ∧ 25 + 1 = 26 := ⟨by decide +kernel, rfl⟩
theorem dX3_append_26 : decode cX3_append 26 = .ok (.getfield 9, 3) ∧ 26 + 3 = 29 := ⟨by decide +kernel, rfl⟩
theorem dX3_append_29 : decode cX3_append 29 = .ok (.aload_n 0, 1) ∧ 29 + 1 = 30 := ⟨by decide +kernel, rfl⟩
theorem dX3_append_30 : decode cX3_append 30 = .ok (.getfield 21, 3) ∧ 30 + 3 = 33 := ⟨by decide +kernel, rfl⟩
theorem dX3_append_33 : decode cX3_append 33 = .ok (.iload_n 1, 1) ∧ 33 + 1 = 34 := ⟨by decide +kernel, rfl⟩
theorem dX3_append_34 : decode cX3_append 34 = .ok (.iastore, 1) ∧ 34 + 1 = 35 := ⟨by decide +kernel, rfl⟩
theorem dX3_append_35 : decode cX3_append 35 = .ok (.aload_n 0, 1) ∧ 35 + 1 = 36 := ⟨by decide +kernel, rfl⟩
theorem dX3_append_36 : decode cX3_append 36 = .ok (.getfield 15, 3) ∧ 36 + 3 = 39 := ⟨by decide +kernel, rfl⟩
theorem dX3_append_39 : decode cX3_append 39 = .ok (.aload_n 0, 1) ∧ 39 + 1 = 40 := ⟨by decide +kernel, rfl⟩
theorem dX3_append_40 : decode cX3_append 40 = .ok (.getfield 21, 3) ∧ 40 + 3 = 43 := ⟨by decide +kernel, rfl⟩
theorem dX3_append_43 : decode cX3_append 43 = .ok (.iload_n 2, 1) ∧ 43 + 1 = 44 := ⟨by decide +kernel, rfl⟩
theorem dX3_append_44 : decode cX3_append 44 = .ok (.iastore, 1) ∧ 44 + 1 = 45 := ⟨by decide +kernel, rfl⟩
theorem dX3_append_45 : decode cX3_append 45 = .ok (.aload_n 0, 1) ∧ 45 + 1 = 46 := ⟨by decide +kernel, rfl⟩
theorem dX3_append_46 : decode cX3_append 46 = .ok (.getfield 18, 3) ∧ 46 + 3 = 49 := ⟨by decide +kernel, rfl⟩
theorem dX3_append_49 : decode cX3_append 49 = .ok (.aload_n 0, 1) ∧ 49 + 1 = 50 := ⟨by decide +kernel, rfl⟩
theorem dX3_append_50 : decode cX3_append 50 = .ok (.getfield 21, 3) ∧ 50 + 3 = 53 := ⟨by decide +kernel, rfl⟩
theorem dX3_append_53 : decode cX3_append 53 = .ok (.iload_n 3, 1) ∧ 53 + 1 = 54 := ⟨by decide +kernel, rfl⟩
theorem dX3_append_54 : decode cX3_append 54 = .ok (.iastore, 1) ∧ 54 + 1 = 55 := ⟨by decide +kernel, rfl⟩
theorem dX3_append_55 : decode cX3_append 55 = .ok (.aload_n 0, 1) ∧ 55 + 1 = 56 := ⟨by decide +kernel, rfl⟩
theorem dX3_append_56 : decode cX3_append 56 = .ok (.dup, 1) ∧ 56 + 1 = 57 := ⟨by decide +kernel, rfl⟩
theorem dX3_append_57 : decode cX3_append 57 = .ok (.getfield 21, 3) ∧ 57 + 3 = 60 := ⟨by decide +kernel, rfl⟩
theorem dX3_append_60 : decode cX3_append 60 = .ok (.iconst 1, 1) ∧ 60 + 1 = 61 := ⟨by decide +kernel, rfl⟩
theorem dX3_append_61 : decode cX3_append 61 = .ok (.iadd, 1) ∧ 61 + 1 = 62 := ⟨by decide +kernel, rfl⟩
theorem dX3_append_62 : decode cX3_append 62 = .ok (.putfield 21, 3) ∧ 62 + 3 = 65 := ⟨by decide +kernel, rfl⟩
theorem dX3_append_65 : decode cX3_append 65 = .ok (.aload_n 0, 1) ∧ 65 + 1 = 66 := ⟨by decide +kernel, rfl⟩
theorem dX3_append_66 : decode cX3_append 66 = .ok (.getfield 21, 3) ∧ 66 + 3 = 69 := ⟨by decide +kernel, rfl⟩
theorem dX3_append_69 : decode cX3_append 69 = .ok (.iconst 1, 1) ∧ 69 + 1 = 70 := ⟨by decide +kernel, rfl⟩
theorem dX3_append_70 : decode cX3_append 70 = .ok (.isub, 1) ∧ 70 + 1 = 71 := ⟨by decide +kernel, rfl⟩
theorem dX3_append_71 : decode cX3_append 71 = .ok (.ireturn, 1) ∧ 71 + 1 = 72 := ⟨by decide +kernel, rfl⟩
theorem dX3_childPlace_0 : decode cX3_childPlace 0 = .ok (.iload_n 1, 1) ∧ 0 + 1 = 1 := ⟨by decide +kernel, rfl⟩
theorem dX3_childPlace_1 : decode cX3_childPlace 1 = .ok (.iconst (-1), 1) ∧ 1 + 1 = 2 := ⟨by decide +kernel, rfl⟩
theorem dX3_childPlace_2 : decode cX3_childPlace 2 = .ok (.if_icmp .ge 6, 3) ∧ 2 + 3 = 5 ∧ ((2 : Nat) : Int) + (6) = ((8 : Nat) : Int) := ⟨by decide +kernel, rfl, rfl⟩
theorem dX3_childPlace_5 : decode cX3_childPlace 5 = .ok (.bipush (-2), 2) ∧ 5 + 2 = 7 := ⟨by decide +kernel, rfl⟩
theorem dX3_childPlace_7 : decode cX3_childPlace 7 = .ok (.ireturn, 1) ∧ 7 + 1 = 8 := ⟨by decide +kernel, rfl⟩
theorem dX3_childPlace_8 : decode cX3_childPlace 8 = .ok (.aload_n 0, 1) ∧ 8 + 1 = 9 := ⟨by decide +kernel, rfl⟩
theorem dX3_childPlace_9 : decode cX3_childPlace 9 = .ok (.iload_n 1, 1) ∧ 9 + 1 = 10 := ⟨by decide +kernel, rfl⟩
theorem dX3_childPlace_10 : decode cX3_childPlace 10 = .ok (.invokevirtual 31, 3) ∧ 10 + 3 = 13 := ⟨by decide +kernel, rfl⟩
theorem dX3_childPlace_13 : decode cX3_childPlace 13 = .ok (.iconst 1, 1) ∧ 13 + 1 = 14 := ⟨by decide +kernel, rfl⟩
theorem dX3_childPlace_14 : decode cX3_childPlace 14 = .ok (.iadd, 1) ∧ 14 + 1 = 15 := ⟨by decide +kernel, rfl⟩
theorem dX3_childPlace_15 : decode cX3_childPlace 15 = .ok (.istore_n 3, 1) ∧ 15 + 1 = 16 := ⟨by decide +kernel, rfl⟩
theorem dX3_childPlace_16 : decode cX3_childPlace 16 = .ok (.iload_n 1, 1) ∧ 16 + 1 = 17 := ⟨by decide +kernel, rfl⟩
theorem dX3_childPlace_17 : decode cX3_childPlace 17 = .ok (.iconst 1, 1) ∧ 17 + 1 = 18 := ⟨by decide +kernel, rfl⟩
theorem dX3_childPlace_18 : decode cX3_childPlace 18 = .ok (.iadd, 1) ∧ 18 + 1 = 19 := ⟨by decide +kernel, rfl⟩
theorem dX3_childPlace_19 : decode cX3_childPlace 19 = .ok (.istore 4, 2) ∧ 19 + 2 = 21 := ⟨by decide +kernel, rfl⟩
theorem dX3_childPlace_21 : decode cX3_childPlace 21 = .ok (.iload 4, 2) ∧ 21 + 2 = 23 := ⟨by decide +kernel, rfl⟩
theorem dX3_childPlace_23 : decode cX3_childPlace 23 = .ok (.aload_n 0, 1) ∧ 23 + 1 = 24 := ⟨by decide +kernel, rfl⟩
theorem dX3_childPlace_24 : decode cX3_childPlace 24 = .ok (.getfield 21, 3) ∧ 24 + 3 = 27 := ⟨by decide +kernel, rfl⟩
theorem dX3_childPlace_27 : decode cX3_childPlace 27 = .ok (.if_icmp .ge 45, 3) ∧ 27 + 3 = 30 ∧ ((27 : Nat) : Int) + (45) = ((72 : Nat) : Int) := ⟨by decide +kernel, rfl, rfl⟩
theorem dX3_childPlace_30 : decode cX3_childPlace 30 = .ok (.aload_n 0, 1) ∧ 30 + 1 = 31 := ⟨by decide +kernel, rfl⟩
theorem dX3_childPlace_31 : decode cX3_childPlace 31 = .ok (.getfield 15, 3) ∧ 31 + 3 = 34 := ⟨by decide +kernel, rfl⟩
theorem dX3_childPlace_34 : decode cX3_childPlace 34 = .ok (.iload 4, 2) ∧ 34 + 2 = 36 := ⟨by decide +kernel, rfl⟩
theorem dX3_childPlace_36 : decode cX3_childPlace 36 = .ok (.iaload, 1) ∧ 36 + 1 = 37 := ⟨by decide +kernel, rfl⟩
theorem dX3_childPlace_37 : decode cX3_childPlace 37 = .ok (.iload_n 3, 1) ∧ 37 + 1 = 38 := ⟨by decide +kernel, rfl⟩
theorem dX3_childPlace_38 : decode cX3_childPlace 38 = .ok (.if_icmp .lt 34, 3) ∧ 38 + 3 = 41 ∧ ((38 : Nat) : Int) + (34) = ((72 : Nat) : Int) := ⟨by decide +kernel, rfl, rfl⟩
theorem dX3_childPlace_41 : decode cX3_childPlace 41 = .ok (.aload_n 0, 1) ∧ 41 + 1 = 42 := ⟨by decide +kernel, rfl⟩
theorem dX3_childPlace_42 : decode cX3_childPlace 42 = .ok (.getfield 15, 3) ∧ 42 + 3 = 45 := ⟨by decide +kernel, rfl⟩
theorem dX3_childPlace_45 : decode cX3_childPlace 45 = .ok (.iload 4, 2) ∧ 45 + 2 = 47 := ⟨by decide +kernel, rfl⟩
theorem dX3_childPlace_47 : decode cX3_childPlace 47 = .ok (.iaload, 1) ∧ 47 + 1 = 48 := ⟨by decide +kernel, rfl⟩
theorem dX3_childPlace_48 : decode cX3_childPlace 48 = .ok (.iload_n 3, 1) ∧ 48 + 1 = 49 := ⟨by decide +kernel, rfl⟩
theorem dX3_childPlace_49 : decode cX3_childPlace 49 = .ok (.if_icmp .ne 17, 3) ∧ 49 + 3 = 52 ∧ ((49 : Nat) : Int) + (17) = ((66 : Nat) : Int) := ⟨by decide +kernel, rfl, rfl⟩
theorem dX3_childPlace_52 : decode cX3_childPlace 52 = .ok (.aload_n 0, 1) ∧ 52 + 1 = 53 := ⟨by decide +kernel, rfl⟩
theorem dX3_childPlace_53 : decode cX3_childPlace 53 = .ok (.getfield 9, 3) ∧ 53 + 3 = 56 := ⟨by decide +kernel, rfl⟩
theorem dX3_childPlace_56 : decode cX3_childPlace 56 = .ok (.iload 4, 2) ∧ 56 + 2 = 58 := ⟨by decide +kernel, rfl⟩
theorem dX3_childPlace_58 : decode cX3_childPlace 58 = .ok (.iaload, 1) ∧ 58 + 1 = 59 := ⟨by decide +kernel, rfl⟩
theorem dX3_childPlace_59 : decode cX3_childPlace 59 = .ok (.iload_n 2, 1) ∧ 59 + 1 = 60 := ⟨by decide +kernel, rfl⟩
theorem dX3_childPlace_60 : decode cX3_childPlace 60 = .ok (.if_icmp .ne 6, 3) ∧ 60 + 3 = 63 ∧ ((60 : Nat) : Int) + (6) = ((66 : Nat) : Int) := ⟨by decide +kernel, rfl, rfl⟩
theorem dX3_childPlace_63 : decode cX3_childPlace 63 = .ok (.iload 4, 2) ∧ 63 + 2 = 65 := ⟨by decide +kernel, rfl⟩
theorem dX3_childPlace_65 : decode cX3_childPlace 65 = .ok (.ireturn, 1) ∧ 65 + 1 = 66 := ⟨by decide +kernel, rfl⟩
theorem dX3_childPlace_66 : decode cX3_childPlace 66 = .ok (.iinc 4 1, 3) ∧ 66 + 3 = 69 := ⟨by decide +kernel, rfl⟩
theorem dX3_childPlace_69 : decode cX3_childPlace 69 = .ok (.goto (-48), 3) ∧ 69 + 3 = 72 ∧ ((69 : Nat) : Int) + (-48) = ((21 : Nat) : Int) := ⟨by decide +kernel, rfl, rfl⟩
theorem dX3_childPlace_72 : decode cX3_childPlace 72 = .ok (.bipush (-2), 2) ∧ 72 + 2 = 74 := ⟨by decide +kernel, rfl⟩
theorem dX3_childPlace_74 : decode cX3_childPlace 74 = .ok (.ireturn, 1) ∧ 74 + 1 = 75 := ⟨by decide +kernel, rfl⟩
theorem dX3_isThere_0 : decode cX3_isThere 0 = .ok (.iload_n 1, 1) ∧ 0 + 1 = 1 := ⟨by decide +kernel, rfl⟩
theorem dX3_isThere_1 : decode cX3_isThere 1 = .ok (.ifCond .lt 21, 3) ∧ 1 + 3 = 4 ∧ ((1 : Nat) : Int) + (21) = ((22 : Nat) : Int) := ⟨by decide +kernel, rfl, rfl⟩
theorem dX3_isThere_4 : decode cX3_isThere 4 = .ok (.iload_n 1, 1) ∧ 4 + 1 = 5 := ⟨by decide +kernel, rfl⟩
theorem dX3_isThere_5 : decode cX3_isThere 5 = .ok (.aload_n 0, 1) ∧ 5 + 1 = 6 := ⟨by decide +kernel, rfl⟩
theorem dX3_isThere_6 : decode cX3_isThere 6 = .ok (.getfield 21, 3) ∧ 6 + 3 = 9 := ⟨by decide +kernel, rfl⟩
theorem dX3_isThere_9 : decode cX3_isThere 9 = .ok (.if_icmp .ge 13, 3) ∧ 9 + 3 = 12 ∧ ((9 : Nat) : Int) + (13) = ((22 : Nat) : Int) := ⟨by decide +kernel, rfl, rfl⟩
theorem dX3_isThere_12 : decode cX3_isThere 12 = .ok (.iload_n 1, 1) ∧ 12 + 1 = 13 := ⟨by decide +kernel, rfl⟩
theorem dX3_isThere_13 : decode cX3_isThere 13 = .ok (.bipush 120, 2) ∧ 13 + 2 = 15 := ⟨by decide +kernel, rfl⟩
theorem dX3_isThere_15 : decode cX3_isThere 15 = .ok (.if_icmp .ge 7, 3) ∧ 15 + 3 = 18 ∧ ((15 : Nat) : Int) + (7) = ((22 : Nat) : Int) := ⟨by decide +kernel, rfl, rfl⟩
theorem dX3_isThere_18 : decode cX3_isThere 18 = .ok (.iconst 1, 1) ∧ 18 + 1 = 19 := ⟨by decide +kernel, rfl⟩
theorem dX3_isThere_19 : decode cX3_isThere 19 = .ok (.goto 4, 3) ∧ 19 + 3 = 22 ∧ ((19 : Nat) : Int) + (4) = ((23 : Nat) : Int) := ⟨by decide +kernel, rfl, rfl⟩
theorem dX3_isThere_22 : decode cX3_isThere 22 = .ok (.iconst 0, 1) ∧ 22 + 1 = 23 := ⟨by decide +kernel, rfl⟩
theorem dX3_isThere_23 : decode cX3_isThere 23 = .ok (.ireturn, 1) ∧ 23 + 1 = 24 := ⟨by decide +kernel, rfl⟩
theorem dX3_nodeOf_0 : decode cX3_nodeOf 0 = .ok (.aload_n 0, 1) ∧ 0 + 1 = 1 := ⟨by decide +kernel, rfl⟩
theorem dX3_nodeOf_1 : decode cX3_nodeOf 1 = .ok (.iload_n 1, 1) ∧ 1 + 1 = 2 := ⟨by decide +kernel, rfl⟩
theorem dX3_nodeOf_2 : decode cX3_nodeOf 2 = .ok (.invokevirtual 35, 3) ∧ 2 + 3 = 5 := ⟨by decide +kernel, rfl⟩
theorem dX3_nodeOf_5 : decode cX3_nodeOf 5 = .ok (.ifCond .eq 12, 3) ∧ 5 + 3 = 8 ∧ ((5 : Nat) : Int) + (12) = ((17 : Nat) : Int) := ⟨by decide +kernel, rfl, rfl⟩
theorem dX3_nodeOf_8 : decode cX3_nodeOf 8 = .ok (.aload_n 0, 1) ∧ 8 + 1 = 9 := ⟨by decide +kernel, rfl⟩
theorem dX3_nodeOf_9 : decode cX3_nodeOf 9 = .ok (.getfield 9, 3) ∧ 9 + 3 = 12 := ⟨by decide +kernel, rfl⟩
theorem dX3_nodeOf_12 : decode cX3_nodeOf 12 = .ok (.iload_n 1, 1) ∧ 12 + 1 = 13 := ⟨by decide +kernel, rfl⟩
theorem dX3_nodeOf_13 : decode cX3_nodeOf 13 = .ok (.iaload, 1) ∧ 13 + 1 = 14 := ⟨by decide +kernel, rfl⟩
theorem dX3_nodeOf_14 : decode cX3_nodeOf 14 = .ok (.goto 4, 3) ∧ 14 + 3 = 17 ∧ ((14 : Nat) : Int) + (4) = ((18 : Nat) : Int) := ⟨by decide +kernel, rfl, rfl⟩
theorem dX3_nodeOf_17 : decode cX3_nodeOf 17 = .ok (.iconst 0, 1) ∧ 17 + 1 = 18 := ⟨by decide +kernel, rfl⟩
theorem dX3_nodeOf_18 : decode cX3_nodeOf 18 = .ok (.ireturn, 1) ∧ 18 + 1 = 19 := ⟨by decide +kernel, rfl⟩
theorem dX3_levelOf_0 : decode cX3_levelOf 0 = .ok (.aload_n 0, 1) ∧ 0 + 1 = 1 := ⟨by decide +kernel, rfl⟩
theorem dX3_levelOf_1 : decode cX3_levelOf 1 = .ok (.iload_n 1, 1) ∧ 1 + 1 = 2 := ⟨by decide +kernel, rfl⟩
theorem dX3_levelOf_2 : decode cX3_levelOf 2 = .ok (.invokevirtual 35, 3) ∧ 2 + 3 = 5 := ⟨by decide +kernel, rfl⟩
theorem dX3_levelOf_5 : decode cX3_levelOf 5 = .ok (.ifCond .eq 12, 3) ∧ 5 + 3 = 8 ∧ ((5 : Nat) : Int) + (12) = ((17 : Nat) : Int) := ⟨by decide +kernel, rfl, rfl⟩
theorem dX3_levelOf_8 : decode cX3_levelOf 8 = .ok (.aload_n 0, 1) ∧ 8 + 1 = 9 := ⟨by decide +kernel, rfl⟩
theorem dX3_levelOf_9 : decode cX3_levelOf 9 = .ok (.getfield 15, 3) ∧ 9 + 3 = 12 := ⟨by decide +kernel, rfl⟩
theorem dX3_levelOf_12 : decode cX3_levelOf 12 = .ok (.iload_n 1, 1) ∧ 12 + 1 = 13 := ⟨by decide +kernel, rfl⟩
theorem dX3_levelOf_13 : decode cX3_levelOf 13 = .ok (.iaload, 1) ∧ 13 + 1 = 14 := ⟨by decide +kernel, rfl⟩
theorem dX3_levelOf_14 : decode cX3_levelOf 14 = .ok (.goto 4, 3) ∧ 14 + 3 = 17 ∧ ((14 : Nat) : Int) + (4) = ((18 : Nat) : Int) := ⟨by decide +kernel, rfl, rfl⟩
theorem dX3_levelOf_17 : decode cX3_levelOf 17 = .ok (.iconst 0, 1) ∧ 17 + 1 = 18 := ⟨by decide +kernel, rfl⟩
theorem dX3_levelOf_18 : decode cX3_levelOf 18 = .ok (.ireturn, 1) ∧ 18 + 1 = 19 := ⟨by decide +kernel, rfl⟩
theorem dX3_foldOf_0 : decode cX3_foldOf 0 = .ok (.aload_n 0, 1) ∧ 0 + 1 = 1 := ⟨by decide +kernel, rfl⟩
theorem dX3_foldOf_1 : decode cX3_foldOf 1 = .ok (.iload_n 1, 1) ∧ 1 + 1 = 2 := ⟨by decide +kernel, rfl⟩
theorem dX3_foldOf_2 : decode cX3_foldOf 2 = .ok (.invokevirtual 35, 3) ∧ 2 + 3 = 5 := ⟨by decide +kernel, rfl⟩
theorem dX3_foldOf_5 : decode cX3_foldOf 5 = .ok (.ifCond .eq 12, 3) ∧ 5 + 3 = 8 ∧ ((5 : Nat) : Int) + (12) = ((17 : Nat) : Int) := ⟨by decide +kernel, rfl, rfl⟩
theorem dX3_foldOf_8 : decode cX3_foldOf 8 = .ok (.aload_n 0, 1) ∧ 8 + 1 = 9 := ⟨by decide +kernel, rfl⟩
theorem dX3_foldOf_9 : decode cX3_foldOf 9 = .ok (.getfield 18, 3) ∧ 9 + 3 = 12 := ⟨by decide +kernel, rfl⟩
theorem dX3_foldOf_12 : decode cX3_foldOf 12 = .ok (.iload_n 1, 1) ∧ 12 + 1 = 13 := ⟨by decide +kernel, rfl⟩
theorem dX3_foldOf_13 : decode cX3_foldOf 13 = .ok (.iaload, 1) ∧ 13 + 1 = 14 := ⟨by decide +kernel, rfl⟩
theorem dX3_foldOf_14 : decode cX3_foldOf 14 = .ok (.goto 4, 3) ∧ 14 + 3 = 17 ∧ ((14 : Nat) : Int) + (4) = ((18 : Nat) : Int) := ⟨by decide +kernel, rfl, rfl⟩
theorem dX3_foldOf_17 : decode cX3_foldOf 17 = .ok (.iconst 0, 1) ∧ 17 + 1 = 18 := ⟨by decide +kernel, rfl⟩
theorem dX3_foldOf_18 : decode cX3_foldOf 18 = .ok (.ireturn, 1) ∧ 18 + 1 = 19 := ⟨by decide +kernel, rfl⟩
theorem dX3_setFold_0 : decode cX3_setFold 0 = .ok (.aload_n 0, 1) ∧ 0 + 1 = 1 := ⟨by decide +kernel, rfl⟩
theorem dX3_setFold_1 : decode cX3_setFold 1 = .ok (.iload_n 1, 1) ∧ 1 + 1 = 2 := ⟨by decide +kernel, rfl⟩
theorem dX3_setFold_2 : decode cX3_setFold 2 = .ok (.invokevirtual 35, 3) ∧ 2 + 3 = 5 := ⟨by decide +kernel, rfl⟩
theorem dX3_setFold_5 : decode cX3_setFold 5 = .ok (.ifCond .eq 10, 3) ∧ 5 + 3 = 8 ∧ ((5 : Nat) : Int) + (10) = ((15 : Nat) : Int) := ⟨by decide +kernel, rfl, rfl⟩
theorem dX3_setFold_8 : decode cX3_setFold 8 = .ok (.aload_n 0, 1) ∧ 8 + 1 = 9 := ⟨by decide +kernel, rfl⟩
theorem dX3_setFold_9 : decode cX3_setFold 9 = .ok (.getfield 18, 3) ∧ 9 + 3 = 12 := ⟨by decide +kernel, rfl⟩
theorem dX3_setFold_12 : decode cX3_setFold 12 = .ok (.iload_n 1, 1) ∧ 12 + 1 = 13 := ⟨by decide +kernel, rfl⟩
theorem dX3_setFold_13 : decode cX3_setFold 13 = .ok (.iload_n 2, 1) ∧ 13 + 1 = 14 := ⟨by decide +kernel, rfl⟩
theorem dX3_setFold_14 : decode cX3_setFold 14 = .ok (.iastore, 1) ∧ 14 + 1 = 15 := ⟨by decide +kernel, rfl⟩
theorem dX3_setFold_15 : decode cX3_setFold 15 = .ok (.return_, 1) ∧ 15 + 1 = 16 := ⟨by decide +kernel, rfl⟩
theorem dX3_endOf_0 : decode cX3_endOf 0 = .ok (.aload_n 0, 1) ∧ 0 + 1 = 1 := ⟨by decide +kernel, rfl⟩
theorem dX3_endOf_1 : decode cX3_endOf 1 = .ok (.iload_n 1, 1) ∧ 1 + 1 = 2 := ⟨by decide +kernel, rfl⟩
theorem dX3_endOf_2 : decode cX3_endOf 2 = .ok (.invokevirtual 31, 3) ∧ 2 + 3 = 5 := ⟨by decide +kernel, rfl⟩
theorem dX3_endOf_5 : decode cX3_endOf 5 = .ok (.istore_n 2, 1) ∧ 5 + 1 = 6 := ⟨by decide +kernel, rfl⟩
theorem dX3_endOf_6 : decode cX3_endOf 6 = .ok (.iload_n 1, 1) ∧ 6 + 1 = 7 := ⟨by decide +kernel, rfl⟩
theorem dX3_endOf_7 : decode cX3_endOf 7 = .ok (.iconst 1, 1) ∧ 7 + 1 = 8 := ⟨by decide +kernel, rfl⟩
theorem dX3_endOf_8 : decode cX3_endOf 8 = .ok (.iadd, 1) ∧ 8 + 1 = 9 := ⟨by decide +kernel, rfl⟩
theorem dX3_endOf_9 : decode cX3_endOf 9 = .ok (.iconst 0, 1) ∧ 9 + 1 = 10 := ⟨by decide +kernel, rfl⟩
theorem dX3_endOf_10 : decode cX3_endOf 10 = .ok (.invokestatic 39, 3) ∧ 10 + 3 = 13 := ⟨by decide +kernel, rfl⟩
theorem dX3_endOf_13 : decode cX3_endOf 13 = .ok (.istore_n 3, 1) ∧ 13 + 1 = 14 := ⟨by decide +kernel, rfl⟩
theorem dX3_endOf_14 : decode cX3_endOf 14 = .ok (.iload_n 3, 1) ∧ 14 + 1 = 15 := ⟨by decide +kernel, rfl⟩
theorem dX3_endOf_15 : decode cX3_endOf 15 = .ok (.aload_n 0, 1) ∧ 15 + 1 = 16 := ⟨by decide +kernel, rfl⟩
theorem dX3_endOf_16 : decode cX3_endOf 16 = .ok (.getfield 21, 3) ∧ 16 + 3 = 19 := ⟨by decide +kernel, rfl⟩
theorem dX3_endOf_19 : decode cX3_endOf 19 = .ok (.if_icmp .ge 21, 3) ∧ 19 + 3 = 22 ∧ ((19 : Nat) : Int) + (21) = ((40 : Nat) : Int) := ⟨by decide +kernel, rfl, rfl⟩
theorem dX3_endOf_22 : decode cX3_endOf 22 = .ok (.aload_n 0, 1) ∧ 22 + 1 = 23 := ⟨by decide +kernel, rfl⟩
theorem dX3_endOf_23 : decode cX3_endOf 23 = .ok (.getfield 15, 3) ∧ 23 + 3 = 26 := ⟨by decide +kernel, rfl⟩
theorem dX3_endOf_26 : decode cX3_endOf 26 = .ok (.iload_n 3, 1) ∧ 26 + 1 = 27 := ⟨by decide +kernel, rfl⟩
theorem dX3_endOf_27 : decode cX3_endOf 27 = .ok (.iaload, 1) ∧ 27 + 1 = 28 := ⟨by decide +kernel, rfl⟩
theorem dX3_endOf_28 : decode cX3_endOf 28 = .ok (.iload_n 2, 1) ∧ 28 + 1 = 29 := ⟨by decide +kernel, rfl⟩
theorem dX3_endOf_29 : decode cX3_endOf 29 = .ok (.if_icmp .gt 5, 3) ∧ 29 + 3 = 32 ∧ ((29 : Nat) : Int) + (5) = ((34 : Nat) : Int) := ⟨by decide +kernel, rfl, rfl⟩
theorem dX3_endOf_32 : decode cX3_endOf 32 = .ok (.iload_n 3, 1) ∧ 32 + 1 = 33 := ⟨by decide +kernel, rfl⟩
theorem dX3_endOf_33 : decode cX3_endOf 33 = .ok (.ireturn, 1) ∧ 33 + 1 = 34 := ⟨by decide +kernel, rfl⟩
theorem dX3_endOf_34 : decode cX3_endOf 34 = .ok (.iinc 3 1, 3) ∧ 34 + 3 = 37 := ⟨by decide +kernel, rfl⟩
theorem dX3_endOf_37 : decode cX3_endOf 37 = .ok (.goto (-23), 3) ∧ 37 + 3 = 40 ∧ ((37 : Nat) : Int) + (-23) = ((14 : Nat) : Int) := ⟨by decide +kernel, rfl, rfl⟩
theorem dX3_endOf_40 : decode cX3_endOf 40 = .ok (.aload_n 0, 1) ∧ 40 + 1 = 41 := ⟨by decide +kernel, rfl⟩
theorem dX3_endOf_41 : decode cX3_endOf 41 = .ok (.getfield 21, 3) ∧ 41 + 3 = 44 := ⟨by decide +kernel, rfl⟩
theorem dX3_endOf_44 : decode cX3_endOf 44 = .ok (.ireturn, 1) ∧ 44 + 1 = 45 := ⟨by decide +kernel, rfl⟩
theorem dX3_hasChildren_0 : decode cX3_hasChildren 0 = .ok (.aload_n 0, 1) ∧ 0 + 1 = 1 := ⟨by decide +kernel, rfl⟩
theorem dX3_hasChildren_1 : decode cX3_hasChildren 1 = .ok (.iload_n 1, 1) ∧ 1 + 1 = 2 := ⟨by decide +kernel, rfl⟩
theorem dX3_hasChildren_2 : decode cX3_hasChildren 2 = .ok (.iconst 1, 1) ∧ 2 + 1 = 3 := ⟨by decide +kernel, rfl⟩
theorem dX3_hasChildren_3 : decode cX3_hasChildren 3 = .ok (.iadd, 1) ∧ 3 + 1 = 4 := ⟨by decide +kernel, rfl⟩
theorem dX3_hasChildren_4 : decode cX3_hasChildren 4 = .ok (.invokevirtual 31, 3) ∧ 4 + 3 = 7 := ⟨by decide +kernel, rfl⟩
theorem dX3_hasChildren_7 : decode cX3_hasChildren 7 = .ok (.aload_n 0, 1) ∧ 7 + 1 = 8 := ⟨by decide +kernel, rfl⟩
theorem dX3_hasChildren_8 : decode cX3_hasChildren 8 = .ok (.iload_n 1, 1) ∧ 8 + 1 = 9 := ⟨by decide +kernel, rfl⟩
theorem dX3_hasChildren_9 : decode cX3_hasChildren 9 = .ok (.invokevirtual 31, 3) ∧ 9 + 3 = 12 := ⟨by decide +kernel, rfl⟩
theorem dX3_hasChildren_12 : decode cX3_hasChildren 12 = .ok (.if_icmp .le 7, 3) ∧ 12 + 3 = 15 ∧ ((12 : Nat) : Int) + (7) = ((19 : Nat) : Int) := ⟨by decide +kernel, rfl, rfl⟩
theorem dX3_hasChildren_15 : decode cX3_hasChildren 15 = .ok (.iconst 1, 1) ∧ 15 + 1 = 16 := ⟨by decide +kernel, rfl⟩
theorem dX3_hasChildren_16 : decode cX3_hasChildren 16 = .ok (.goto 4, 3) ∧ 16 + 3 = 19 ∧ ((16 : Nat) : Int) + (4) = ((20 : Nat) : Int) := ⟨by decide +kernel, rfl, rfl⟩
theorem dX3_hasChildren_19 : decode cX3_hasChildren 19 = .ok (.iconst 0, 1) ∧ 19 + 1 = 20 := ⟨by decide +kernel, rfl⟩
theorem dX3_hasChildren_20 : decode cX3_hasChildren 20 = .ok (.ireturn, 1) ∧ 20 + 1 = 21 := ⟨by decide +kernel, rfl⟩
theorem dX3_atLevel_0 : decode cX3_atLevel 0 = .ok (.iload_n 1, 1) ∧ 0 + 1 = 1 := ⟨by decide +kernel, rfl⟩
theorem dX3_atLevel_1 : decode cX3_atLevel 1 = .ok (.aload_n 0, 1) ∧ 1 + 1 = 2 := ⟨by decide +kernel, rfl⟩
theorem dX3_atLevel_2 : decode cX3_atLevel 2 = .ok (.getfield 21, 3) ∧ 2 + 3 = 5 := ⟨by decide +kernel, rfl⟩
theorem dX3_atLevel_5 : decode cX3_atLevel 5 = .ok (.iconst 1, 1) ∧ 5 + 1 = 6 := ⟨by decide +kernel, rfl⟩
theorem dX3_atLevel_6 : decode cX3_atLevel 6 = .ok (.isub, 1) ∧ 6 + 1 = 7 := ⟨by decide +kernel, rfl⟩
theorem dX3_atLevel_7 : decode cX3_atLevel 7 = .ok (.invokestatic 45, 3) ∧ 7 + 3 = 10 := ⟨by decide +kernel, rfl⟩
theorem dX3_atLevel_10 : decode cX3_atLevel 10 = .ok (.istore_n 3, 1) ∧ 10 + 1 = 11 := ⟨by decide +kernel, rfl⟩
theorem dX3_atLevel_11 : decode cX3_atLevel 11 = .ok (.iload_n 3, 1) ∧ 11 + 1 = 12 := ⟨by decide +kernel, rfl⟩
theorem dX3_atLevel_12 : decode cX3_atLevel 12 = .ok (.ifCond .lt 21, 3) ∧ 12 + 3 = 15 ∧ ((12 : Nat) : Int) + (21) = ((33 : Nat) : Int) := ⟨by decide +kernel, rfl, rfl⟩
theorem dX3_atLevel_15 : decode cX3_atLevel 15 = .ok (.aload_n 0, 1) ∧ 15 + 1 = 16 := ⟨by decide +kernel, rfl⟩
theorem dX3_atLevel_16 : decode cX3_atLevel 16 = .ok (.getfield 15, 3) ∧ 16 + 3 = 19 := ⟨by decide +kernel, rfl⟩
theorem dX3_atLevel_19 : decode cX3_atLevel 19 = .ok (.iload_n 3, 1) ∧ 19 + 1 = 20 := ⟨by decide +kernel, rfl⟩
theorem dX3_atLevel_20 : decode cX3_atLevel 20 = .ok (.iaload, 1) ∧ 20 + 1 = 21 := ⟨by decide +kernel, rfl⟩
theorem dX3_atLevel_21 : decode cX3_atLevel 21 = .ok (.iload_n 2, 1) ∧ 21 + 1 = 22 := ⟨by decide +kernel, rfl⟩
theorem dX3_atLevel_22 : decode cX3_atLevel 22 = .ok (.if_icmp .ne 5, 3) ∧ 22 + 3 = 25 ∧ ((22 : Nat) : Int) + (5) = ((27 : Nat) : Int) := ⟨by decide +kernel, rfl, rfl⟩
theorem dX3_atLevel_25 : decode cX3_atLevel 25 = .ok (.iload_n 3, 1) ∧ 25 + 1 = 26 := ⟨by decide +kernel, rfl⟩
theorem dX3_atLevel_26 : decode cX3_atLevel 26 = .ok (.ireturn, 1) ∧ 26 + 1 = 27 := ⟨by decide +kernel, rfl⟩
theorem dX3_atLevel_27 : decode cX3_atLevel 27 = .ok (.iinc 3 (-1), 3) ∧ 27 + 3 = 30 := ⟨by decide +kernel, rfl⟩
theorem dX3_atLevel_30 : decode cX3_atLevel 30 = .ok (.goto (-19), 3) ∧ 30 + 3 = 33 ∧ ((30 : Nat) : Int) + (-19) = ((11 : Nat) : Int) := ⟨by decide +kernel, rfl, rfl⟩
theorem dX3_atLevel_33 : decode cX3_atLevel 33 = .ok (.iconst (-1), 1) ∧ 33 + 1 = 34 := ⟨by decide +kernel, rfl⟩
theorem dX3_atLevel_34 : decode cX3_atLevel 34 = .ok (.ireturn, 1) ∧ 34 + 1 = 35 := ⟨by decide +kernel, rfl⟩
theorem dX3_parentOf_0 : decode cX3_parentOf 0 = .ok (.aload_n 0, 1) ∧ 0 + 1 = 1 := ⟨by decide +kernel, rfl⟩
theorem dX3_parentOf_1 : decode cX3_parentOf 1 = .ok (.iload_n 1, 1) ∧ 1 + 1 = 2 := ⟨by decide +kernel, rfl⟩
theorem dX3_parentOf_2 : decode cX3_parentOf 2 = .ok (.aload_n 0, 1) ∧ 2 + 1 = 3 := ⟨by decide +kernel, rfl⟩
theorem dX3_parentOf_3 : decode cX3_parentOf 3 = .ok (.iload_n 1, 1) ∧ 3 + 1 = 4 := ⟨by decide +kernel, rfl⟩
theorem dX3_parentOf_4 : decode cX3_parentOf 4 = .ok (.invokevirtual 31, 3) ∧ 4 + 3 = 7 := ⟨by decide +kernel, rfl⟩
theorem dX3_parentOf_7 : decode cX3_parentOf 7 = .ok (.iconst 1, 1) ∧ 7 + 1 = 8 := ⟨by decide +kernel, rfl⟩
theorem dX3_parentOf_8 : decode cX3_parentOf 8 = .ok (.isub, 1) ∧ 8 + 1 = 9 := ⟨by decide +kernel, rfl⟩
theorem dX3_parentOf_9 : decode cX3_parentOf 9 = .ok (.invokevirtual 48, 3) ∧ 9 + 3 = 12 := ⟨by decide +kernel, rfl⟩
theorem dX3_parentOf_12 : decode cX3_parentOf 12 = .ok (.ireturn, 1) ∧ 12 + 1 = 13 := ⟨by decide +kernel, rfl⟩
theorem dX3_firstOf_0 : decode cX3_firstOf 0 = .ok (.iconst 0, 1) ∧ 0 + 1 = 1 := ⟨by decide +kernel, rfl⟩
theorem dX3_firstOf_1 : decode cX3_firstOf 1 = .ok (.istore_n 2, 1) ∧ 1 + 1 = 2 := ⟨by decide +kernel, rfl⟩
theorem dX3_firstOf_2 : decode cX3_firstOf 2 = .ok (.iload_n 2, 1) ∧ 2 + 1 = 3 := ⟨by decide +kernel, rfl⟩
theorem dX3_firstOf_3 : decode cX3_firstOf 3 = .ok (.aload_n 0, 1) ∧ 3 + 1 = 4 := ⟨by decide +kernel, rfl⟩
theorem dX3_firstOf_4 : decode cX3_firstOf 4 = .ok (.getfield 21, 3) ∧ 4 + 3 = 7 := ⟨by decide +kernel, rfl⟩
theorem dX3_firstOf_7 : decode cX3_firstOf 7 = .ok (.if_icmp .ge 21, 3) ∧ 7 + 3 = 10 ∧ ((7 : Nat) : Int) + (21) = ((28 : Nat) : Int) := ⟨by decide +kernel, rfl, rfl⟩
theorem dX3_firstOf_10 : decode cX3_firstOf 10 = .ok (.aload_n 0, 1) ∧ 10 + 1 = 11 := ⟨by decide +kernel, rfl⟩
theorem dX3_firstOf_11 : decode cX3_firstOf 11 = .ok (.getfield 9, 3) ∧ 11 + 3 = 14 := ⟨by decide +kernel, rfl⟩
theorem dX3_firstOf_14 : decode cX3_firstOf 14 = .ok (.iload_n 2, 1) ∧ 14 + 1 = 15 := ⟨by decide +kernel, rfl⟩
theorem dX3_firstOf_15 : decode cX3_firstOf 15 = .ok (.iaload, 1) ∧ 15 + 1 = 16 := ⟨by decide +kernel, rfl⟩
theorem dX3_firstOf_16 : decode cX3_firstOf 16 = .ok (.iload_n 1, 1) ∧ 16 + 1 = 17 := ⟨by decide +kernel, rfl⟩
theorem dX3_firstOf_17 : decode cX3_firstOf 17 = .ok (.if_icmp .ne 5, 3) ∧ 17 + 3 = 20 ∧ ((17 : Nat) : Int) + (5) = ((22 : Nat) : Int) := ⟨by decide +kernel, rfl, rfl⟩
theorem dX3_firstOf_20 : decode cX3_firstOf 20 = .ok (.iload_n 2, 1) ∧ 20 + 1 = 21 := ⟨by decide +kernel, rfl⟩
theorem dX3_firstOf_21 : decode cX3_firstOf 21 = .ok (.ireturn, 1) ∧ 21 + 1 = 22 := ⟨by decide +kernel, rfl⟩
theorem dX3_firstOf_22 : decode cX3_firstOf 22 = .ok (.iinc 2 1, 3) ∧ 22 + 3 = 25 := ⟨by decide +kernel, rfl⟩
theorem dX3_firstOf_25 : decode cX3_firstOf 25 = .ok (.goto (-23), 3) ∧ 25 + 3 = 28 ∧ ((25 : Nat) : Int) + (-23) = ((2 : Nat) : Int) := ⟨by decide +kernel, rfl, rfl⟩
theorem dX3_firstOf_28 : decode cX3_firstOf 28 = .ok (.bipush (-2), 2) ∧ 28 + 2 = 30 := ⟨by decide +kernel, rfl⟩
theorem dX3_firstOf_30 : decode cX3_firstOf 30 = .ok (.ireturn, 1) ∧ 30 + 1 = 31 := ⟨by decide +kernel, rfl⟩
theorem dX3_countOf_0 : decode cX3_countOf 0 = .ok (.iconst 0, 1) ∧ 0 + 1 = 1 := ⟨by decide +kernel, rfl⟩
theorem dX3_countOf_1 : decode cX3_countOf 1 = .ok (.istore_n 2, 1) ∧ 1 + 1 = 2 := ⟨by decide +kernel, rfl⟩
theorem dX3_countOf_2 : decode cX3_countOf 2 = .ok (.iconst 0, 1) ∧ 2 + 1 = 3 := ⟨by decide +kernel, rfl⟩
theorem dX3_countOf_3 : decode cX3_countOf 3 = .ok (.istore_n 3, 1) ∧ 3 + 1 = 4 := ⟨by decide +kernel, rfl⟩
theorem dX3_countOf_4 : decode cX3_countOf 4 = .ok (.iload_n 3, 1) ∧ 4 + 1 = 5 := ⟨by decide +kernel, rfl⟩
theorem dX3_countOf_5 : decode cX3_countOf 5 = .ok (.aload_n 0, 1) ∧ 5 + 1 = 6 := ⟨by decide +kernel, rfl⟩
theorem dX3_countOf_6 : decode cX3_countOf 6 = .ok (.getfield 21, 3) ∧ 6 + 3 = 9 := ⟨by decide +kernel, rfl⟩
theorem dX3_countOf_9 : decode cX3_countOf 9 = .ok (.if_icmp .ge 22, 3) ∧ 9 + 3 = 12 ∧ ((9 : Nat) : Int) + (22) = ((31 : Nat) : Int) := ⟨by decide +kernel, rfl, rfl⟩
theorem dX3_countOf_12 : decode cX3_countOf 12 = .ok (.aload_n 0, 1) ∧ 12 + 1 = 13 := ⟨by decide +kernel, rfl⟩
theorem dX3_countOf_13 : decode cX3_countOf 13 = .ok (.getfield 9, 3) ∧ 13 + 3 = 16 := ⟨by decide +kernel, rfl⟩
theorem dX3_countOf_16 : decode cX3_countOf 16 = .ok (.iload_n 3, 1) ∧ 16 + 1 = 17 := ⟨by decide +kernel, rfl⟩
theorem dX3_countOf_17 : decode cX3_countOf 17 = .ok (.iaload, 1) ∧ 17 + 1 = 18 := ⟨by decide +kernel, rfl⟩
theorem dX3_countOf_18 : decode cX3_countOf 18 = .ok (.iload_n 1, 1) ∧ 18 + 1 = 19 := ⟨by decide +kernel, rfl⟩
theorem dX3_countOf_19 : decode cX3_countOf 19 = .ok (.if_icmp .ne 6, 3) ∧ 19 + 3 = 22 ∧ ((19 : Nat) : Int) + (6) = ((25 : Nat) : Int) := ⟨by decide +kernel, rfl, rfl⟩
theorem dX3_countOf_22 : decode cX3_countOf 22 = .ok (.iinc 2 1, 3) ∧ 22 + 3 = 25 := ⟨by decide +kernel, rfl⟩
theorem dX3_countOf_25 : decode cX3_countOf 25 = .ok (.iinc 3 1, 3) ∧ 25 + 3 = 28 := ⟨by decide +kernel, rfl⟩
theorem dX3_countOf_28 : decode cX3_countOf 28 = .ok (.goto (-24), 3) ∧ 28 + 3 = 31 ∧ ((28 : Nat) : Int) + (-24) = ((4 : Nat) : Int) := ⟨by decide +kernel, rfl, rfl⟩
theorem dX3_countOf_31 : decode cX3_countOf 31 = .ok (.iload_n 2, 1) ∧ 31 + 1 = 32 := ⟨by decide +kernel, rfl⟩
theorem dX3_countOf_32 : decode cX3_countOf 32 = .ok (.ireturn, 1) ∧ 32 + 1 = 33 := ⟨by decide +kernel, rfl⟩
theorem dX3_nodeSet_0 : decode cX3_nodeSet 0 = .ok (.aload_n 0, 1) ∧ 0 + 1 = 1 := ⟨by decide +kernel, rfl⟩
theorem dX3_nodeSet_1 : decode cX3_nodeSet 1 = .ok (.iconst (-1), 1) ∧ 1 + 1 = 2 := ⟨by decide +kernel, rfl⟩
theorem dX3_nodeSet_2 : decode cX3_nodeSet 2 = .ok (.invokevirtual 51, 3) ∧ 2 + 3 = 5 := ⟨by decide +kernel, rfl⟩
theorem dX3_nodeSet_5 : decode cX3_nodeSet 5 = .ok (.lreturn, 1) ∧ 5 + 1 = 6 := ⟨by decide +kernel, rfl⟩
theorem dX3_nodesWithin_0 : decode cX3_nodesWithin 0 = .ok (.lconst 0, 1) ∧ 0 + 1 = 1 := ⟨by decide +kernel, rfl⟩
theorem dX3_nodesWithin_1 : decode cX3_nodesWithin 1 = .ok (.lstore_n 2, 1) ∧ 1 + 1 = 2 := ⟨by decide +kernel, rfl⟩
theorem dX3_nodesWithin_2 : decode cX3_nodesWithin 2 = .ok (.aload_n 0, 1) ∧ 2 + 1 = 3 := ⟨by decide +kernel, rfl⟩
theorem dX3_nodesWithin_3 : decode cX3_nodesWithin 3 = .ok (.iload_n 1, 1) ∧ 3 + 1 = 4 := ⟨by decide +kernel, rfl⟩
theorem dX3_nodesWithin_4 : decode cX3_nodesWithin 4 = .ok (.invokevirtual 55, 3) ∧ 4 + 3 = 7 := ⟨by decide +kernel, rfl⟩
theorem dX3_nodesWithin_7 : decode cX3_nodesWithin 7 = .ok (.istore 4, 2) ∧ 7 + 2 = 9 := ⟨by decide +kernel, rfl⟩
theorem dX3_nodesWithin_9 : decode cX3_nodesWithin 9 = .ok (.iload_n 1, 1) ∧ 9 + 1 = 10 := ⟨by decide +kernel, rfl⟩
theorem dX3_nodesWithin_10 : decode cX3_nodesWithin 10 = .ok (.iconst 1, 1) ∧ 10 + 1 = 11 := ⟨by decide +kernel, rfl⟩
theorem dX3_nodesWithin_11 : decode cX3_nodesWithin 11 = .ok (.iadd, 1) ∧ 11 + 1 = 12 := ⟨by decide +kernel, rfl⟩
theorem dX3_nodesWithin_12 : decode cX3_nodesWithin 12 = .ok (.iconst 0, 1) ∧ 12 + 1 = 13 := ⟨by decide +kernel, rfl⟩
theorem dX3_nodesWithin_13 : decode cX3_nodesWithin 13 = .ok (.invokestatic 39, 3) ∧ 13 + 3 = 16 := ⟨by decide +kernel, rfl⟩
theorem dX3_nodesWithin_16 : decode cX3_nodesWithin 16 = .ok (.istore 5, 2) ∧ 16 + 2 = 18 := ⟨by decide +kernel, rfl⟩
theorem dX3_nodesWithin_18 : decode cX3_nodesWithin 18 = .ok (.iload 5, 2) ∧ 18 + 2 = 20 := ⟨by decide +kernel, rfl⟩
theorem dX3_nodesWithin_20 : decode cX3_nodesWithin 20 = .ok (.iload 4, 2) ∧ 20 + 2 = 22 := ⟨by decide +kernel, rfl⟩
theorem dX3_nodesWithin_22 : decode cX3_nodesWithin 22 = .ok (.if_icmp .ge 21, 3) ∧ 22 + 3 = 25 ∧ ((22 : Nat) : Int) + (21) = ((43 : Nat) : Int) := ⟨by decide +kernel, rfl, rfl⟩
theorem dX3_nodesWithin_25 : decode cX3_nodesWithin 25 = .ok (.lload_n 2, 1) ∧ 25 + 1 = 26 := ⟨by decide +kernel, rfl⟩
theorem dX3_nodesWithin_26 : decode cX3_nodesWithin 26 = .ok (.lconst 1, 1) ∧ 26 + 1 = 27 := ⟨by decide +kernel, rfl⟩
theorem dX3_nodesWithin_27 : decode cX3_nodesWithin 27 = .ok (.aload_n 0, 1) ∧ 27 + 1 = 28 := ⟨by decide +kernel, rfl⟩
theorem dX3_nodesWithin_28 : decode cX3_nodesWithin 28 = .ok (.getfield 9, 3) ∧ 28 + 3 = 31 := ⟨by decide +kernel, rfl⟩
theorem dX3_nodesWithin_31 : decode cX3_nodesWithin 31 = .ok (.iload 5, 2) ∧ 31 + 2 = 33 := ⟨by decide +kernel, rfl⟩
theorem dX3_nodesWithin_33 : decode cX3_nodesWithin 33 = .ok (.iaload, 1) ∧ 33 + 1 = 34 := ⟨by decide +kernel, rfl⟩
theorem dX3_nodesWithin_34 : decode cX3_nodesWithin 34 = .ok (.lshl, 1) ∧ 34 + 1 = 35 := ⟨by decide +kernel, rfl⟩
theorem dX3_nodesWithin_35 : decode cX3_nodesWithin 35 = .ok (.lor, 1) ∧ 35 + 1 = 36 := ⟨by decide +kernel, rfl⟩
theorem dX3_nodesWithin_36 : decode cX3_nodesWithin 36 = .ok (.lstore_n 2, 1) ∧ 36 + 1 = 37 := ⟨by decide +kernel, rfl⟩
theorem dX3_nodesWithin_37 : decode cX3_nodesWithin 37 = .ok (.iinc 5 1, 3) ∧ 37 + 3 = 40 := ⟨by decide +kernel, rfl⟩
theorem dX3_nodesWithin_40 : decode cX3_nodesWithin 40 = .ok (.goto (-22), 3) ∧ 40 + 3 = 43 ∧ ((40 : Nat) : Int) + (-22) = ((18 : Nat) : Int) := ⟨by decide +kernel, rfl, rfl⟩
theorem dX3_nodesWithin_43 : decode cX3_nodesWithin 43 = .ok (.lload_n 2, 1) ∧ 43 + 1 = 44 := ⟨by decide +kernel, rfl⟩
theorem dX3_nodesWithin_44 : decode cX3_nodesWithin 44 = .ok (.lreturn, 1) ∧ 44 + 1 = 45 := ⟨by decide +kernel, rfl⟩
theorem dX3_foldedCount_0 : decode cX3_foldedCount 0 = .ok (.iconst 0, 1) ∧ 0 + 1 = 1 := ⟨by decide +kernel, rfl⟩
theorem dX3_foldedCount_1 : decode cX3_foldedCount 1 = .ok (.istore_n 1, 1) ∧ 1 + 1 = 2 := ⟨by decide +kernel, rfl⟩
theorem dX3_foldedCount_2 : decode cX3_foldedCount 2 = .ok (.iconst 0, 1) ∧ 2 + 1 = 3 := ⟨by decide +kernel, rfl⟩
theorem dX3_foldedCount_3 : decode cX3_foldedCount 3 = .ok (.istore_n 2, 1) ∧ 3 + 1 = 4 := ⟨by decide +kernel, rfl⟩
theorem dX3_foldedCount_4 : decode cX3_foldedCount 4 = .ok (.iload_n 2, 1) ∧ 4 + 1 = 5 := ⟨by decide +kernel, rfl⟩
theorem dX3_foldedCount_5 : decode cX3_foldedCount 5 = .ok (.aload_n 0, 1) ∧ 5 + 1 = 6 := ⟨by decide +kernel, rfl⟩
theorem dX3_foldedCount_6 : decode cX3_foldedCount 6 = .ok (.getfield 21, 3) ∧ 6 + 3 = 9 := ⟨by decide +kernel, rfl⟩
theorem dX3_foldedCount_9 : decode cX3_foldedCount 9 = .ok (.if_icmp .ge 18, 3) ∧ 9 + 3 = 12 ∧ ((9 : Nat) : Int) + (18) = ((27 : Nat) : Int) := ⟨by decide +kernel, rfl, rfl⟩
theorem dX3_foldedCount_12 : decode cX3_foldedCount 12 = .ok (.iload_n 1, 1) ∧ 12 + 1 = 13 := ⟨by decide +kernel, rfl⟩
theorem dX3_foldedCount_13 : decode cX3_foldedCount 13 = .ok (.aload_n 0, 1) ∧ 13 + 1 = 14 := ⟨by decide +kernel, rfl⟩
theorem dX3_foldedCount_14 : decode cX3_foldedCount 14 = .ok (.getfield 18, 3) ∧ 14 + 3 = 17 := ⟨by decide +kernel, rfl⟩
theorem dX3_foldedCount_17 : decode cX3_foldedCount 17 = .ok (.iload_n 2, 1) ∧ 17 + 1 = 18 := ⟨by decide +kernel, rfl⟩
theorem dX3_foldedCount_18 : decode cX3_foldedCount 18 = .ok (.iaload, 1) ∧ 18 + 1 = 19 := ⟨by decide +kernel, rfl⟩
theorem dX3_foldedCount_19 : decode cX3_foldedCount 19 = .ok (.iadd, 1) ∧ 19 + 1 = 20 := ⟨by decide +kernel, rfl⟩
theorem dX3_foldedCount_20 : decode cX3_foldedCount 20 = .ok (.istore_n 1, 1) ∧ 20 + 1 = 21 := ⟨by decide +kernel, rfl⟩
theorem dX3_foldedCount_21 : decode cX3_foldedCount 21 = .ok (.iinc 2 1, 3) ∧ 21 + 3 = 24 := ⟨by decide +kernel, rfl⟩
theorem dX3_foldedCount_24 : decode cX3_foldedCount 24 = .ok (.goto (-20), 3) ∧ 24 + 3 = 27 ∧ ((24 : Nat) : Int) + (-20) = ((4 : Nat) : Int) := ⟨by decide +kernel, rfl, rfl⟩
theorem dX3_foldedCount_27 : decode cX3_foldedCount 27 = .ok (.iload_n 1, 1) ∧ 27 + 1 = 28 := ⟨by decide +kernel, rfl⟩
theorem dX3_foldedCount_28 : decode cX3_foldedCount 28 = .ok (.ireturn, 1) ∧ 28 + 1 = 29 := ⟨by decide +kernel, rfl⟩
theorem dX3_greatestLevel_0 : decode cX3_greatestLevel 0 = .ok (.iconst 0, 1) ∧ 0 + 1 = 1 := ⟨by decide +kernel, rfl⟩
theorem dX3_greatestLevel_1 : decode cX3_greatestLevel 1 = .ok (.istore_n 1, 1) ∧ 1 + 1 = 2 := ⟨by decide +kernel, rfl⟩
theorem dX3_greatestLevel_2 : decode cX3_greatestLevel 2 = .ok (.iconst 0, 1) ∧ 2 + 1 = 3 := ⟨by decide +kernel, rfl⟩
theorem dX3_greatestLevel_3 : decode cX3_greatestLevel 3 = .ok (.istore_n 2, 1) ∧ 3 + 1 = 4 := ⟨by decide +kernel, rfl⟩
theorem dX3_greatestLevel_4 : decode cX3_greatestLevel 4 = .ok (.iload_n 2, 1) ∧ 4 + 1 = 5 := ⟨by decide +kernel, rfl⟩
theorem dX3_greatestLevel_5 : decode cX3_greatestLevel 5 = .ok (.aload_n 0, 1) ∧ 5 + 1 = 6 := ⟨by decide +kernel, rfl⟩
theorem dX3_greatestLevel_6 : decode cX3_greatestLevel 6 = .ok (.getfield 21, 3) ∧ 6 + 3 = 9 := ⟨by decide +kernel, rfl⟩
theorem dX3_greatestLevel_9 : decode cX3_greatestLevel 9 = .ok (.if_icmp .ge 20, 3) ∧ 9 + 3 = 12 ∧ ((9 : Nat) : Int) + (20) = ((29 : Nat) : Int) := ⟨by decide +kernel, rfl, rfl⟩
theorem dX3_greatestLevel_12 : decode cX3_greatestLevel 12 = .ok (.iload_n 1, 1) ∧ 12 + 1 = 13 := ⟨by decide +kernel, rfl⟩
theorem dX3_greatestLevel_13 : decode cX3_greatestLevel 13 = .ok (.aload_n 0, 1) ∧ 13 + 1 = 14 := ⟨by decide +kernel, rfl⟩
theorem dX3_greatestLevel_14 : decode cX3_greatestLevel 14 = .ok (.getfield 15, 3) ∧ 14 + 3 = 17 := ⟨by decide +kernel, rfl⟩
theorem dX3_greatestLevel_17 : decode cX3_greatestLevel 17 = .ok (.iload_n 2, 1) ∧ 17 + 1 = 18 := ⟨by decide +kernel, rfl⟩
theorem dX3_greatestLevel_18 : decode cX3_greatestLevel 18 = .ok (.iaload, 1) ∧ 18 + 1 = 19 := ⟨by decide +kernel, rfl⟩
theorem dX3_greatestLevel_19 : decode cX3_greatestLevel 19 = .ok (.invokestatic 39, 3) ∧ 19 + 3 = 22 := ⟨by decide +kernel, rfl⟩
theorem dX3_greatestLevel_22 : decode cX3_greatestLevel 22 = .ok (.istore_n 1, 1) ∧ 22 + 1 = 23 := ⟨by decide +kernel, rfl⟩
theorem dX3_greatestLevel_23 : decode cX3_greatestLevel 23 = .ok (.iinc 2 1, 3) ∧ 23 + 3 = 26 := ⟨by decide +kernel, rfl⟩
theorem dX3_greatestLevel_26 : decode cX3_greatestLevel 26 = .ok (.goto (-22), 3) ∧ 26 + 3 = 29 ∧ ((26 : Nat) : Int) + (-22) = ((4 : Nat) : Int) := ⟨by decide +kernel, rfl, rfl⟩
theorem dX3_greatestLevel_29 : decode cX3_greatestLevel 29 = .ok (.iload_n 1, 1) ∧ 29 + 1 = 30 := ⟨by decide +kernel, rfl⟩
theorem dX3_greatestLevel_30 : decode cX3_greatestLevel 30 = .ok (.ireturn, 1) ∧ 30 + 1 = 31 := ⟨by decide +kernel, rfl⟩
theorem dX3_foldAtLevel_0 : decode cX3_foldAtLevel 0 = .ok (.iconst 0, 1) ∧ 0 + 1 = 1 := ⟨by decide +kernel, rfl⟩
theorem dX3_foldAtLevel_1 : decode cX3_foldAtLevel 1 = .ok (.istore_n 2, 1) ∧ 1 + 1 = 2 := ⟨by decide +kernel, rfl⟩
theorem dX3_foldAtLevel_2 : decode cX3_foldAtLevel 2 = .ok (.iconst 0, 1) ∧ 2 + 1 = 3 := ⟨by decide +kernel, rfl⟩
theorem dX3_foldAtLevel_3 : decode cX3_foldAtLevel 3 = .ok (.istore_n 3, 1) ∧ 3 + 1 = 4 := ⟨by decide +kernel, rfl⟩
theorem dX3_foldAtLevel_4 : decode cX3_foldAtLevel 4 = .ok (.iload_n 3, 1) ∧ 4 + 1 = 5 := ⟨by decide +kernel, rfl⟩
theorem dX3_foldAtLevel_5 : decode cX3_foldAtLevel 5 = .ok (.aload_n 0, 1) ∧ 5 + 1 = 6 := ⟨by decide +kernel, rfl⟩
theorem dX3_foldAtLevel_6 : decode cX3_foldAtLevel 6 = .ok (.getfield 21, 3) ∧ 6 + 3 = 9 := ⟨by decide +kernel, rfl⟩
theorem dX3_foldAtLevel_9 : decode cX3_foldAtLevel 9 = .ok (.if_icmp .ge 98, 3) ∧ 9 + 3 = 12 ∧ ((9 : Nat) : Int) + (98) = ((107 : Nat) : Int) := ⟨by decide +kernel, rfl, rfl⟩
theorem dX3_foldAtLevel_12 : decode cX3_foldAtLevel 12 = .ok (.aload_n 0, 1) ∧ 12 + 1 = 13 := ⟨by decide +kernel, rfl⟩
theorem dX3_foldAtLevel_13 : decode cX3_foldAtLevel 13 = .ok (.getfield 15, 3) ∧ 13 + 3 = 16 := ⟨by decide +kernel, rfl⟩
theorem dX3_foldAtLevel_16 : decode cX3_foldAtLevel 16 = .ok (.iload_n 3, 1) ∧ 16 + 1 = 17 := ⟨by decide +kernel, rfl⟩
theorem dX3_foldAtLevel_17 : decode cX3_foldAtLevel 17 = .ok (.iaload, 1) ∧ 17 + 1 = 18 := ⟨by decide +kernel, rfl⟩
theorem dX3_foldAtLevel_18 : decode cX3_foldAtLevel 18 = .ok (.iload_n 1, 1) ∧ 18 + 1 = 19 := ⟨by decide +kernel, rfl⟩
theorem dX3_foldAtLevel_19 : decode cX3_foldAtLevel 19 = .ok (.if_icmp .ge 17, 3) ∧ 19 + 3 = 22 ∧ ((19 : Nat) : Int) + (17) = ((36 : Nat) : Int) := ⟨by decide +kernel, rfl, rfl⟩
theorem dX3_foldAtLevel_22 : decode cX3_foldAtLevel 22 = .ok (.aload_n 0, 1) ∧ 22 + 1 = 23 := ⟨by decide +kernel, rfl⟩
theorem dX3_foldAtLevel_23 : decode cX3_foldAtLevel 23 = .ok (.getfield 18, 3) ∧ 23 + 3 = 26 := ⟨by decide +kernel, rfl⟩
theorem dX3_foldAtLevel_26 : decode cX3_foldAtLevel 26 = .ok (.iload_n 3, 1) ∧ 26 + 1 = 27 := ⟨by decide +kernel, rfl⟩
theorem dX3_foldAtLevel_27 : decode cX3_foldAtLevel 27 = .ok (.iaload, 1) ∧ 27 + 1 = 28 := ⟨by decide +kernel, rfl⟩
theorem dX3_foldAtLevel_28 : decode cX3_foldAtLevel 28 = .ok (.iconst 1, 1) ∧ 28 + 1 = 29 := ⟨by decide +kernel, rfl⟩
theorem dX3_foldAtLevel_29 : decode cX3_foldAtLevel 29 = .ok (.if_icmp .ne 7, 3) ∧ 29 + 3 = 32 ∧ ((29 : Nat) : Int) + (7) = ((36 : Nat) : Int) := ⟨by decide +kernel, rfl, rfl⟩
theorem dX3_foldAtLevel_32 : decode cX3_foldAtLevel 32 = .ok (.iconst 1, 1) ∧ 32 + 1 = 33 := ⟨by decide +kernel, rfl⟩
theorem dX3_foldAtLevel_33 : decode cX3_foldAtLevel 33 = .ok (.goto 4, 3) ∧ 33 + 3 = 36 ∧ ((33 : Nat) : Int) + (4) = ((37 : Nat) : Int) := ⟨by decide +kernel, rfl, rfl⟩
theorem dX3_foldAtLevel_36 : decode cX3_foldAtLevel 36 = .ok (.iconst 0, 1) ∧ 36 + 1 = 37 := ⟨by decide +kernel, rfl⟩
theorem dX3_foldAtLevel_37 : decode cX3_foldAtLevel 37 = .ok (.istore 4, 2) ∧ 37 + 2 = 39 := ⟨by decide +kernel, rfl⟩
theorem dX3_foldAtLevel_39 : decode cX3_foldAtLevel 39 = .ok (.aload_n 0, 1) ∧ 39 + 1 = 40 := ⟨by decide +kernel, rfl⟩
theorem dX3_foldAtLevel_40 : decode cX3_foldAtLevel 40 = .ok (.getfield 15, 3) ∧ 40 + 3 = 43 := ⟨by decide +kernel, rfl⟩
theorem dX3_foldAtLevel_43 : decode cX3_foldAtLevel 43 = .ok (.iload_n 3, 1) ∧ 43 + 1 = 44 := ⟨by decide +kernel, rfl⟩
theorem dX3_foldAtLevel_44 : decode cX3_foldAtLevel 44 = .ok (.iaload, 1) ∧ 44 + 1 = 45 := ⟨by decide +kernel, rfl⟩
theorem dX3_foldAtLevel_45 : decode cX3_foldAtLevel 45 = .ok (.iload_n 1, 1) ∧ 45 + 1 = 46 := ⟨by decide +kernel, rfl⟩
theorem dX3_foldAtLevel_46 : decode cX3_foldAtLevel 46 = .ok (.if_icmp .ne 24, 3) ∧ 46 + 3 = 49 ∧ ((46 : Nat) : Int) + (24) = ((70 : Nat) : Int) := ⟨by decide +kernel, rfl, rfl⟩
theorem dX3_foldAtLevel_49 : decode cX3_foldAtLevel 49 = .ok (.aload_n 0, 1) ∧ 49 + 1 = 50 := ⟨by decide +kernel, rfl⟩
theorem dX3_foldAtLevel_50 : decode cX3_foldAtLevel 50 = .ok (.getfield 18, 3) ∧ 50 + 3 = 53 := ⟨by decide +kernel, rfl⟩
theorem dX3_foldAtLevel_53 : decode cX3_foldAtLevel 53 = .ok (.iload_n 3, 1) ∧ 53 + 1 = 54 := ⟨by decide +kernel, rfl⟩
theorem dX3_foldAtLevel_54 : decode cX3_foldAtLevel 54 = .ok (.iaload, 1) ∧ 54 + 1 = 55 := ⟨by decide +kernel, rfl⟩
theorem dX3_foldAtLevel_55 : decode cX3_foldAtLevel 55 = .ok (.ifCond .ne 15, 3) ∧ 55 + 3 = 58 ∧ ((55 : Nat) : Int) + (15) = ((70 : Nat) : Int) := ⟨by decide +kernel, rfl, rfl⟩
theorem dX3_foldAtLevel_58 : decode cX3_foldAtLevel 58 = .ok (.aload_n 0, 1) ∧ 58 + 1 = 59 := ⟨by decide +kernel, rfl⟩
theorem dX3_foldAtLevel_59 : decode cX3_foldAtLevel 59 = .ok (.iload_n 3, 1) ∧ 59 + 1 = 60 := ⟨by decide +kernel, rfl⟩
theorem dX3_foldAtLevel_60 : decode cX3_foldAtLevel 60 = .ok (.invokevirtual 58, 3) ∧ 60 + 3 = 63 := ⟨by decide +kernel, rfl⟩
theorem dX3_foldAtLevel_63 : decode cX3_foldAtLevel 63 = .ok (.ifCond .eq 7, 3) ∧ 63 + 3 = 66 ∧ ((63 : Nat) : Int) + (7) = ((70 : Nat) : Int) := ⟨by decide +kernel, rfl, rfl⟩
theorem dX3_foldAtLevel_66 : decode cX3_foldAtLevel 66 = .ok (.iconst 1, 1) ∧ 66 + 1 = 67 := ⟨by decide +kernel, rfl⟩
theorem dX3_foldAtLevel_67 : decode cX3_foldAtLevel 67 = .ok (.goto 4, 3) ∧ 67 + 3 = 70 ∧ ((67 : Nat) : Int) + (4) = ((71 : Nat) : Int) := ⟨by decide +kernel, rfl, rfl⟩
theorem dX3_foldAtLevel_70 : decode cX3_foldAtLevel 70 = .ok (.iconst 0, 1) ∧ 70 + 1 = 71 := ⟨by decide +kernel, rfl⟩
theorem dX3_foldAtLevel_71 : decode cX3_foldAtLevel 71 = .ok (.istore 5, 2) ∧ 71 + 2 = 73 := ⟨by decide +kernel, rfl⟩
theorem dX3_foldAtLevel_73 : decode cX3_foldAtLevel 73 = .ok (.iload 4, 2) ∧ 73 + 2 = 75 := ⟨by decide +kernel, rfl⟩
theorem dX3_foldAtLevel_75 : decode cX3_foldAtLevel 75 = .ok (.ifCond .ne 8, 3) ∧ 75 + 3 = 78 ∧ ((75 : Nat) : Int) + (8) = ((83 : Nat) : Int) := ⟨by decide +kernel, rfl, rfl⟩
theorem dX3_foldAtLevel_78 : decode cX3_foldAtLevel 78 = .ok (.iload 5, 2) ∧ 78 + 2 = 80 := ⟨by decide +kernel, rfl⟩
theorem dX3_foldAtLevel_80 : decode cX3_foldAtLevel 80 = .ok (.ifCond .eq 21, 3) ∧ 80 + 3 = 83 ∧ ((80 : Nat) : Int) + (21) = ((101 : Nat) : Int) := ⟨by decide +kernel, rfl, rfl⟩
theorem dX3_foldAtLevel_83 : decode cX3_foldAtLevel 83 = .ok (.aload_n 0, 1) ∧ 83 + 1 = 84 := ⟨by decide +kernel, rfl⟩
theorem dX3_foldAtLevel_84 : decode cX3_foldAtLevel 84 = .ok (.getfield 18, 3) ∧ 84 + 3 = 87 := ⟨by decide +kernel, rfl⟩
theorem dX3_foldAtLevel_87 : decode cX3_foldAtLevel 87 = .ok (.iload_n 3, 1) ∧ 87 + 1 = 88 := ⟨by decide +kernel, rfl⟩
theorem dX3_foldAtLevel_88 : decode cX3_foldAtLevel 88 = .ok (.iload 5, 2) ∧ 88 + 2 = 90 := ⟨by decide +kernel, rfl⟩
theorem dX3_foldAtLevel_90 : decode cX3_foldAtLevel 90 = .ok (.ifCond .eq 7, 3) ∧ 90 + 3 = 93 ∧ ((90 : Nat) : Int) + (7) = ((97 : Nat) : Int) := ⟨by decide +kernel, rfl, rfl⟩
theorem dX3_foldAtLevel_93 : decode cX3_foldAtLevel 93 = .ok (.iconst 1, 1) ∧ 93 + 1 = 94 := ⟨by decide +kernel, rfl⟩
theorem dX3_foldAtLevel_94 : decode cX3_foldAtLevel 94 = .ok (.goto 4, 3) ∧ 94 + 3 = 97 ∧ ((94 : Nat) : Int) + (4) = ((98 : Nat) : Int) := ⟨by decide +kernel, rfl, rfl⟩
theorem dX3_foldAtLevel_97 : decode cX3_foldAtLevel 97 = .ok (.iconst 0, 1) ∧ 97 + 1 = 98 := ⟨by decide +kernel, rfl⟩
theorem dX3_foldAtLevel_98 : decode cX3_foldAtLevel 98 = .ok (.iastore, 1) ∧ 98 + 1 = 99 := ⟨by decide +kernel, rfl⟩
theorem dX3_foldAtLevel_99 : decode cX3_foldAtLevel 99 = .ok (.iconst 1, 1) ∧ 99 + 1 = 100 := ⟨by decide +kernel, rfl⟩
theorem dX3_foldAtLevel_100 : decode cX3_foldAtLevel 100 = .ok (.istore_n 2, 1) ∧ 100 + 1 = 101 := ⟨by decide +kernel, rfl⟩
theorem dX3_foldAtLevel_101 : decode cX3_foldAtLevel 101 = .ok (.iinc 3 1, 3) ∧ 101 + 3 = 104 := ⟨by decide +kernel, rfl⟩
theorem dX3_foldAtLevel_104 : decode cX3_foldAtLevel 104 = .ok (.goto (-100), 3) ∧ 104 + 3 = 107 ∧ ((104 : Nat) : Int) + (-100) = ((4 : Nat) : Int) := ⟨by decide +kernel, rfl, rfl⟩
theorem dX3_foldAtLevel_107 : decode cX3_foldAtLevel 107 = .ok (.iload_n 2, 1) ∧ 107 + 1 = 108 := ⟨by decide +kernel, rfl⟩
theorem dX3_foldAtLevel_108 : decode cX3_foldAtLevel 108 = .ok (.ireturn, 1) ∧ 108 + 1 = 109 := ⟨by decide +kernel, rfl⟩
theorem dX3_unfoldAround_0 : decode cX3_unfoldAround 0 = .ok (.iconst 0, 1) ∧ 0 + 1 = 1 := ⟨by decide +kernel, rfl⟩
theorem dX3_unfoldAround_1 : decode cX3_unfoldAround 1 = .ok (.istore_n 2, 1) ∧ 1 + 1 = 2 := ⟨by decide +kernel, rfl⟩
theorem dX3_unfoldAround_2 : decode cX3_unfoldAround 2 = .ok (.aload_n 0, 1) ∧ 2 + 1 = 3 := ⟨by decide +kernel, rfl⟩
theorem dX3_unfoldAround_3 : decode cX3_unfoldAround 3 = .ok (.iload_n 1, 1) ∧ 3 + 1 = 4 := ⟨by decide +kernel, rfl⟩
theorem dX3_unfoldAround_4 : decode cX3_unfoldAround 4 = .ok (.invokevirtual 31, 3) ∧ 4 + 3 = 7 := ⟨by decide +kernel, rfl⟩
theorem dX3_unfoldAround_7 : decode cX3_unfoldAround 7 = .ok (.istore_n 3, 1) ∧ 7 + 1 = 8 := ⟨by decide +kernel, rfl⟩
theorem dX3_unfoldAround_8 : decode cX3_unfoldAround 8 = .ok (.iload_n 1, 1) ∧ 8 + 1 = 9 := ⟨by decide +kernel, rfl⟩
theorem dX3_unfoldAround_9 : decode cX3_unfoldAround 9 = .ok (.aload_n 0, 1) ∧ 9 + 1 = 10 := ⟨by decide +kernel, rfl⟩
theorem dX3_unfoldAround_10 : decode cX3_unfoldAround 10 = .ok (.getfield 21, 3) ∧ 10 + 3 = 13 := ⟨by decide +kernel, rfl⟩
theorem dX3_unfoldAround_13 : decode cX3_unfoldAround 13 = .ok (.invokestatic 45, 3) ∧ 13 + 3 = 16 := ⟨by decide +kernel, rfl⟩
theorem dX3_unfoldAround_16 : decode cX3_unfoldAround 16 = .ok (.iconst 1, 1) ∧ 16 + 1 = 17 := ⟨by decide +kernel, rfl⟩
theorem dX3_unfoldAround_17 : decode cX3_unfoldAround 17 = .ok (.isub, 1) ∧ 17 + 1 = 18 := ⟨by decide +kernel, rfl⟩
theorem dX3_unfoldAround_18 : decode cX3_unfoldAround 18 = .ok (.istore 4, 2) ∧ 18 + 2 = 20 := ⟨by decide +kernel, rfl⟩
theorem dX3_unfoldAround_20 : decode cX3_unfoldAround 20 = .ok (.iload 4, 2) ∧ 20 + 2 = 22 := ⟨by decide +kernel, rfl⟩
theorem dX3_unfoldAround_22 : decode cX3_unfoldAround 22 = .ok (.ifCond .lt 57, 3) ∧ 22 + 3 = 25 ∧ ((22 : Nat) : Int) + (57) = ((79 : Nat) : Int) := ⟨by decide +kernel, rfl, rfl⟩
theorem dX3_unfoldAround_25 : decode cX3_unfoldAround 25 = .ok (.aload_n 0, 1) ∧ 25 + 1 = 26 := ⟨by decide +kernel, rfl⟩
theorem dX3_unfoldAround_26 : decode cX3_unfoldAround 26 = .ok (.getfield 15, 3) ∧ 26 + 3 = 29 := ⟨by decide +kernel, rfl⟩
theorem dX3_unfoldAround_29 : decode cX3_unfoldAround 29 = .ok (.iload 4, 2) ∧ 29 + 2 = 31 := ⟨by decide +kernel, rfl⟩
theorem dX3_unfoldAround_31 : decode cX3_unfoldAround 31 = .ok (.iaload, 1) ∧ 31 + 1 = 32 := ⟨by decide +kernel, rfl⟩
theorem dX3_unfoldAround_32 : decode cX3_unfoldAround 32 = .ok (.iload_n 3, 1) ∧ 32 + 1 = 33 := ⟨by decide +kernel, rfl⟩
theorem dX3_unfoldAround_33 : decode cX3_unfoldAround 33 = .ok (.if_icmp .ge 40, 3) ∧ 33 + 3 = 36 ∧ ((33 : Nat) : Int) + (40) = ((73 : Nat) : Int) := ⟨by decide +kernel, rfl, rfl⟩
theorem dX3_unfoldAround_36 : decode cX3_unfoldAround 36 = .ok (.aload_n 0, 1) ∧ 36 + 1 = 37 := ⟨by decide +kernel, rfl⟩
theorem dX3_unfoldAround_37 : decode cX3_unfoldAround 37 = .ok (.getfield 15, 3) ∧ 37 + 3 = 40 := ⟨by decide +kernel, rfl⟩
theorem dX3_unfoldAround_40 : decode cX3_unfoldAround 40 = .ok (.iload 4, 2) ∧ 40 + 2 = 42 := ⟨by decide +kernel, rfl⟩
theorem dX3_unfoldAround_42 : decode cX3_unfoldAround 42 = .ok (.iaload, 1) ∧ 42 + 1 = 43 := ⟨by decide +kernel, rfl⟩
theorem dX3_unfoldAround_43 : decode cX3_unfoldAround 43 = .ok (.istore_n 3, 1) ∧ 43 + 1 = 44 := ⟨by decide +kernel, rfl⟩
theorem dX3_unfoldAround_44 : decode cX3_unfoldAround 44 = .ok (.iload_n 2, 1) ∧ 44 + 1 = 45 := ⟨by decide +kernel, rfl⟩
theorem dX3_unfoldAround_45 : decode cX3_unfoldAround 45 = .ok (.ifCond .ne 14, 3) ∧ 45 + 3 = 48 ∧ ((45 : Nat) : Int) + (14) = ((59 : Nat) : Int) := ⟨by decide +kernel, rfl, rfl⟩
theorem dX3_unfoldAround_48 : decode cX3_unfoldAround 48 = .ok (.aload_n 0, 1) ∧ 48 + 1 = 49 := ⟨by decide +kernel, rfl⟩
theorem dX3_unfoldAround_49 : decode cX3_unfoldAround 49 = .ok (.getfield 18, 3) ∧ 49 + 3 = 52 := ⟨by decide +kernel, rfl⟩
theorem dX3_unfoldAround_52 : decode cX3_unfoldAround 52 = .ok (.iload 4, 2) ∧ 52 + 2 = 54 := ⟨by decide +kernel, rfl⟩
theorem dX3_unfoldAround_54 : decode cX3_unfoldAround 54 = .ok (.iaload, 1) ∧ 54 + 1 = 55 := ⟨by decide +kernel, rfl⟩
theorem dX3_unfoldAround_55 : decode cX3_unfoldAround 55 = .ok (.iconst 1, 1) ∧ 55 + 1 = 56 := ⟨by decide +kernel, rfl⟩
theorem dX3_unfoldAround_56 : decode cX3_unfoldAround 56 = .ok (.if_icmp .ne 7, 3) ∧ 56 + 3 = 59 ∧ ((56 : Nat) : Int) + (7) = ((63 : Nat) : Int) := ⟨by decide +kernel, rfl, rfl⟩
theorem dX3_unfoldAround_59 : decode cX3_unfoldAround 59 = .ok (.iconst 1, 1) ∧ 59 + 1 = 60 := ⟨by decide +kernel, rfl⟩
theorem dX3_unfoldAround_60 : decode cX3_unfoldAround 60 = .ok (.goto 4, 3) ∧ 60 + 3 = 63 ∧ ((60 : Nat) : Int) + (4) = ((64 : Nat) : Int) := ⟨by decide +kernel, rfl, rfl⟩
theorem dX3_unfoldAround_63 : decode cX3_unfoldAround 63 = .ok (.iconst 0, 1) ∧ 63 + 1 = 64 := ⟨by decide +kernel, rfl⟩
theorem dX3_unfoldAround_64 : decode cX3_unfoldAround 64 = .ok (.istore_n 2, 1) ∧ 64 + 1 = 65 := ⟨by decide +kernel, rfl⟩
theorem dX3_unfoldAround_65 : decode cX3_unfoldAround 65 = .ok (.aload_n 0, 1) ∧ 65 + 1 = 66 := ⟨by decide +kernel, rfl⟩
theorem dX3_unfoldAround_66 : decode cX3_unfoldAround 66 = .ok (.getfield 18, 3) ∧ 66 + 3 = 69 := ⟨by decide +kernel, rfl⟩
theorem dX3_unfoldAround_69 : decode cX3_unfoldAround 69 = .ok (.iload 4, 2) ∧ 69 + 2 = 71 := ⟨by decide +kernel, rfl⟩
theorem dX3_unfoldAround_71 : decode cX3_unfoldAround 71 = .ok (.iconst 0, 1) ∧ 71 + 1 = 72 := ⟨by decide +kernel, rfl⟩
theorem dX3_unfoldAround_72 : decode cX3_unfoldAround 72 = .ok (.iastore, 1) ∧ 72 + 1 = 73 := ⟨by decide +kernel, rfl⟩
theorem dX3_unfoldAround_73 : decode cX3_unfoldAround 73 = .ok (.iinc 4 (-1), 3) ∧ 73 + 3 = 76 := ⟨by decide +kernel, rfl⟩
theorem dX3_unfoldAround_76 : decode cX3_unfoldAround 76 = .ok (.goto (-56), 3) ∧ 76 + 3 = 79 ∧ ((76 : Nat) : Int) + (-56) = ((20 : Nat) : Int) := ⟨by decide +kernel, rfl, rfl⟩
theorem dX3_unfoldAround_79 : decode cX3_unfoldAround 79 = .ok (.iload_n 2, 1) ∧ 79 + 1 = 80 := ⟨by decide +kernel, rfl⟩
theorem dX3_unfoldAround_80 : decode cX3_unfoldAround 80 = .ok (.ireturn, 1) ∧ 80 + 1 = 81 := ⟨by decide +kernel, rfl⟩
theorem dX4_init_0 : decode cX4_init 0 = .ok (.aload_n 0, 1) ∧ 0 + 1 = 1 := ⟨by decide +kernel, rfl⟩
theorem dX4_init_1 : decode cX4_init 1 = .ok (.invokespecial 3, 3) ∧ 1 + 3 = 4 := ⟨by decide +kernel, rfl⟩
theorem dX4_init_4 : decode cX4_init 4 = .ok (.aload_n 0, 1) ∧ 4 + 1 = 5 := ⟨by decide +kernel, rfl⟩
theorem dX4_init_5 : decode cX4_init 5 = .ok (.bipush 61, 2) ∧ 5 + 2 = 7 := ⟨by decide +kernel, rfl⟩
theorem dX4_init_7 : decode cX4_init 7 = .ok (.newarray .int, 2) ∧ 7 + 2 = 9 := ⟨by decide +kernel, rfl⟩
theorem dX4_init_9 : decode cX4_init 9 = .ok (.putfield 9, 3) ∧ 9 + 3 = 12 := ⟨by decide +kernel, rfl⟩
theorem dX4_init_12 : decode cX4_init 12 = .ok (.aload_n 0, 1) ∧ 12 + 1 = 13 := ⟨by decide +kernel, rfl⟩
theorem dX4_init_13 : decode cX4_init 13 = .ok (.bipush 26, 2) ∧ 13 + 2 = 15 := ⟨by decide +kernel, rfl⟩
theorem dX4_init_15 : decode cX4_init 15 = .ok (.newarray .int, 2) ∧ 15 + 2 = 17 := ⟨by decide +kernel, rfl⟩
theorem dX4_init_17 : decode cX4_init 17 = .ok (.putfield 15, 3) ∧ 17 + 3 = 20 := ⟨by decide +kernel, rfl⟩
theorem dX4_init_20 : decode cX4_init 20 = .ok (.return_, 1) ∧ 20 + 1 = 21 := ⟨by decide +kernel, rfl⟩
theorem dX4_read_0 : decode cX4_read 0 = .ok (.aload_n 0, 1) ∧ 0 + 1 = 1 := ⟨by decide +kernel, rfl⟩
theorem dX4_read_1 : decode cX4_read 1 = .ok (.invokevirtual 18, 3) ∧ 1 + 3 = 4 := ⟨by decide +kernel, rfl⟩
theorem dX4_read_4 : decode cX4_read 4 = .ok (.iconst 0, 1) ∧ 4 + 1 = 5 := ⟨by decide +kernel, rfl⟩
theorem dX4_read_5 : decode cX4_read 5 = .ok (.istore_n 3, 1) ∧ 5 + 1 = 6 := ⟨by decide +kernel, rfl⟩
theorem dX4_read_6 : decode cX4_read 6 = .ok (.iload_n 3, 1) ∧ 6 + 1 = 7 := ⟨by decide +kernel, rfl⟩
theorem dX4_read_7 : decode cX4_read 7 = .ok (.aload_n 1, 1) ∧ 7 + 1 = 8 := ⟨by decide +kernel, rfl⟩
theorem dX4_read_8 : decode cX4_read 8 = .ok (.getfield 21, 3) ∧ 8 + 3 = 11 := ⟨by decide +kernel, rfl⟩
theorem dX4_read_11 : decode cX4_read 11 = .ok (.if_icmp .ge 48, 3) ∧ 11 + 3 = 14 ∧ ((11 : Nat) : Int) + (48) = ((59 : Nat) : Int) := ⟨by decide +kernel, rfl, rfl⟩
theorem dX4_read_14 : decode cX4_read 14 = .ok (.aload_n 1, 1) ∧ 14 + 1 = 15 := ⟨by decide +kernel, rfl⟩
theorem dX4_read_15 : decode cX4_read 15 = .ok (.iload_n 3, 1) ∧ 15 + 1 = 16 := ⟨by decide +kernel, rfl⟩
theorem dX4_read_16 : decode cX4_read 16 = .ok (.invokevirtual 27, 3) ∧ 16 + 3 = 19 := ⟨by decide +kernel, rfl⟩
theorem dX4_read_19 : decode cX4_read 19 = .ok (.istore 4, 2) ∧ 19 + 2 = 21 := ⟨by decide +kernel, rfl⟩
theorem dX4_read_21 : decode cX4_read 21 = .ok (.aload_n 0, 1) ∧ 21 + 1 = 22 := ⟨by decide +kernel, rfl⟩
theorem dX4_read_22 : decode cX4_read 22 = .ok (.getfield 31, 3) ∧ 22 + 3 = 25 := ⟨by decide +kernel, rfl⟩
theorem dX4_read_25 : decode cX4_read 25 = .ok (.ifCond .eq 13, 3) ∧ 25 + 3 = 28 ∧ ((25 : Nat) : Int) + (13) = ((38 : Nat) : Int) := ⟨by decide +kernel, rfl, rfl⟩
theorem dX4_read_28 : decode cX4_read 28 = .ok (.aload_n 0, 1) ∧ 28 + 1 = 29 := ⟨by decide +kernel, rfl⟩
theorem dX4_read_29 : decode cX4_read 29 = .ok (.iload 4, 2) ∧ 29 + 2 = 31 := ⟨by decide +kernel, rfl⟩
theorem dX4_read_31 : decode cX4_read 31 = .ok (.aload_n 2, 1) ∧ 31 + 1 = 32 := ⟨by decide +kernel, rfl⟩
theorem dX4_read_32 : decode cX4_read 32 = .ok (.invokevirtual 35, 3) ∧ 32 + 3 = 35 := ⟨by decide +kernel, rfl⟩
theorem dX4_read_35 : decode cX4_read 35 = .ok (.goto 9, 3) ∧ 35 + 3 = 38 ∧ ((35 : Nat) : Int) + (9) = ((44 : Nat) : Int) := ⟨by decide +kernel, rfl, rfl⟩
theorem dX4_read_38 : decode cX4_read 38 = .ok (.aload_n 0, 1) ∧ 38 + 1 = 39 := ⟨by decide +kernel, rfl⟩
theorem dX4_read_39 : decode cX4_read 39 = .ok (.iload 4, 2) ∧ 39 + 2 = 41 := ⟨by decide +kernel, rfl⟩
theorem dX4_read_41 : decode cX4_read 41 = .ok (.invokevirtual 39, 3) ∧ 41 + 3 = 44 := ⟨by decide +kernel, rfl⟩
theorem dX4_read_44 : decode cX4_read 44 = .ok (.istore 5, 2) ∧ 44 + 2 = 46 := ⟨by decide +kernel, rfl⟩
theorem dX4_read_46 : decode cX4_read 46 = .ok (.iload 5, 2) ∧ 46 + 2 = 48 := ⟨by decide +kernel, rfl⟩
theorem dX4_read_48 : decode cX4_read 48 = .ok (.ifCond .ne 5, 3) ∧ 48 + 3 = 51 ∧ ((48 : Nat) : Int) + (5) = ((53 : Nat) : Int) := ⟨by decide +kernel, rfl, rfl⟩
theorem dX4_read_51 : decode cX4_read 51 = .ok (.iload_n 3, 1) ∧ 51 + 1 = 52 := ⟨by decide +kernel, rfl⟩
theorem dX4_read_52 : decode cX4_read 52 = .ok (.ireturn, 1) ∧ 52 + 1 = 53 := ⟨by decide +kernel, rfl⟩
theorem dX4_read_53 : decode cX4_read 53 = .ok (.iinc 3 1, 3) ∧ 53 + 3 = 56 := ⟨by decide +kernel, rfl⟩
theorem dX4_read_56 : decode cX4_read 56 = .ok (.goto (-50), 3) ∧ 56 + 3 = 59 ∧ ((56 : Nat) : Int) + (-50) = ((6 : Nat) : Int) := ⟨by decide +kernel, rfl, rfl⟩
theorem dX4_read_59 : decode cX4_read 59 = .ok (.aload_n 0, 1) ∧ 59 + 1 = 60 := ⟨by decide +kernel, rfl⟩
theorem dX4_read_60 : decode cX4_read 60 = .ok (.getfield 31, 3) ∧ 60 + 3 = 63 := ⟨by decide +kernel, rfl⟩
theorem dX4_read_63 : decode cX4_read 63 = .ok (.ifCond .ne 10, 3) ∧ 63 + 3 = 66 ∧ ((63 : Nat) : Int) + (10) = ((73 : Nat) : Int) := ⟨by decide +kernel, rfl, rfl⟩
theorem dX4_read_66 : decode cX4_read 66 = .ok (.aload_n 0, 1) ∧ 66 + 1 = 67 := ⟨by decide +kernel, rfl⟩
theorem dX4_read_67 : decode cX4_read 67 = .ok (.getfield 43, 3) ∧ 67 + 3 = 70 := ⟨by decide +kernel, rfl⟩
theorem dX4_read_70 : decode cX4_read 70 = .ok (.ifCond .le 10, 3) ∧ 70 + 3 = 73 ∧ ((70 : Nat) : Int) + (10) = ((80 : Nat) : Int) := ⟨by decide +kernel, rfl, rfl⟩
theorem dX4_read_73 : decode cX4_read 73 = .ok (.aload_n 1, 1) ∧ 73 + 1 = 74 := ⟨by decide +kernel, rfl⟩
theorem dX4_read_74 : decode cX4_read 74 = .ok (.getfield 21, 3) ∧ 74 + 3 = 77 := ⟨by decide +kernel, rfl⟩
theorem dX4_read_77 : decode cX4_read 77 = .ok (.goto 4, 3) ∧ 77 + 3 = 80 ∧ ((77 : Nat) : Int) + (4) = ((81 : Nat) : Int) := ⟨by decide +kernel, rfl, rfl⟩
theorem dX4_read_80 : decode cX4_read 80 = .ok (.iconst (-1), 1) ∧ 80 + 1 = 81 := ⟨by decide +kernel, rfl⟩
theorem dX4_read_81 : decode cX4_read 81 = .ok (.ireturn, 1) ∧ 81 + 1 = 82 := ⟨by decide +kernel, rfl⟩
theorem dX4_begin_0 : decode cX4_begin 0 = .ok (.aload_n 0, 1) ∧ 0 + 1 = 1 := ⟨by decide +kernel, rfl⟩
theorem dX4_begin_1 : decode cX4_begin 1 = .ok (.iconst 0, 1) ∧ 1 + 1 = 2 := ⟨by decide +kernel, rfl⟩
theorem dX4_begin_2 : decode cX4_begin 2 = .ok (.putfield 43, 3) ∧ 2 + 3 = 5 := ⟨by decide +kernel, rfl⟩
theorem dX4_begin_5 : decode cX4_begin 5 = .ok (.aload_n 0, 1) ∧ 5 + 1 = 6 := ⟨by decide +kernel, rfl⟩
theorem dX4_begin_6 : decode cX4_begin 6 = .ok (.getfield 9, 3) ∧ 6 + 3 = 9 := ⟨by decide +kernel, rfl⟩
theorem dX4_begin_9 : decode cX4_begin 9 = .ok (.iconst 0, 1) ∧ 9 + 1 = 10 := ⟨by decide +kernel, rfl⟩
theorem dX4_begin_10 : decode cX4_begin 10 = .ok (.iconst 0, 1) ∧ 10 + 1 = 11 := ⟨by decide +kernel, rfl⟩
theorem dX4_begin_11 : decode cX4_begin 11 = .ok (.iastore, 1) ∧ 11 + 1 = 12 := ⟨by decide +kernel, rfl⟩
theorem dX4_begin_12 : decode cX4_begin 12 = .ok (.aload_n 0, 1) ∧ 12 + 1 = 13 := ⟨by decide +kernel, rfl⟩
theorem dX4_begin_13 : decode cX4_begin 13 = .ok (.iconst 1, 1) ∧ 13 + 1 = 14 := ⟨by decide +kernel, rfl⟩
theorem dX4_begin_14 : decode cX4_begin 14 = .ok (.putfield 31, 3) ∧ 14 + 3 = 17 := ⟨by decide +kernel, rfl⟩
theorem dX4_begin_17 : decode cX4_begin 17 = .ok (.aload_n 0, 1) ∧ 17 + 1 = 18 := ⟨by decide +kernel, rfl⟩
theorem dX4_begin_18 : decode cX4_begin 18 = .ok (.iconst (-1), 1) ∧ 18 + 1 = 19 := ⟨by decide +kernel, rfl⟩
theorem dX4_begin_19 : decode cX4_begin 19 = .ok (.putfield 46, 3) ∧ 19 + 3 = 22 := ⟨by decide +kernel, rfl⟩
theorem dX4_begin_22 : decode cX4_begin 22 = .ok (.iconst 0, 1) ∧ 22 + 1 = 23 := ⟨by decide +kernel, rfl⟩
theorem dX4_begin_23 : decode cX4_begin 23 = .ok (.istore_n 1, 1) ∧ 23 + 1 = 24 := ⟨by decide +kernel, rfl⟩
theorem dX4_begin_24 : decode cX4_begin 24 = .ok (.iload_n 1, 1) ∧ 24 + 1 = 25 := ⟨by decide +kernel, rfl⟩
theorem dX4_begin_25 : decode cX4_begin 25 = .ok (.bipush 26, 2) ∧ 25 + 2 = 27 := ⟨by decide +kernel, rfl⟩
theorem dX4_begin_27 : decode cX4_begin 27 = .ok (.if_icmp .ge 16, 3) ∧ 27 + 3 = 30 ∧ ((27 : Nat) : Int) + (16) = ((43 : Nat) : Int) := ⟨by decide +kernel, rfl, rfl⟩
theorem dX4_begin_30 : decode cX4_begin 30 = .ok (.aload_n 0, 1) ∧ 30 + 1 = 31 := ⟨by decide +kernel, rfl⟩
theorem dX4_begin_31 : decode cX4_begin 31 = .ok (.getfield 15, 3) ∧ 31 + 3 = 34 := ⟨by decide +kernel, rfl⟩
theorem dX4_begin_34 : decode cX4_begin 34 = .ok (.iload_n 1, 1) ∧ 34 + 1 = 35 := ⟨by decide +kernel, rfl⟩
theorem dX4_begin_35 : decode cX4_begin 35 = .ok (.iconst (-1), 1) ∧ 35 + 1 = 36 := ⟨by decide +kernel, rfl⟩
theorem dX4_begin_36 : decode cX4_begin 36 = .ok (.iastore, 1) ∧ 36 + 1 = 37 := ⟨by decide +kernel, rfl⟩
theorem dX4_begin_37 : decode cX4_begin 37 = .ok (.iinc 1 1, 3) ∧ 37 + 3 = 40 := ⟨by decide +kernel, rfl⟩
theorem dX4_begin_40 : decode cX4_begin 40 = .ok (.goto (-16), 3) ∧ 40 + 3 = 43 ∧ ((40 : Nat) : Int) + (-16) = ((24 : Nat) : Int) := ⟨by decide +kernel, rfl, rfl⟩
theorem dX4_begin_43 : decode cX4_begin 43 = .ok (.return_, 1) ∧ 43 + 1 = 44 := ⟨by decide +kernel, rfl⟩
theorem dX4_takeLetter_0 : decode cX4_takeLetter 0 = .ok (.iload_n 1, 1) ∧ 0 + 1 = 1 := ⟨by decide +kernel, rfl⟩
theorem dX4_takeLetter_1 : decode cX4_takeLetter 1 = .ok (.bipush 97, 2) ∧ 1 + 2 = 3 := ⟨by decide +kernel, rfl⟩
theorem dX4_takeLetter_3 : decode cX4_takeLetter 3 = .ok (.isub, 1) ∧ 3 + 1 = 4 := ⟨by decide +kernel, rfl⟩
theorem dX4_takeLetter_4 : decode cX4_takeLetter 4 = .ok (.istore_n 3, 1) ∧ 4 + 1 = 5 := ⟨by decide +kernel, rfl⟩
theorem dX4_takeLetter_5 : decode cX4_takeLetter 5 = .ok (.iload_n 3, 1) ∧ 5 + 1 = 6 := ⟨by decide +kernel, rfl⟩
theorem dX4_takeLetter_6 : decode cX4_takeLetter 6 = .ok (.ifCond .lt 25, 3) ∧ 6 + 3 = 9 ∧ ((6 : Nat) : Int) + (25) = ((31 : Nat) : Int) := ⟨by decide +kernel, rfl, rfl⟩
theorem dX4_takeLetter_9 : decode cX4_takeLetter 9 = .ok (.iload_n 3, 1) ∧ 9 + 1 = 10 := ⟨by decide +kernel, rfl⟩
theorem dX4_takeLetter_10 : decode cX4_takeLetter 10 = .ok (.bipush 26, 2) ∧ 10 + 2 = 12 := ⟨by decide +kernel, rfl⟩
theorem dX4_takeLetter_12 : decode cX4_takeLetter 12 = .ok (.if_icmp .ge 19, 3) ∧ 12 + 3 = 15 ∧ ((12 : Nat) : Int) + (19) = ((31 : Nat) : Int) := ⟨by decide +kernel, rfl, rfl⟩
theorem dX4_takeLetter_15 : decode cX4_takeLetter 15 = .ok (.aload_n 0, 1) ∧ 15 + 1 = 16 := ⟨by decide +kernel, rfl⟩
theorem dX4_takeLetter_16 : decode cX4_takeLetter 16 = .ok (.getfield 43, 3) ∧ 16 + 3 = 19 := ⟨by decide +kernel, rfl⟩
theorem dX4_takeLetter_19 : decode cX4_takeLetter 19 = .ok (.ifCond .lt 12, 3) ∧ 19 + 3 = 22 ∧ ((19 : Nat) : Int) + (12) = ((31 : Nat) : Int) := ⟨by decide +kernel, rfl, rfl⟩
theorem dX4_takeLetter_22 : decode cX4_takeLetter 22 = .ok (.aload_n 0, 1) ∧ 22 + 1 = 23 := ⟨by decide +kernel, rfl⟩
theorem dX4_takeLetter_23 : decode cX4_takeLetter 23 = .ok (.getfield 43, 3) ∧ 23 + 3 = 26 := ⟨by decide +kernel, rfl⟩
theorem dX4_takeLetter_26 : decode cX4_takeLetter 26 = .ok (.bipush 60, 2) ∧ 26 + 2 = 28 := ⟨by decide +kernel, rfl⟩
theorem dX4_takeLetter_28 : decode cX4_takeLetter 28 = .ok (.if_icmp .le 5, 3) ∧ 28 + 3 = 31 ∧ ((28 : Nat) : Int) + (5) = ((33 : Nat) : Int) := ⟨by decide +kernel, rfl, rfl⟩
theorem dX4_takeLetter_31 : decode cX4_takeLetter 31 = .ok (.iconst 0, 1) ∧ 31 + 1 = 32 := ⟨by decide +kernel, rfl⟩
theorem dX4_takeLetter_32 : decode cX4_takeLetter 32 = .ok (.ireturn, 1) ∧ 32 + 1 = 33 := ⟨by decide +kernel, rfl⟩
theorem dX4_takeLetter_33 : decode cX4_takeLetter 33 = .ok (.aload_n 0, 1) ∧ 33 + 1 = 34 := ⟨by decide +kernel, rfl⟩
theorem dX4_takeLetter_34 : decode cX4_takeLetter 34 = .ok (.getfield 9, 3) ∧ 34 + 3 = 37 := ⟨by decide +kernel, rfl⟩
theorem dX4_takeLetter_37 : decode cX4_takeLetter 37 = .ok (.aload_n 0, 1) ∧ 37 + 1 = 38 := ⟨by decide +kernel, rfl⟩
theorem dX4_takeLetter_38 : decode cX4_takeLetter 38 = .ok (.getfield 43, 3) ∧ 38 + 3 = 41 := ⟨by decide +kernel, rfl⟩
theorem dX4_takeLetter_41 : decode cX4_takeLetter 41 = .ok (.iaload, 1) ∧ 41 + 1 = 42 := ⟨by decide +kernel, rfl⟩
theorem dX4_takeLetter_42 : decode cX4_takeLetter 42 = .ok (.istore 4, 2) ∧ 42 + 2 = 44 := ⟨by decide +kernel, rfl⟩
theorem dX4_takeLetter_44 : decode cX4_takeLetter 44 = .ok (.aload_n 0, 1) ∧ 44 + 1 = 45 := ⟨by decide +kernel, rfl⟩
theorem dX4_takeLetter_45 : decode cX4_takeLetter 45 = .ok (.getfield 15, 3) ∧ 45 + 3 = 48 := ⟨by decide +kernel, rfl⟩
theorem dX4_takeLetter_48 : decode cX4_takeLetter 48 = .ok (.iload_n 3, 1) ∧ 48 + 1 = 49 := ⟨by decide +kernel, rfl⟩
theorem dX4_takeLetter_49 : decode cX4_takeLetter 49 = .ok (.iaload, 1) ∧ 49 + 1 = 50 := ⟨by decide +kernel, rfl⟩
theorem dX4_takeLetter_50 : decode cX4_takeLetter 50 = .ok (.istore 5, 2) ∧ 50 + 2 = 52 := ⟨by decide +kernel, rfl⟩
theorem dX4_takeLetter_52 : decode cX4_takeLetter 52 = .ok (.aload_n 0, 1) ∧ 52 + 1 = 53 := ⟨by decide +kernel, rfl⟩
theorem dX4_takeLetter_53 : decode cX4_takeLetter 53 = .ok (.iconst (-1), 1) ∧ 53 + 1 = 54 := ⟨by decide +kernel, rfl⟩
theorem dX4_takeLetter_54 : decode cX4_takeLetter 54 = .ok (.putfield 46, 3) ∧ 54 + 3 = 57 := ⟨by decide +kernel, rfl⟩
theorem dX4_takeLetter_57 : decode cX4_takeLetter 57 = .ok (.iload 5, 2) ∧ 57 + 2 = 59 := ⟨by decide +kernel, rfl⟩
theorem dX4_takeLetter_59 : decode cX4_takeLetter 59 = .ok (.iconst (-1), 1) ∧ 59 + 1 = 60 := ⟨by decide +kernel, rfl⟩
theorem dX4_takeLetter_60 : decode cX4_takeLetter 60 = .ok (.if_icmp .ne 39, 3) ∧ 60 + 3 = 63 ∧ ((60 : Nat) : Int) + (39) = ((99 : Nat) : Int) := ⟨by decide +kernel, rfl, rfl⟩
theorem dX4_takeLetter_63 : decode cX4_takeLetter 63 = .ok (.aload_n 2, 1) ∧ 63 + 1 = 64 := ⟨by decide +kernel, rfl⟩
theorem dX4_takeLetter_64 : decode cX4_takeLetter 64 = .ok (.getfield 49, 3) ∧ 64 + 3 = 67 := ⟨by decide +kernel, rfl⟩
theorem dX4_takeLetter_67 : decode cX4_takeLetter 67 = .ok (.invokevirtual 55, 3) ∧ 67 + 3 = 70 := ⟨by decide +kernel, rfl⟩
theorem dX4_takeLetter_70 : decode cX4_takeLetter 70 = .ok (.istore 5, 2) ∧ 70 + 2 = 72 := ⟨by decide +kernel, rfl⟩
theorem dX4_takeLetter_72 : decode cX4_takeLetter 72 = .ok (.aload_n 2, 1) ∧ 72 + 1 = 73 := ⟨by decide +kernel, rfl⟩
theorem dX4_takeLetter_73 : decode cX4_takeLetter 73 = .ok (.getfield 49, 3) ∧ 73 + 3 = 76 := ⟨by decide +kernel, rfl⟩
theorem dX4_takeLetter_76 : decode cX4_takeLetter 76 = .ok (.iload 5, 2) ∧ 76 + 2 = 78 := ⟨by decide +kernel, rfl⟩
theorem dX4_takeLetter_78 : decode cX4_takeLetter 78 = .ok (.iload_n 1, 1) ∧ 78 + 1 = 79 := ⟨by decide +kernel, rfl⟩
theorem dX4_takeLetter_79 : decode cX4_takeLetter 79 = .ok (.invokevirtual 61, 3) ∧ 79 + 3 = 82 := ⟨by decide +kernel, rfl⟩
theorem dX4_takeLetter_82 : decode cX4_takeLetter 82 = .ok (.aload_n 0, 1) ∧ 82 + 1 = 83 := ⟨by decide +kernel, rfl⟩
theorem dX4_takeLetter_83 : decode cX4_takeLetter 83 = .ok (.getfield 15, 3) ∧ 83 + 3 = 86 := ⟨by decide +kernel, rfl⟩
theorem dX4_takeLetter_86 : decode cX4_takeLetter 86 = .ok (.iload_n 3, 1) ∧ 86 + 1 = 87 := ⟨by decide +kernel, rfl⟩
theorem dX4_takeLetter_87 : decode cX4_takeLetter 87 = .ok (.iload 5, 2) ∧ 87 + 2 = 89 := ⟨by decide +kernel, rfl⟩
theorem dX4_takeLetter_89 : decode cX4_takeLetter 89 = .ok (.iastore, 1) ∧ 89 + 1 = 90 := ⟨by decide +kernel, rfl⟩
theorem dX4_takeLetter_90 : decode cX4_takeLetter 90 = .ok (.aload_n 0, 1) ∧ 90 + 1 = 91 := ⟨by decide +kernel, rfl⟩
theorem dX4_takeLetter_91 : decode cX4_takeLetter 91 = .ok (.iload 5, 2) ∧ 91 + 2 = 93 := ⟨by decide +kernel, rfl⟩
theorem dX4_takeLetter_93 : decode cX4_takeLetter 93 = .ok (.putfield 46, 3) ∧ 93 + 3 = 96 := ⟨by decide +kernel, rfl⟩
theorem dX4_takeLetter_96 : decode cX4_takeLetter 96 = .ok (.goto 29, 3) ∧ 96 + 3 = 99 ∧ ((96 : Nat) : Int) + (29) = ((125 : Nat) : Int) := ⟨by decide +kernel, rfl, rfl⟩
theorem dX4_takeLetter_99 : decode cX4_takeLetter 99 = .ok (.aload_n 0, 1) ∧ 99 + 1 = 100 := ⟨by decide +kernel, rfl⟩
theorem dX4_takeLetter_100 : decode cX4_takeLetter 100 = .ok (.iload 5, 2) ∧ 100 + 2 = 102 := ⟨by decide +kernel, rfl⟩
theorem dX4_takeLetter_102 : decode cX4_takeLetter 102 = .ok (.invokevirtual 65, 3) ∧ 102 + 3 = 105 := ⟨by decide +kernel, rfl⟩
theorem dX4_takeLetter_105 : decode cX4_takeLetter 105 = .ok (.ifCond .ne 18, 3) ∧ 105 + 3 = 108 ∧ ((105 : Nat) : Int) + (18) = ((123 : Nat) : Int) := ⟨by decide +kernel, rfl, rfl⟩
theorem dX4_takeLetter_108 : decode cX4_takeLetter 108 = .ok (.aload_n 2, 1) ∧ 108 + 1 = 109 := ⟨by decide +kernel, rfl⟩
theorem dX4_takeLetter_109 : decode cX4_takeLetter 109 = .ok (.getfield 68, 3) ∧ 109 + 3 = 112 := ⟨by decide +kernel, rfl⟩
theorem dX4_takeLetter_112 : decode cX4_takeLetter 112 = .ok (.iload 4, 2) ∧ 112 + 2 = 114 := ⟨by decide +kernel, rfl⟩
theorem dX4_takeLetter_114 : decode cX4_takeLetter 114 = .ok (.iload 5, 2) ∧ 114 + 2 = 116 := ⟨by decide +kernel, rfl⟩
theorem dX4_takeLetter_116 : decode cX4_takeLetter 116 = .ok (.invokevirtual 72, 3) ∧ 116 + 3 = 119 := ⟨by decide +kernel, rfl⟩
theorem dX4_takeLetter_119 : decode cX4_takeLetter 119 = .ok (.iconst (-1), 1) ∧ 119 + 1 = 120 := ⟨by decide +kernel, rfl⟩
theorem dX4_takeLetter_120 : decode cX4_takeLetter 120 = .ok (.if_icmp .eq 5, 3) ∧ 120 + 3 = 123 ∧ ((120 : Nat) : Int) + (5) = ((125 : Nat) : Int) := ⟨by decide +kernel, rfl, rfl⟩
theorem dX4_takeLetter_123 : decode cX4_takeLetter 123 = .ok (.iconst 0, 1) ∧ 123 + 1 = 124 := ⟨by decide +kernel, rfl⟩
theorem dX4_takeLetter_124 : decode cX4_takeLetter 124 = .ok (.ireturn, 1) ∧ 124 + 1 = 125 := ⟨by decide +kernel, rfl⟩
theorem dX4_takeLetter_125 : decode cX4_takeLetter 125 = .ok (.aload_n 0, 1) ∧ 125 + 1 = 126 := ⟨by decide +kernel, rfl⟩
theorem dX4_takeLetter_126 : decode cX4_takeLetter 126 = .ok (.iconst 0, 1) ∧ 126 + 1 = 127 := ⟨by decide +kernel, rfl⟩
theorem dX4_takeLetter_127 : decode cX4_takeLetter 127 = .ok (.putfield 31, 3) ∧ 127 + 3 = 130 := ⟨by decide +kernel, rfl⟩
theorem dX4_takeLetter_130 : decode cX4_takeLetter 130 = .ok (.aload_n 2, 1) ∧ 130 + 1 = 131 := ⟨by decide +kernel, rfl⟩
theorem dX4_takeLetter_131 : decode cX4_takeLetter 131 = .ok (.getfield 68, 3) ∧ 131 + 3 = 134 := ⟨by decide +kernel, rfl⟩
theorem dX4_takeLetter_134 : decode cX4_takeLetter 134 = .ok (.iload 4, 2) ∧ 134 + 2 = 136 := ⟨by decide +kernel, rfl⟩
theorem dX4_takeLetter_136 : decode cX4_takeLetter 136 = .ok (.iload 5, 2) ∧ 136 + 2 = 138 := ⟨by decide +kernel, rfl⟩
theorem dX4_takeLetter_138 : decode cX4_takeLetter 138 = .ok (.invokevirtual 78, 3) ∧ 138 + 3 = 141 := ⟨by decide +kernel, rfl⟩
theorem dX4_takeLetter_141 : decode cX4_takeLetter 141 = .ok (.ireturn, 1) ∧ 141 + 1 = 142 := ⟨by decide +kernel, rfl⟩
theorem dX4_isOpen_0 : decode cX4_isOpen 0 = .ok (.iconst 1, 1) ∧ 0 + 1 = 1 := ⟨by decide +kernel, rfl⟩
theorem dX4_isOpen_1 : decode cX4_isOpen 1 = .ok (.istore_n 2, 1) ∧ 1 + 1 = 2 := ⟨by decide +kernel, rfl⟩
theorem dX4_isOpen_2 : decode cX4_isOpen 2 = .ok (.iload_n 2, 1) ∧ 2 + 1 = 3 := ⟨by decide +kernel, rfl⟩
theorem dX4_isOpen_3 : decode cX4_isOpen 3 = .ok (.aload_n 0, 1) ∧ 3 + 1 = 4 := ⟨by decide +kernel, rfl⟩
theorem dX4_isOpen_4 : decode cX4_isOpen 4 = .ok (.getfield 43, 3) ∧ 4 + 3 = 7 := ⟨by decide +kernel, rfl⟩
theorem dX4_isOpen_7 : decode cX4_isOpen 7 = .ok (.if_icmp .gt 27, 3) ∧ 7 + 3 = 10 ∧ ((7 : Nat) : Int) + (27) = ((34 : Nat) : Int) := ⟨by decide +kernel, rfl, rfl⟩
theorem dX4_isOpen_10 : decode cX4_isOpen 10 = .ok (.iload_n 2, 1) ∧ 10 + 1 = 11 := ⟨by decide +kernel, rfl⟩
theorem dX4_isOpen_11 : decode cX4_isOpen 11 = .ok (.bipush 60, 2) ∧ 11 + 2 = 13 := ⟨by decide +kernel, rfl⟩
theorem dX4_isOpen_13 : decode cX4_isOpen 13 = .ok (.if_icmp .gt 21, 3) ∧ 13 + 3 = 16 ∧ ((13 : Nat) : Int) + (21) = ((34 : Nat) : Int) := ⟨by decide +kernel, rfl, rfl⟩
theorem dX4_isOpen_16 : decode cX4_isOpen 16 = .ok (.aload_n 0, 1) ∧ 16 + 1 = 17 := ⟨by decide +kernel, rfl⟩
theorem dX4_isOpen_17 : decode cX4_isOpen 17 = .ok (.getfield 9, 3) ∧ 17 + 3 = 20 := ⟨by decide +kernel, rfl⟩
theorem dX4_isOpen_20 : decode cX4_isOpen 20 = .ok (.iload_n 2, 1) ∧ 20 + 1 = 21 := ⟨by decide +kernel, rfl⟩
theorem dX4_isOpen_21 : decode cX4_isOpen 21 = .ok (.iaload, 1) ∧ 21 + 1 = 22 := ⟨by decide +kernel, rfl⟩
theorem dX4_isOpen_22 : decode cX4_isOpen 22 = .ok (.iload_n 1, 1) ∧ 22 + 1 = 23 := ⟨by decide +kernel, rfl⟩
theorem dX4_isOpen_23 : decode cX4_isOpen 23 = .ok (.if_icmp .ne 5, 3) ∧ 23 + 3 = 26 ∧ ((23 : Nat) : Int) + (5) = ((28 : Nat) : Int) := ⟨by decide +kernel, rfl, rfl⟩
theorem dX4_isOpen_26 : decode cX4_isOpen 26 = .ok (.iconst 1, 1) ∧ 26 + 1 = 27 := ⟨by decide +kernel, rfl⟩
theorem dX4_isOpen_27 : decode cX4_isOpen 27 = .ok (.ireturn, 1) ∧ 27 + 1 = 28 := ⟨by decide +kernel, rfl⟩
theorem dX4_isOpen_28 : decode cX4_isOpen 28 = .ok (.iinc 2 1, 3) ∧ 28 + 3 = 31 := ⟨by decide +kernel, rfl⟩
theorem dX4_isOpen_31 : decode cX4_isOpen 31 = .ok (.goto (-29), 3) ∧ 31 + 3 = 34 ∧ ((31 : Nat) : Int) + (-29) = ((2 : Nat) : Int) := ⟨by decide +kernel, rfl, rfl⟩
theorem dX4_isOpen_34 : decode cX4_isOpen 34 = .ok (.iconst 0, 1) ∧ 34 + 1 = 35 := ⟨by decide +kernel, rfl⟩
theorem dX4_isOpen_35 : decode cX4_isOpen 35 = .ok (.ireturn, 1) ∧ 35 + 1 = 36 := ⟨by decide +kernel, rfl⟩
theorem dX4_takeSign_0 : decode cX4_takeSign 0 = .ok (.iload_n 1, 1) ∧ 0 + 1 = 1 := ⟨by decide +kernel, rfl⟩
theorem dX4_takeSign_1 : decode cX4_takeSign 1 = .ok (.bipush 44, 2) ∧ 1 + 2 = 3 := ⟨by decide +kernel, rfl⟩
theorem dX4_takeSign_3 : decode cX4_takeSign 3 = .ok (.if_icmp .ne 10, 3) ∧ 3 + 3 = 6 ∧ ((3 : Nat) : Int) + (10) = ((13 : Nat) : Int) := ⟨by decide +kernel, rfl, rfl⟩
theorem dX4_takeSign_6 : decode cX4_takeSign 6 = .ok (.aload_n 0, 1) ∧ 6 + 1 = 7 := ⟨by decide +kernel, rfl⟩
theorem dX4_takeSign_7 : decode cX4_takeSign 7 = .ok (.iconst 1, 1) ∧ 7 + 1 = 8 := ⟨by decide +kernel, rfl⟩
theorem dX4_takeSign_8 : decode cX4_takeSign 8 = .ok (.putfield 31, 3) ∧ 8 + 3 = 11 := ⟨by decide +kernel, rfl⟩
theorem dX4_takeSign_11 : decode cX4_takeSign 11 = .ok (.iconst 1, 1) ∧ 11 + 1 = 12 := ⟨by decide +kernel, rfl⟩
theorem dX4_takeSign_12 : decode cX4_takeSign 12 = .ok (.ireturn, 1) ∧ 12 + 1 = 13 := ⟨by decide +kernel, rfl⟩
theorem dX4_takeSign_13 : decode cX4_takeSign 13 = .ok (.iload_n 1, 1) ∧ 13 + 1 = 14 := ⟨by decide +kernel, rfl⟩
theorem dX4_takeSign_14 : decode cX4_takeSign 14 = .ok (.bipush 40, 2) ∧ 14 + 2 = 16 := ⟨by decide +kernel, rfl⟩
theorem dX4_takeSign_16 : decode cX4_takeSign 16 = .ok (.if_icmp .ne 50, 3) ∧ 16 + 3 = 19 ∧ ((16 : Nat) : Int) + (50) = ((66 : Nat) : Int) := ⟨by decide +kernel, rfl, rfl⟩
theorem dX4_takeSign_19 : decode cX4_takeSign 19 = .ok (.aload_n 0, 1) ∧ 19 + 1 = 20 := ⟨by decide +kernel, rfl⟩
theorem dX4_takeSign_20 : decode cX4_takeSign 20 = .ok (.getfield 46, 3) ∧ 20 + 3 = 23 := ⟨by decide +kernel, rfl⟩
theorem dX4_takeSign_23 : decode cX4_takeSign 23 = .ok (.iconst (-1), 1) ∧ 23 + 1 = 24 := ⟨by decide +kernel, rfl⟩
theorem dX4_takeSign_24 : decode cX4_takeSign 24 = .ok (.if_icmp .eq 42, 3) ∧ 24 + 3 = 27 ∧ ((24 : Nat) : Int) + (42) = ((66 : Nat) : Int) := ⟨by decide +kernel, rfl, rfl⟩
theorem dX4_takeSign_27 : decode cX4_takeSign 27 = .ok (.aload_n 0, 1) ∧ 27 + 1 = 28 := ⟨by decide +kernel, rfl⟩
theorem dX4_takeSign_28 : decode cX4_takeSign 28 = .ok (.getfield 43, 3) ∧ 28 + 3 = 31 := ⟨by decide +kernel, rfl⟩
theorem dX4_takeSign_31 : decode cX4_takeSign 31 = .ok (.bipush 60, 2) ∧ 31 + 2 = 33 := ⟨by decide +kernel, rfl⟩
theorem dX4_takeSign_33 : decode cX4_takeSign 33 = .ok (.if_icmp .ge 33, 3) ∧ 33 + 3 = 36 ∧ ((33 : Nat) : Int) + (33) = ((66 : Nat) : Int) := ⟨by decide +kernel, rfl, rfl⟩
theorem dX4_takeSign_36 : decode cX4_takeSign 36 = .ok (.aload_n 0, 1) ∧ 36 + 1 = 37 := ⟨by decide +kernel, rfl⟩
theorem dX4_takeSign_37 : decode cX4_takeSign 37 = .ok (.dup, 1) ∧ 37 + 1 = 38 := ⟨by decide +kernel, rfl⟩
theorem dX4_takeSign_38 : decode cX4_takeSign 38 = .ok (.getfield 43, 3) ∧ 38 + 3 = 41 := ⟨by decide +kernel, rfl⟩
theorem dX4_takeSign_41 : decode cX4_takeSign 41 = .ok (.iconst 1, 1) ∧ 41 + 1 = 42 := ⟨by decide +kernel, rfl⟩
theorem dX4_takeSign_42 : decode cX4_takeSign 42 = .ok (.iadd, 1) ∧ 42 + 1 = 43 := ⟨by decide +kernel, rfl⟩
theorem dX4_takeSign_43 : decode cX4_takeSign 43 = .ok (.putfield 43, 3) ∧ 43 + 3 = 46 := ⟨by decide +kernel, rfl⟩
theorem dX4_takeSign_46 : decode cX4_takeSign 46 = .ok (.aload_n 0, 1) ∧ 46 + 1 = 47 := ⟨by decide +kernel, rfl⟩
theorem dX4_takeSign_47 : decode cX4_takeSign 47 = .ok (.getfield 9, 3) ∧ 47 + 3 = 50 := ⟨by decide +kernel, rfl⟩
theorem dX4_takeSign_50 : decode cX4_takeSign 50 = .ok (.aload_n 0, 1) ∧ 50 + 1 = 51 := ⟨by decide +kernel, rfl⟩
theorem dX4_takeSign_51 : decode cX4_takeSign 51 = .ok (.getfield 43, 3) ∧ 51 + 3 = 54 := ⟨by decide +kernel, rfl⟩
theorem dX4_takeSign_54 : decode cX4_takeSign 54 = .ok (.aload_n 0, 1) ∧ 54 + 1 = 55 := ⟨by decide +kernel, rfl⟩
theorem dX4_takeSign_55 : decode cX4_takeSign 55 = .ok (.getfield 46, 3) ∧ 55 + 3 = 58 := ⟨by decide +kernel, rfl⟩
theorem dX4_takeSign_58 : decode cX4_takeSign 58 = .ok (.iastore, 1) ∧ 58 + 1 = 59 := ⟨by decide +kernel, rfl⟩
theorem dX4_takeSign_59 : decode cX4_takeSign 59 = .ok (.aload_n 0, 1) ∧ 59 + 1 = 60 := ⟨by decide +kernel, rfl⟩
theorem dX4_takeSign_60 : decode cX4_takeSign 60 = .ok (.iconst 1, 1) ∧ 60 + 1 = 61 := ⟨by decide +kernel, rfl⟩
theorem dX4_takeSign_61 : decode cX4_takeSign 61 = .ok (.putfield 31, 3) ∧ 61 + 3 = 64 := ⟨by decide +kernel, rfl⟩
theorem dX4_takeSign_64 : decode cX4_takeSign 64 = .ok (.iconst 1, 1) ∧ 64 + 1 = 65 := ⟨by decide +kernel, rfl⟩
theorem dX4_takeSign_65 : decode cX4_takeSign 65 = .ok (.ireturn, 1) ∧ 65 + 1 = 66 := ⟨by decide +kernel, rfl⟩
theorem dX4_takeSign_66 : decode cX4_takeSign 66 = .ok (.iload_n 1, 1) ∧ 66 + 1 = 67 := ⟨by decide +kernel, rfl⟩
theorem dX4_takeSign_67 : decode cX4_takeSign 67 = .ok (.bipush 41, 2) ∧ 67 + 2 = 69 := ⟨by decide +kernel, rfl⟩
theorem dX4_takeSign_69 : decode cX4_takeSign 69 = .ok (.if_icmp .ne 27, 3) ∧ 69 + 3 = 72 ∧ ((69 : Nat) : Int) + (27) = ((96 : Nat) : Int) := ⟨by decide +kernel, rfl, rfl⟩
theorem dX4_takeSign_72 : decode cX4_takeSign 72 = .ok (.aload_n 0, 1) ∧ 72 + 1 = 73 := ⟨by decide +kernel, rfl⟩
theorem dX4_takeSign_73 : decode cX4_takeSign 73 = .ok (.getfield 43, 3) ∧ 73 + 3 = 76 := ⟨by decide +kernel, rfl⟩
theorem dX4_takeSign_76 : decode cX4_takeSign 76 = .ok (.ifCond .le 20, 3) ∧ 76 + 3 = 79 ∧ ((76 : Nat) : Int) + (20) = ((96 : Nat) : Int) := ⟨by decide +kernel, rfl, rfl⟩
theorem dX4_takeSign_79 : decode cX4_takeSign 79 = .ok (.aload_n 0, 1) ∧ 79 + 1 = 80 := ⟨by decide +kernel, rfl⟩
theorem dX4_takeSign_80 : decode cX4_takeSign 80 = .ok (.dup, 1) ∧ 80 + 1 = 81 := ⟨by decide +kernel, rfl⟩
theorem dX4_takeSign_81 : decode cX4_takeSign 81 = .ok (.getfield 43, 3) ∧ 81 + 3 = 84 := ⟨by decide +kernel, rfl⟩
theorem dX4_takeSign_84 : decode cX4_takeSign 84 = .ok (.iconst 1, 1) ∧ 84 + 1 = 85 := ⟨by decide +kernel, rfl⟩
theorem dX4_takeSign_85 : decode cX4_takeSign 85 = .ok (.isub, 1) ∧ 85 + 1 = 86 := ⟨by decide +kernel, rfl⟩
theorem dX4_takeSign_86 : decode cX4_takeSign 86 = .ok (.putfield 43, 3) ∧ 86 + 3 = 89 := ⟨by decide +kernel, rfl⟩
theorem dX4_takeSign_89 : decode cX4_takeSign 89 = .ok (.aload_n 0, 1) ∧ 89 + 1 = 90 := ⟨by decide +kernel, rfl⟩
theorem dX4_takeSign_90 : decode cX4_takeSign 90 = .ok (.iconst (-1), 1) ∧ 90 + 1 = 91 := ⟨by decide +kernel, rfl⟩
theorem dX4_takeSign_91 : decode cX4_takeSign 91 = .ok (.putfield 46, 3) ∧ 91 + 3 = 94 := ⟨by decide +kernel, rfl⟩
theorem dX4_takeSign_94 : decode cX4_takeSign 94 = .ok (.iconst 1, 1) ∧ 94 + 1 = 95 := ⟨by decide +kernel, rfl⟩
theorem dX4_takeSign_95 : decode cX4_takeSign 95 = .ok (.ireturn, 1) ∧ 95 + 1 = 96 := ⟨by decide +kernel, rfl⟩
theorem dX4_takeSign_96 : decode cX4_takeSign 96 = .ok (.iconst 0, 1) ∧ 96 + 1 = 97 := ⟨by decide +kernel, rfl⟩
theorem dX4_takeSign_97 : decode cX4_takeSign 97 = .ok (.ireturn, 1) ∧ 97 + 1 = 98 := ⟨by decide +kernel, rfl⟩
theorem dX5_init_0 : decode cX5_init 0 = .ok (.aload_n 0, 1) ∧ 0 + 1 = 1 := ⟨by decide +kernel, rfl⟩
theorem dX5_init_1 : decode cX5_init 1 = .ok (.invokespecial 3, 3) ∧ 1 + 3 = 4 := ⟨by decide +kernel, rfl⟩
theorem dX5_init_4 : decode cX5_init 4 = .ok (.aload_n 0, 1) ∧ 4 + 1 = 5 := ⟨by decide +kernel, rfl⟩
theorem dX5_init_5 : decode cX5_init 5 = .ok (.bipush 120, 2) ∧ 5 + 2 = 7 := ⟨by decide +kernel, rfl⟩
theorem dX5_init_7 : decode cX5_init 7 = .ok (.newarray .int, 2) ∧ 7 + 2 = 9 := ⟨by decide +kernel, rfl⟩
theorem dX5_init_9 : decode cX5_init 9 = .ok (.putfield 9, 3) ∧ 9 + 3 = 12 := ⟨by decide +kernel, rfl⟩
theorem dX5_init_12 : decode cX5_init 12 = .ok (.aload_n 0, 1) ∧ 12 + 1 = 13 := ⟨by decide +kernel, rfl⟩
theorem dX5_init_13 : decode cX5_init 13 = .ok (.bipush 120, 2) ∧ 13 + 2 = 15 := ⟨by decide +kernel, rfl⟩
theorem dX5_init_15 : decode cX5_init 15 = .ok (.newarray .int, 2) ∧ 15 + 2 = 17 := ⟨by decide +kernel, rfl⟩
theorem dX5_init_17 : decode cX5_init 17 = .ok (.putfield 15, 3) ∧ 17 + 3 = 20 := ⟨by decide +kernel, rfl⟩
theorem dX5_init_20 : decode cX5_init 20 = .ok (.return_, 1) ∧ 20 + 1 = 21 := ⟨by decide +kernel, rfl⟩
theorem dX5_refresh_0 : decode cX5_refresh 0 = .ok (.aload_n 0, 1) ∧ 0 + 1 = 1 := ⟨by decide +kernel, rfl⟩
theorem dX5_refresh_1 : decode cX5_refresh 1 = .ok (.iconst 0, 1) ∧ 1 + 1 = 2 := ⟨by decide +kernel, rfl⟩
theorem dX5_refresh_2 : decode cX5_refresh 2 = .ok (.putfield 18, 3) ∧ 2 + 3 = 5 := ⟨by decide +kernel, rfl⟩
theorem dX5_refresh_5 : decode cX5_refresh 5 = .ok (.bipush 40, 2) ∧ 5 + 2 = 7 := ⟨by decide +kernel, rfl⟩
theorem dX5_refresh_7 : decode cX5_refresh 7 = .ok (.istore_n 2, 1) ∧ 7 + 1 = 8 := ⟨by decide +kernel, rfl⟩
theorem dX5_refresh_8 : decode cX5_refresh 8 = .ok (.iconst 0, 1) ∧ 8 + 1 = 9 := ⟨by decide +kernel, rfl⟩
theorem dX5_refresh_9 : decode cX5_refresh 9 = .ok (.istore_n 3, 1) ∧ 9 + 1 = 10 := ⟨by decide +kernel, rfl⟩
theorem dX5_refresh_10 : decode cX5_refresh 10 = .ok (.iload_n 3, 1) ∧ 10 + 1 = 11 := ⟨by decide +kernel, rfl⟩
theorem dX5_refresh_11 : decode cX5_refresh 11 = .ok (.aload_n 1, 1) ∧ 11 + 1 = 12 := ⟨by decide +kernel, rfl⟩
theorem dX5_refresh_12 : decode cX5_refresh 12 = .ok (.getfield 22, 3) ∧ 12 + 3 = 15 := ⟨by decide +kernel, rfl⟩
theorem dX5_refresh_15 : decode cX5_refresh 15 = .ok (.if_icmp .ge 91, 3) ∧ 15 + 3 = 18 ∧ ((15 : Nat) : Int) + (91) = ((106 : Nat) : Int) := ⟨by decide +kernel, rfl, rfl⟩
theorem dX5_refresh_18 : decode cX5_refresh 18 = .ok (.aload_n 1, 1) ∧ 18 + 1 = 19 := ⟨by decide +kernel, rfl⟩
theorem dX5_refresh_19 : decode cX5_refresh 19 = .ok (.getfield 25, 3) ∧ 19 + 3 = 22 := ⟨by decide +kernel, rfl⟩
theorem dX5_refresh_22 : decode cX5_refresh 22 = .ok (.iload_n 3, 1) ∧ 22 + 1 = 23 := ⟨by decide +kernel, rfl⟩
theorem dX5_refresh_23 : decode cX5_refresh 23 = .ok (.iaload, 1) ∧ 23 + 1 = 24 := ⟨by decide +kernel, rfl⟩
theorem dX5_refresh_24 : decode cX5_refresh 24 = .ok (.istore 4, 2) ∧ 24 + 2 = 26 := ⟨by decide +kernel, rfl⟩
theorem dX5_refresh_26 : decode cX5_refresh 26 = .ok (.iload 4, 2) ∧ 26 + 2 = 28 := ⟨by decide +kernel, rfl⟩
theorem dX5_refresh_28 : decode cX5_refresh 28 = .ok (.iload_n 2, 1) ∧ 28 + 1 = 29 := ⟨by decide +kernel, rfl⟩
theorem dX5_refresh_29 : decode cX5_refresh 29 = .ok (.if_icmp .gt 12, 3) ∧ 29 + 3 = 32 ∧ ((29 : Nat) : Int) + (12) = ((41 : Nat) : Int) := ⟨by decide +kernel, rfl, rfl⟩
theorem dX5_refresh_32 : decode cX5_refresh 32 = .ok (.aload_n 0, 1) ∧ 32 + 1 = 33 := ⟨by decide +kernel, rfl⟩
theorem dX5_refresh_33 : decode cX5_refresh 33 = .ok (.getfield 18, 3) ∧ 33 + 3 = 36 := ⟨by decide +kernel, rfl⟩
theorem dX5_refresh_36 : decode cX5_refresh 36 = .ok (.bipush 120, 2) ∧ 36 + 2 = 38 := ⟨by decide +kernel, rfl⟩
theorem dX5_refresh_38 : decode cX5_refresh 38 = .ok (.if_icmp .lt 14, 3) ∧ 38 + 3 = 41 ∧ ((38 : Nat) : Int) + (14) = ((52 : Nat) : Int) := ⟨by decide +kernel, rfl, rfl⟩
theorem dX5_refresh_41 : decode cX5_refresh 41 = .ok (.aload_n 0, 1) ∧ 41 + 1 = 42 := ⟨by decide +kernel, rfl⟩
theorem dX5_refresh_42 : decode cX5_refresh 42 = .ok (.getfield 15, 3) ∧ 42 + 3 = 45 := ⟨by decide +kernel, rfl⟩
theorem dX5_refresh_45 : decode cX5_refresh 45 = .ok (.iload_n 3, 1) ∧ 45 + 1 = 46 := ⟨by decide +kernel, rfl⟩
theorem dX5_refresh_46 : decode cX5_refresh 46 = .ok (.bipush (-6), 2) ∧ 46 + 2 = 48 := ⟨by decide +kernel, rfl⟩
theorem dX5_refresh_48 : decode cX5_refresh 48 = .ok (.iastore, 1) ∧ 48 + 1 = 49 := ⟨by decide +kernel, rfl⟩
theorem dX5_refresh_49 : decode cX5_refresh 49 = .ok (.goto 51, 3) ∧ 49 + 3 = 52 ∧ ((49 : Nat) : Int) + (51) = ((100 : Nat) : Int) := ⟨by decide +kernel, rfl, rfl⟩
theorem dX5_refresh_52 : decode cX5_refresh 52 = .ok (.aload_n 0, 1) ∧ 52 + 1 = 53 := ⟨by decide +kernel, rfl⟩
theorem dX5_refresh_53 : decode cX5_refresh 53 = .ok (.getfield 15, 3) ∧ 53 + 3 = 56 := ⟨by decide +kernel, rfl⟩
theorem dX5_refresh_56 : decode cX5_refresh 56 = .ok (.iload_n 3, 1) ∧ 56 + 1 = 57 := ⟨by decide +kernel, rfl⟩
theorem dX5_refresh_57 : decode cX5_refresh 57 = .ok (.aload_n 0, 1) ∧ 57 + 1 = 58 := ⟨by decide +kernel, rfl⟩
theorem dX5_refresh_58 : decode cX5_refresh 58 = .ok (.getfield 18, 3) ∧ 58 + 3 = 61 := ⟨by decide +kernel, rfl⟩
theorem dX5_refresh_61 : decode cX5_refresh 61 = .ok (.iastore, 1) ∧ 61 + 1 = 62 := ⟨by decide +kernel, rfl⟩
theorem dX5_refresh_62 : decode cX5_refresh 62 = .ok (.aload_n 0, 1) ∧ 62 + 1 = 63 := ⟨by decide +kernel, rfl⟩
theorem dX5_refresh_63 : decode cX5_refresh 63 = .ok (.getfield 9, 3) ∧ 63 + 3 = 66 := ⟨by decide +kernel, rfl⟩
theorem dX5_refresh_66 : decode cX5_refresh 66 = .ok (.aload_n 0, 1) ∧ 66 + 1 = 67 := ⟨by decide +kernel, rfl⟩
theorem dX5_refresh_67 : decode cX5_refresh 67 = .ok (.getfield 18, 3) ∧ 67 + 3 = 70 := ⟨by decide +kernel, rfl⟩
theorem dX5_refresh_70 : decode cX5_refresh 70 = .ok (.iload_n 3, 1) ∧ 70 + 1 = 71 := ⟨by decide +kernel, rfl⟩
theorem dX5_refresh_71 : decode cX5_refresh 71 = .ok (.iastore, 1) ∧ 71 + 1 = 72 := ⟨by decide +kernel, rfl⟩
theorem dX5_refresh_72 : decode cX5_refresh 72 = .ok (.aload_n 0, 1) ∧ 72 + 1 = 73 := ⟨by decide +kernel, rfl⟩
theorem dX5_refresh_73 : decode cX5_refresh 73 = .ok (.dup, 1) ∧ 73 + 1 = 74 := ⟨by decide +kernel, rfl⟩
theorem dX5_refresh_74 : decode cX5_refresh 74 = .ok (.getfield 18, 3) ∧ 74 + 3 = 77 := ⟨by decide +kernel, rfl⟩
theorem dX5_refresh_77 : decode cX5_refresh 77 = .ok (.iconst 1, 1) ∧ 77 + 1 = 78 := ⟨by decide +kernel, rfl⟩
theorem dX5_refresh_78 : decode cX5_refresh 78 = .ok (.iadd, 1) ∧ 78 + 1 = 79 := ⟨by decide +kernel, rfl⟩
theorem dX5_refresh_79 : decode cX5_refresh 79 = .ok (.putfield 18, 3) ∧ 79 + 3 = 82 := ⟨by decide +kernel, rfl⟩
theorem dX5_refresh_82 : decode cX5_refresh 82 = .ok (.aload_n 1, 1) ∧ 82 + 1 = 83 := ⟨by decide +kernel, rfl⟩
theorem dX5_refresh_83 : decode cX5_refresh 83 = .ok (.getfield 28, 3) ∧ 83 + 3 = 86 := ⟨by decide +kernel, rfl⟩
theorem dX5_refresh_86 : decode cX5_refresh 86 = .ok (.iload_n 3, 1) ∧ 86 + 1 = 87 := ⟨by decide +kernel, rfl⟩
theorem dX5_refresh_87 : decode cX5_refresh 87 = .ok (.iaload, 1) ∧ 87 + 1 = 88 := ⟨by decide +kernel, rfl⟩
theorem dX5_refresh_88 : decode cX5_refresh 88 = .ok (.iconst 1, 1) ∧ 88 + 1 = 89 := ⟨by decide +kernel, rfl⟩
theorem dX5_refresh_89 : decode cX5_refresh 89 = .ok (.if_icmp .ne 8, 3) ∧ 89 + 3 = 92 ∧ ((89 : Nat) : Int) + (8) = ((97 : Nat) : Int) := ⟨by decide +kernel, rfl, rfl⟩
theorem dX5_refresh_92 : decode cX5_refresh 92 = .ok (.iload 4, 2) ∧ 92 + 2 = 94 := ⟨by decide +kernel, rfl⟩
theorem dX5_refresh_94 : decode cX5_refresh 94 = .ok (.goto 5, 3) ∧ 94 + 3 = 97 ∧ ((94 : Nat) : Int) + (5) = ((99 : Nat) : Int) := ⟨by decide +kernel, rfl, rfl⟩
theorem dX5_refresh_97 : decode cX5_refresh 97 = .ok (.bipush 40, 2) ∧ 97 + 2 = 99 := ⟨by decide +kernel, rfl⟩
theorem dX5_refresh_99 : decode cX5_refresh 99 = .ok (.istore_n 2, 1) ∧ 99 + 1 = 100 := ⟨by decide +kernel, rfl⟩
theorem dX5_refresh_100 : decode cX5_refresh 100 = .ok (.iinc 3 1, 3) ∧ 100 + 3 = 103 := ⟨by decide +kernel, rfl⟩
theorem dX5_refresh_103 : decode cX5_refresh 103 = .ok (.goto (-93), 3) ∧ 103 + 3 = 106 ∧ ((103 : Nat) : Int) + (-93) = ((10 : Nat) : Int) := ⟨by decide +kernel, rfl, rfl⟩
theorem dX5_refresh_106 : decode cX5_refresh 106 = .ok (.return_, 1) ∧ 106 + 1 = 107 := ⟨by decide +kernel, rfl⟩
theorem dX5_placeOf_0 : decode cX5_placeOf 0 = .ok (.iload_n 1, 1) ∧ 0 + 1 = 1 := ⟨by decide +kernel, rfl⟩
theorem dX5_placeOf_1 : decode cX5_placeOf 1 = .ok (.ifCond .lt 26, 3) ∧ 1 + 3 = 4 ∧ ((1 : Nat) : Int) + (26) = ((27 : Nat) : Int) := ⟨by decide +kernel, rfl, rfl⟩
theorem dX5_placeOf_4 : decode cX5_placeOf 4 = .ok (.iload_n 1, 1) ∧ 4 + 1 = 5 := ⟨by decide +kernel, rfl⟩
theorem dX5_placeOf_5 : decode cX5_placeOf 5 = .ok (.aload_n 0, 1) ∧ 5 + 1 = 6 := ⟨by decide +kernel, rfl⟩
theorem dX5_placeOf_6 : decode cX5_placeOf 6 = .ok (.getfield 18, 3) ∧ 6 + 3 = 9 := ⟨by decide +kernel, rfl⟩
theorem dX5_placeOf_9 : decode cX5_placeOf 9 = .ok (.if_icmp .ge 18, 3) ∧ 9 + 3 = 12 ∧ ((9 : Nat) : Int) + (18) = ((27 : Nat) : Int) := ⟨by decide +kernel, rfl, rfl⟩
theorem dX5_placeOf_12 : decode cX5_placeOf 12 = .ok (.iload_n 1, 1) ∧ 12 + 1 = 13 := ⟨by decide +kernel, rfl⟩
theorem dX5_placeOf_13 : decode cX5_placeOf 13 = .ok (.bipush 120, 2) ∧ 13 + 2 = 15 := ⟨by decide +kernel, rfl⟩
theorem dX5_placeOf_15 : decode cX5_placeOf 15 = .ok (.if_icmp .ge 12, 3) ∧ 15 + 3 = 18 ∧ ((15 : Nat) : Int) + (12) = ((27 : Nat) : Int) := ⟨by decide +kernel, rfl, rfl⟩
theorem dX5_placeOf_18 : decode cX5_placeOf 18 = .ok (.aload_n 0, 1) ∧ 18 + 1 = 19 := ⟨by decide +kernel, rfl⟩
theorem dX5_placeOf_19 : decode cX5_placeOf 19 = .ok (.getfield 9, 3) ∧ 19 + 3 = 22 := ⟨by decide +kernel, rfl⟩
theorem dX5_placeOf_22 : decode cX5_placeOf 22 = .ok (.iload_n 1, 1) ∧ 22 + 1 = 23 := ⟨by decide +kernel, rfl⟩
theorem dX5_placeOf_23 : decode cX5_placeOf 23 = .ok (.iaload, 1) ∧ 23 + 1 = 24 := ⟨by decide +kernel, rfl⟩
theorem dX5_placeOf_24 : decode cX5_placeOf 24 = .ok (.goto 5, 3) ∧ 24 + 3 = 27 ∧ ((24 : Nat) : Int) + (5) = ((29 : Nat) : Int) := ⟨by decide +kernel, rfl, rfl⟩
theorem dX5_placeOf_27 : decode cX5_placeOf 27 = .ok (.bipush (-2), 2) ∧ 27 + 2 = 29 := ⟨by decide +kernel, rfl⟩
theorem dX5_placeOf_29 : decode cX5_placeOf 29 = .ok (.ireturn, 1) ∧ 29 + 1 = 30 := ⟨by decide +kernel, rfl⟩
theorem dX5_rowOf_0 : decode cX5_rowOf 0 = .ok (.iload_n 1, 1) ∧ 0 + 1 = 1 := ⟨by decide +kernel, rfl⟩
theorem dX5_rowOf_1 : decode cX5_rowOf 1 = .ok (.ifCond .lt 18, 3) ∧ 1 + 3 = 4 ∧ ((1 : Nat) : Int) + (18) = ((19 : Nat) : Int) := ⟨by decide +kernel, rfl, rfl⟩
theorem dX5_rowOf_4 : decode cX5_rowOf 4 = .ok (.iload_n 1, 1) ∧ 4 + 1 = 5 := ⟨by decide +kernel, rfl⟩
theorem dX5_rowOf_5 : decode cX5_rowOf 5 = .ok (.bipush 120, 2) ∧ 5 + 2 = 7 := ⟨by decide +kernel, rfl⟩
theorem dX5_rowOf_7 : decode cX5_rowOf 7 = .ok (.if_icmp .ge 12, 3) ∧ 7 + 3 = 10 ∧ ((7 : Nat) : Int) + (12) = ((19 : Nat) : Int) := ⟨by decide +kernel, rfl, rfl⟩
theorem dX5_rowOf_10 : decode cX5_rowOf 10 = .ok (.aload_n 0, 1) ∧ 10 + 1 = 11 := ⟨by decide +kernel, rfl⟩
theorem dX5_rowOf_11 : decode cX5_rowOf 11 = .ok (.getfield 15, 3) ∧ 11 + 3 = 14 := ⟨by decide +kernel, rfl⟩
theorem dX5_rowOf_14 : decode cX5_rowOf 14 = .ok (.iload_n 1, 1) ∧ 14 + 1 = 15 := ⟨by decide +kernel, rfl⟩
theorem dX5_rowOf_15 : decode cX5_rowOf 15 = .ok (.iaload, 1) ∧ 15 + 1 = 16 := ⟨by decide +kernel, rfl⟩
theorem dX5_rowOf_16 : decode cX5_rowOf 16 = .ok (.goto 5, 3) ∧ 16 + 3 = 19 ∧ ((16 : Nat) : Int) + (5) = ((21 : Nat) : Int) := ⟨by decide +kernel, rfl, rfl⟩
theorem dX5_rowOf_19 : decode cX5_rowOf 19 = .ok (.bipush (-6), 2) ∧ 19 + 2 = 21 := ⟨by decide +kernel, rfl⟩
theorem dX5_rowOf_21 : decode cX5_rowOf 21 = .ok (.ireturn, 1) ∧ 21 + 1 = 22 := ⟨by decide +kernel, rfl⟩
theorem dX5_seenBetween_0 : decode cX5_seenBetween 0 = .ok (.iconst 0, 1) ∧ 0 + 1 = 1 := ⟨by decide +kernel, rfl⟩
theorem dX5_seenBetween_1 : decode cX5_seenBetween 1 = .ok (.istore_n 3, 1) ∧ 1 + 1 = 2 := ⟨by decide +kernel, rfl⟩
theorem dX5_seenBetween_2 : decode cX5_seenBetween 2 = .ok (.iload_n 1, 1) ∧ 2 + 1 = 3 := ⟨by decide +kernel, rfl⟩
theorem dX5_seenBetween_3 : decode cX5_seenBetween 3 = .ok (.istore 4, 2) ∧ 3 + 2 = 5 := ⟨by decide +kernel, rfl⟩
theorem dX5_seenBetween_5 : decode cX5_seenBetween 5 = .ok (.iload 4, 2) ∧ 5 + 2 = 7 := ⟨by decide +kernel, rfl⟩
theorem dX5_seenBetween_7 : decode cX5_seenBetween 7 = .ok (.iload_n 2, 1) ∧ 7 + 1 = 8 := ⟨by decide +kernel, rfl⟩
theorem dX5_seenBetween_8 : decode cX5_seenBetween 8 = .ok (.if_icmp .ge 23, 3) ∧ 8 + 3 = 11 ∧ ((8 : Nat) : Int) + (23) = ((31 : Nat) : Int) := ⟨by decide +kernel, rfl, rfl⟩
theorem dX5_seenBetween_11 : decode cX5_seenBetween 11 = .ok (.aload_n 0, 1) ∧ 11 + 1 = 12 := ⟨by decide +kernel, rfl⟩
theorem dX5_seenBetween_12 : decode cX5_seenBetween 12 = .ok (.iload 4, 2) ∧ 12 + 2 = 14 := ⟨by decide +kernel, rfl⟩
theorem dX5_seenBetween_14 : decode cX5_seenBetween 14 = .ok (.invokevirtual 31, 3) ∧ 14 + 3 = 17 := ⟨by decide +kernel, rfl⟩
theorem dX5_seenBetween_17 : decode cX5_seenBetween 17 = .ok (.bipush (-6), 2) ∧ 17 + 2 = 19 := ⟨by decide +kernel, rfl⟩
theorem dX5_seenBetween_19 : decode cX5_seenBetween 19 = .ok (.if_icmp .eq 6, 3) ∧ 19 + 3 = 22 ∧ ((19 : Nat) : Int) + (6) = ((25 : Nat) : Int) := ⟨by decide +kernel, rfl, rfl⟩
theorem dX5_seenBetween_22 : decode cX5_seenBetween 22 = .ok (.iinc 3 1, 3) ∧ 22 + 3 = 25 := ⟨by decide +kernel, rfl⟩
theorem dX5_seenBetween_25 : decode cX5_seenBetween 25 = .ok (.iinc 4 1, 3) ∧ 25 + 3 = 28 := ⟨by decide +kernel, rfl⟩
theorem dX5_seenBetween_28 : decode cX5_seenBetween 28 = .ok (.goto (-23), 3) ∧ 28 + 3 = 31 ∧ ((28 : Nat) : Int) + (-23) = ((5 : Nat) : Int) := ⟨by decide +kernel, rfl, rfl⟩
theorem dX5_seenBetween_31 : decode cX5_seenBetween 31 = .ok (.iload_n 3, 1) ∧ 31 + 1 = 32 := ⟨by decide +kernel, rfl⟩
theorem dX5_seenBetween_32 : decode cX5_seenBetween 32 = .ok (.ireturn, 1) ∧ 32 + 1 = 33 := ⟨by decide +kernel, rfl⟩
theorem dX5_seenOf_0 : decode cX5_seenOf 0 = .ok (.iconst 0, 1) ∧ 0 + 1 = 1 := ⟨by decide +kernel, rfl⟩
theorem dX5_seenOf_1 : decode cX5_seenOf 1 = .ok (.istore_n 3, 1) ∧ 1 + 1 = 2 := ⟨by decide +kernel, rfl⟩
theorem dX5_seenOf_2 : decode cX5_seenOf 2 = .ok (.iconst 0, 1) ∧ 2 + 1 = 3 := ⟨by decide +kernel, rfl⟩
theorem dX5_seenOf_3 : decode cX5_seenOf 3 = .ok (.istore 4, 2) ∧ 3 + 2 = 5 := ⟨by decide +kernel, rfl⟩
theorem dX5_seenOf_5 : decode cX5_seenOf 5 = .ok (.iload 4, 2) ∧ 5 + 2 = 7 := ⟨by decide +kernel, rfl⟩
theorem dX5_seenOf_7 : decode cX5_seenOf 7 = .ok (.aload_n 0, 1) ∧ 7 + 1 = 8 := ⟨by decide +kernel, rfl⟩
theorem dX5_seenOf_8 : decode cX5_seenOf 8 = .ok (.getfield 18, 3) ∧ 8 + 3 = 11 := ⟨by decide +kernel, rfl⟩
theorem dX5_seenOf_11 : decode cX5_seenOf 11 = .ok (.if_icmp .ge 27, 3) ∧ 11 + 3 = 14 ∧ ((11 : Nat) : Int) + (27) = ((38 : Nat) : Int) := ⟨by decide +kernel, rfl, rfl⟩
theorem dX5_seenOf_14 : decode cX5_seenOf 14 = .ok (.aload_n 1, 1) ∧ 14 + 1 = 15 := ⟨by decide +kernel, rfl⟩
theorem dX5_seenOf_15 : decode cX5_seenOf 15 = .ok (.aload_n 0, 1) ∧ 15 + 1 = 16 := ⟨by decide +kernel, rfl⟩
theorem dX5_seenOf_16 : decode cX5_seenOf 16 = .ok (.getfield 9, 3) ∧ 16 + 3 = 19 := ⟨by decide +kernel, rfl⟩
theorem dX5_seenOf_19 : decode cX5_seenOf 19 = .ok (.iload 4, 2) ∧ 19 + 2 = 21 := ⟨by decide +kernel, rfl⟩
theorem dX5_seenOf_21 : decode cX5_seenOf 21 = .ok (.iaload, 1) ∧ 21 + 1 = 22 := ⟨by decide +kernel, rfl⟩
theorem dX5_seenOf_22 : decode cX5_seenOf 22 = .ok (.invokevirtual 35, 3) ∧ 22 + 3 = 25 := ⟨by decide +kernel, rfl⟩
theorem dX5_seenOf_25 : decode cX5_seenOf 25 = .ok (.iload_n 2, 1) ∧ 25 + 1 = 26 := ⟨by decide +kernel, rfl⟩
theorem dX5_seenOf_26 : decode cX5_seenOf 26 = .ok (.if_icmp .ne 6, 3) ∧ 26 + 3 = 29 ∧ ((26 : Nat) : Int) + (6) = ((32 : Nat) : Int) := ⟨by decide +kernel, rfl, rfl⟩
theorem dX5_seenOf_29 : decode cX5_seenOf 29 = .ok (.iinc 3 1, 3) ∧ 29 + 3 = 32 := ⟨by decide +kernel, rfl⟩
theorem dX5_seenOf_32 : decode cX5_seenOf 32 = .ok (.iinc 4 1, 3) ∧ 32 + 3 = 35 := ⟨by decide +kernel, rfl⟩
theorem dX5_seenOf_35 : decode cX5_seenOf 35 = .ok (.goto (-30), 3) ∧ 35 + 3 = 38 ∧ ((35 : Nat) : Int) + (-30) = ((5 : Nat) : Int) := ⟨by decide +kernel, rfl, rfl⟩
theorem dX5_seenOf_38 : decode cX5_seenOf 38 = .ok (.iload_n 3, 1) ∧ 38 + 1 = 39 := ⟨by decide +kernel, rfl⟩
theorem dX5_seenOf_39 : decode cX5_seenOf 39 = .ok (.ireturn, 1) ∧ 39 + 1 = 40 := ⟨by decide +kernel, rfl⟩
theorem dX5_firstOf_0 : decode cX5_firstOf 0 = .ok (.iconst 0, 1) ∧ 0 + 1 = 1 := ⟨by decide +kernel, rfl⟩
theorem dX5_firstOf_1 : decode cX5_firstOf 1 = .ok (.istore_n 3, 1) ∧ 1 + 1 = 2 := ⟨by decide +kernel, rfl⟩
theorem dX5_firstOf_2 : decode cX5_firstOf 2 = .ok (.iload_n 3, 1) ∧ 2 + 1 = 3 := ⟨by decide +kernel, rfl⟩
theorem dX5_firstOf_3 : decode cX5_firstOf 3 = .ok (.aload_n 0, 1) ∧ 3 + 1 = 4 := ⟨by decide +kernel, rfl⟩
theorem dX5_firstOf_4 : decode cX5_firstOf 4 = .ok (.getfield 18, 3) ∧ 4 + 3 = 7 := ⟨by decide +kernel, rfl⟩
theorem dX5_firstOf_7 : decode cX5_firstOf 7 = .ok (.if_icmp .ge 25, 3) ∧ 7 + 3 = 10 ∧ ((7 : Nat) : Int) + (25) = ((32 : Nat) : Int) := ⟨by decide +kernel, rfl, rfl⟩
theorem dX5_firstOf_10 : decode cX5_firstOf 10 = .ok (.aload_n 1, 1) ∧ 10 + 1 = 11 := ⟨by decide +kernel, rfl⟩
theorem dX5_firstOf_11 : decode cX5_firstOf 11 = .ok (.aload_n 0, 1) ∧ 11 + 1 = 12 := ⟨by decide +kernel, rfl⟩
theorem dX5_firstOf_12 : decode cX5_firstOf 12 = .ok (.getfield 9, 3) ∧ 12 + 3 = 15 := ⟨by decide +kernel, rfl⟩
theorem dX5_firstOf_15 : decode cX5_firstOf 15 = .ok (.iload_n 3, 1) ∧ 15 + 1 = 16 := ⟨by decide +kernel, rfl⟩
theorem dX5_firstOf_16 : decode cX5_firstOf 16 = .ok (.iaload, 1) ∧ 16 + 1 = 17 := ⟨by decide +kernel, rfl⟩
theorem dX5_firstOf_17 : decode cX5_firstOf 17 = .ok (.invokevirtual 35, 3) ∧ 17 + 3 = 20 := ⟨by decide +kernel, rfl⟩
theorem dX5_firstOf_20 : decode cX5_firstOf 20 = .ok (.iload_n 2, 1) ∧ 20 + 1 = 21 := ⟨by decide +kernel, rfl⟩
theorem dX5_firstOf_21 : decode cX5_firstOf 21 = .ok (.if_icmp .ne 5, 3) ∧ 21 + 3 = 24 ∧ ((21 : Nat) : Int) + (5) = ((26 : Nat) : Int) := ⟨by decide +kernel, rfl, rfl⟩
theorem dX5_firstOf_24 : decode cX5_firstOf 24 = .ok (.iload_n 3, 1) ∧ 24 + 1 = 25 := ⟨by decide +kernel, rfl⟩
theorem dX5_firstOf_25 : decode cX5_firstOf 25 = .ok (.ireturn, 1) ∧ 25 + 1 = 26 := ⟨by decide +kernel, rfl⟩
theorem dX5_firstOf_26 : decode cX5_firstOf 26 = .ok (.iinc 3 1, 3) ∧ 26 + 3 = 29 := ⟨by decide +kernel, rfl⟩
theorem dX5_firstOf_29 : decode cX5_firstOf 29 = .ok (.goto (-27), 3) ∧ 29 + 3 = 32 ∧ ((29 : Nat) : Int) + (-27) = ((2 : Nat) : Int) := ⟨by decide +kernel, rfl, rfl⟩
theorem dX5_firstOf_32 : decode cX5_firstOf 32 = .ok (.bipush (-6), 2) ∧ 32 + 2 = 34 := ⟨by decide +kernel, rfl⟩
theorem dX5_firstOf_34 : decode cX5_firstOf 34 = .ok (.ireturn, 1) ∧ 34 + 1 = 35 := ⟨by decide +kernel, rfl⟩
theorem dX6_init_0 : decode cX6_init 0 = .ok (.aload_n 0, 1) ∧ 0 + 1 = 1 := ⟨by decide +kernel, rfl⟩
theorem dX6_init_1 : decode cX6_init 1 = .ok (.invokespecial 3, 3) ∧ 1 + 3 = 4 := ⟨by decide +kernel, rfl⟩
theorem dX6_init_4 : decode cX6_init 4 = .ok (.aload_n 0, 1) ∧ 4 + 1 = 5 := ⟨by decide +kernel, rfl⟩
theorem dX6_init_5 : decode cX6_init 5 = .ok (.new 9, 3) ∧ 5 + 3 = 8 := ⟨by decide +kernel, rfl⟩
theorem dX6_init_8 : decode cX6_init 8 = .ok (.dup, 1) ∧ 8 + 1 = 9 := ⟨by decide +kernel, rfl⟩
theorem dX6_init_9 : decode cX6_init 9 = .ok (.invokespecial 11, 3) ∧ 9 + 3 = 12 := ⟨by decide +kernel, rfl⟩
theorem dX6_init_12 : decode cX6_init 12 = .ok (.putfield 12, 3) ∧ 12 + 3 = 15 := ⟨by decide +kernel, rfl⟩
theorem dX6_init_15 : decode cX6_init 15 = .ok (.aload_n 0, 1) ∧ 15 + 1 = 16 := ⟨by decide +kernel, rfl⟩
theorem dX6_init_16 : decode cX6_init 16 = .ok (.new 18, 3) ∧ 16 + 3 = 19 := ⟨by decide +kernel, rfl⟩
theorem dX6_init_19 : decode cX6_init 19 = .ok (.dup, 1) ∧ 19 + 1 = 20 := ⟨by decide +kernel, rfl⟩
theorem dX6_init_20 : decode cX6_init 20 = .ok (.invokespecial 20, 3) ∧ 20 + 3 = 23 := ⟨by decide +kernel, rfl⟩
theorem dX6_init_23 : decode cX6_init 23 = .ok (.putfield 21, 3) ∧ 23 + 3 = 26 := ⟨by decide +kernel, rfl⟩
theorem dX6_init_26 : decode cX6_init 26 = .ok (.aload_n 0, 1) ∧ 26 + 1 = 27 := ⟨by decide +kernel, rfl⟩
theorem dX6_init_27 : decode cX6_init 27 = .ok (.new 25, 3) ∧ 27 + 3 = 30 := ⟨by decide +kernel, rfl⟩
theorem dX6_init_30 : decode cX6_init 30 = .ok (.dup, 1) ∧ 30 + 1 = 31 := ⟨by decide +kernel, rfl⟩
theorem dX6_init_31 : decode cX6_init 31 = .ok (.invokespecial 27, 3) ∧ 31 + 3 = 34 := ⟨by decide +kernel, rfl⟩
theorem dX6_init_34 : decode cX6_init 34 = .ok (.putfield 28, 3) ∧ 34 + 3 = 37 := ⟨by decide +kernel, rfl⟩
theorem dX6_init_37 : decode cX6_init 37 = .ok (.return_, 1) ∧ 37 + 1 = 38 := ⟨by decide +kernel, rfl⟩
theorem dX6_copyFrom_0 : decode cX6_copyFrom 0 = .ok (.aload_n 0, 1) ∧ 0 + 1 = 1 := ⟨by decide +kernel, rfl⟩
theorem dX6_copyFrom_1 : decode cX6_copyFrom 1 = .ok (.getfield 12, 3) ∧ 1 + 3 = 4 := ⟨by decide +kernel, rfl⟩
theorem dX6_copyFrom_4 : decode cX6_copyFrom 4 = .ok (.aload_n 1, 1) ∧ 4 + 1 = 5 := ⟨by decide +kernel, rfl⟩
theorem dX6_copyFrom_5 : decode cX6_copyFrom 5 = .ok (.getfield 12, 3) ∧ 5 + 3 = 8 := ⟨by decide +kernel, rfl⟩
theorem dX6_copyFrom_8 : decode cX6_copyFrom 8 = .ok (.invokevirtual 32, 3) ∧ 8 + 3 = 11 := ⟨by decide +kernel, rfl⟩
theorem dX6_copyFrom_11 : decode cX6_copyFrom 11 = .ok (.aload_n 0, 1) ∧ 11 + 1 = 12 := ⟨by decide +kernel, rfl⟩
theorem dX6_copyFrom_12 : decode cX6_copyFrom 12 = .ok (.getfield 21, 3) ∧ 12 + 3 = 15 := ⟨by decide +kernel, rfl⟩
theorem dX6_copyFrom_15 : decode cX6_copyFrom 15 = .ok (.aload_n 1, 1) ∧ 15 + 1 = 16 := ⟨by decide +kernel, rfl⟩
theorem dX6_copyFrom_16 : decode cX6_copyFrom 16 = .ok (.getfield 21, 3) ∧ 16 + 3 = 19 := ⟨by decide +kernel, rfl⟩
theorem dX6_copyFrom_19 : decode cX6_copyFrom 19 = .ok (.invokevirtual 36, 3) ∧ 19 + 3 = 22 := ⟨by decide +kernel, rfl⟩
theorem dX6_copyFrom_22 : decode cX6_copyFrom 22 = .ok (.aload_n 0, 1) ∧ 22 + 1 = 23 := ⟨by decide +kernel, rfl⟩
theorem dX6_copyFrom_23 : decode cX6_copyFrom 23 = .ok (.getfield 28, 3) ∧ 23 + 3 = 26 := ⟨by decide +kernel, rfl⟩
theorem dX6_copyFrom_26 : decode cX6_copyFrom 26 = .ok (.aload_n 1, 1) ∧ 26 + 1 = 27 := ⟨by decide +kernel, rfl⟩
theorem dX6_copyFrom_27 : decode cX6_copyFrom 27 = .ok (.getfield 28, 3) ∧ 27 + 3 = 30 := ⟨by decide +kernel, rfl⟩
theorem dX6_copyFrom_30 : decode cX6_copyFrom 30 = .ok (.invokevirtual 39, 3) ∧ 30 + 3 = 33 := ⟨by decide +kernel, rfl⟩
theorem dX6_copyFrom_33 : decode cX6_copyFrom 33 = .ok (.return_, 1) ∧ 33 + 1 = 34 := ⟨by decide +kernel, rfl⟩
theorem dX6_clearNodes_0 : decode cX6_clearNodes 0 = .ok (.aload_n 0, 1) ∧ 0 + 1 = 1 := ⟨by decide +kernel, rfl⟩
theorem dX6_clearNodes_1 : decode cX6_clearNodes 1 = .ok (.getfield 12, 3) ∧ 1 + 3 = 4 := ⟨by decide +kernel, rfl⟩
theorem dX6_clearNodes_4 : decode cX6_clearNodes 4 = .ok (.iconst 0, 1) ∧ 4 + 1 = 5 := ⟨by decide +kernel, rfl⟩
theorem dX6_clearNodes_5 : decode cX6_clearNodes 5 = .ok (.putfield 42, 3) ∧ 5 + 3 = 8 := ⟨by decide +kernel, rfl⟩
theorem dX6_clearNodes_8 : decode cX6_clearNodes 8 = .ok (.aload_n 0, 1) ∧ 8 + 1 = 9 := ⟨by decide +kernel, rfl⟩
theorem dX6_clearNodes_9 : decode cX6_clearNodes 9 = .ok (.getfield 21, 3) ∧ 9 + 3 = 12 := ⟨by decide +kernel, rfl⟩
theorem dX6_clearNodes_12 : decode cX6_clearNodes 12 = .ok (.iconst 0, 1) ∧ 12 + 1 = 13 := ⟨by decide +kernel, rfl⟩
theorem dX6_clearNodes_13 : decode cX6_clearNodes 13 = .ok (.putfield 46, 3) ∧ 13 + 3 = 16 := ⟨by decide +kernel, rfl⟩
theorem dX6_clearNodes_16 : decode cX6_clearNodes 16 = .ok (.return_, 1) ∧ 16 + 1 = 17 := ⟨by decide +kernel, rfl⟩
theorem dX6_placeAgain_0 : decode cX6_placeAgain 0 = .ok (.aload_n 0, 1) ∧ 0 + 1 = 1 := ⟨by decide +kernel, rfl⟩
theorem dX6_placeAgain_1 : decode cX6_placeAgain 1 = .ok (.getfield 28, 3) ∧ 1 + 3 = 4 := ⟨by decide +kernel, rfl⟩
theorem dX6_placeAgain_4 : decode cX6_placeAgain 4 = .ok (.iconst 0, 1) ∧ 4 + 1 = 5 := ⟨by decide +kernel, rfl⟩
theorem dX6_placeAgain_5 : decode cX6_placeAgain 5 = .ok (.putfield 49, 3) ∧ 5 + 3 = 8 := ⟨by decide +kernel, rfl⟩
theorem dX6_placeAgain_8 : decode cX6_placeAgain 8 = .ok (.aload_n 0, 1) ∧ 8 + 1 = 9 := ⟨by decide +kernel, rfl⟩
theorem dX6_placeAgain_9 : decode cX6_placeAgain 9 = .ok (.aload_n 1, 1) ∧ 9 + 1 = 10 := ⟨by decide +kernel, rfl⟩
theorem dX6_placeAgain_10 : decode cX6_placeAgain 10 = .ok (.iconst (-1), 1) ∧ 10 + 1 = 11 := ⟨by decide +kernel, rfl⟩
theorem dX6_placeAgain_11 : decode cX6_placeAgain 11 = .ok (.iconst (-1), 1) ∧ 11 + 1 = 12 := ⟨by decide +kernel, rfl⟩
theorem dX6_placeAgain_12 : decode cX6_placeAgain 12 = .ok (.iconst 1, 1) ∧ 12 + 1 = 13 := ⟨by decide +kernel, rfl⟩
theorem dX6_placeAgain_13 : decode cX6_placeAgain 13 = .ok (.invokestatic 50, 3) ∧ 13 + 3 = 16 := ⟨by decide +kernel, rfl⟩
theorem dX6_placeAgain_16 : decode cX6_placeAgain 16 = .ok (.ireturn, 1) ∧ 16 + 1 = 17 := ⟨by decide +kernel, rfl⟩
theorem dX6_placeAnew_0 : decode cX6_placeAnew 0 = .ok (.aload_n 0, 1) ∧ 0 + 1 = 1 := ⟨by decide +kernel, rfl⟩
theorem dX6_placeAnew_1 : decode cX6_placeAnew 1 = .ok (.getfield 28, 3) ∧ 1 + 3 = 4 := ⟨by decide +kernel, rfl⟩
theorem dX6_placeAnew_4 : decode cX6_placeAnew 4 = .ok (.iconst 0, 1) ∧ 4 + 1 = 5 := ⟨by decide +kernel, rfl⟩
theorem dX6_placeAnew_5 : decode cX6_placeAnew 5 = .ok (.putfield 49, 3) ∧ 5 + 3 = 8 := ⟨by decide +kernel, rfl⟩
theorem dX6_placeAnew_8 : decode cX6_placeAnew 8 = .ok (.aload_n 0, 1) ∧ 8 + 1 = 9 := ⟨by decide +kernel, rfl⟩
theorem dX6_placeAnew_9 : decode cX6_placeAnew 9 = .ok (.aload_n 0, 1) ∧ 9 + 1 = 10 := ⟨by decide +kernel, rfl⟩
theorem dX6_placeAnew_10 : decode cX6_placeAnew 10 = .ok (.getfield 28, 3) ∧ 10 + 3 = 13 := ⟨by decide +kernel, rfl⟩
theorem dX6_placeAnew_13 : decode cX6_placeAnew 13 = .ok (.iconst (-1), 1) ∧ 13 + 1 = 14 := ⟨by decide +kernel, rfl⟩
theorem dX6_placeAnew_14 : decode cX6_placeAnew 14 = .ok (.bipush (-2), 2) ∧ 14 + 2 = 16 := ⟨by decide +kernel, rfl⟩
theorem dX6_placeAnew_16 : decode cX6_placeAnew 16 = .ok (.iconst 1, 1) ∧ 16 + 1 = 17 := ⟨by decide +kernel, rfl⟩
theorem dX6_placeAnew_17 : decode cX6_placeAnew 17 = .ok (.invokestatic 50, 3) ∧ 17 + 3 = 20 := ⟨by decide +kernel, rfl⟩
theorem dX6_placeAnew_20 : decode cX6_placeAnew 20 = .ok (.ireturn, 1) ∧ 20 + 1 = 21 := ⟨by decide +kernel, rfl⟩
theorem dX6_grow_0 : decode cX6_grow 0 = .ok (.aload_n 0, 1) ∧ 0 + 1 = 1 := ⟨by decide +kernel, rfl⟩
theorem dX6_grow_1 : decode cX6_grow 1 = .ok (.getfield 21, 3) ∧ 1 + 3 = 4 := ⟨by decide +kernel, rfl⟩
theorem dX6_grow_4 : decode cX6_grow 4 = .ok (.astore 5, 2) ∧ 4 + 2 = 6 := ⟨by decide +kernel, rfl⟩
theorem dX6_grow_6 : decode cX6_grow 6 = .ok (.aload_n 0, 1) ∧ 6 + 1 = 7 := ⟨by decide +kernel, rfl⟩
theorem dX6_grow_7 : decode cX6_grow 7 = .ok (.getfield 28, 3) ∧ 7 + 3 = 10 := ⟨by decide +kernel, rfl⟩
theorem dX6_grow_10 : decode cX6_grow 10 = .ok (.iload_n 2, 1) ∧ 10 + 1 = 11 := ⟨by decide +kernel, rfl⟩
theorem dX6_grow_11 : decode cX6_grow 11 = .ok (.invokevirtual 54, 3) ∧ 11 + 3 = 14 := ⟨by decide +kernel, rfl⟩
theorem dX6_grow_14 : decode cX6_grow 14 = .ok (.istore 6, 2) ∧ 14 + 2 = 16 := ⟨by decide +kernel, rfl⟩
theorem dX6_grow_16 : decode cX6_grow 16 = .ok (.iconst 0, 1) ∧ 16 + 1 = 17 := ⟨by decide +kernel, rfl⟩
theorem dX6_grow_17 : decode cX6_grow 17 = .ok (.istore 7, 2) ∧ 17 + 2 = 19 := ⟨by decide +kernel, rfl⟩
theorem dX6_grow_19 : decode cX6_grow 19 = .ok (.iload 7, 2) ∧ 19 + 2 = 21 := ⟨by decide +kernel, rfl⟩
theorem dX6_grow_21 : decode cX6_grow 21 = .ok (.aload 5, 2) ∧ 21 + 2 = 23 := ⟨by decide +kernel, rfl⟩
theorem dX6_grow_23 : decode cX6_grow 23 = .ok (.getfield 46, 3) ∧ 23 + 3 = 26 := ⟨by decide +kernel, rfl⟩
theorem dX6_grow_26 : decode cX6_grow 26 = .ok (.if_icmp .ge 85, 3) ∧ 26 + 3 = 29 ∧ ((26 : Nat) : Int) + (85) = ((111 : Nat) : Int) := ⟨by decide +kernel, rfl, rfl⟩
theorem dX6_grow_29 : decode cX6_grow 29 = .ok (.aload 5, 2) ∧ 29 + 2 = 31 := ⟨by decide +kernel, rfl⟩
theorem dX6_grow_31 : decode cX6_grow 31 = .ok (.getfield 58, 3) ∧ 31 + 3 = 34 := ⟨by decide +kernel, rfl⟩
theorem dX6_grow_34 : decode cX6_grow 34 = .ok (.iload 7, 2) ∧ 34 + 2 = 36 := ⟨by decide +kernel, rfl⟩
theorem dX6_grow_36 : decode cX6_grow 36 = .ok (.iaload, 1) ∧ 36 + 1 = 37 := ⟨by decide +kernel, rfl⟩
theorem dX6_grow_37 : decode cX6_grow 37 = .ok (.iload 6, 2) ∧ 37 + 2 = 39 := ⟨by decide +kernel, rfl⟩
theorem dX6_grow_39 : decode cX6_grow 39 = .ok (.if_icmp .ne 66, 3) ∧ 39 + 3 = 42 ∧ ((39 : Nat) : Int) + (66) = ((105 : Nat) : Int) := ⟨by decide +kernel, rfl, rfl⟩
theorem dX6_grow_42 : decode cX6_grow 42 = .ok (.aload 5, 2) ∧ 42 + 2 = 44 := ⟨by decide +kernel, rfl⟩
theorem dX6_grow_44 : decode cX6_grow 44 = .ok (.getfield 62, 3) ∧ 44 + 3 = 47 := ⟨by decide +kernel, rfl⟩
theorem dX6_grow_47 : decode cX6_grow 47 = .ok (.iload 7, 2) ∧ 47 + 2 = 49 := ⟨by decide +kernel, rfl⟩
theorem dX6_grow_49 : decode cX6_grow 49 = .ok (.iaload, 1) ∧ 49 + 1 = 50 := ⟨by decide +kernel, rfl⟩
theorem dX6_grow_50 : decode cX6_grow 50 = .ok (.istore 8, 2) ∧ 50 + 2 = 52 := ⟨by decide +kernel, rfl⟩
theorem dX6_grow_52 : decode cX6_grow 52 = .ok (.aload_n 1, 1) ∧ 52 + 1 = 53 := ⟨by decide +kernel, rfl⟩
theorem dX6_grow_53 : decode cX6_grow 53 = .ok (.iload_n 3, 1) ∧ 53 + 1 = 54 := ⟨by decide +kernel, rfl⟩
theorem dX6_grow_54 : decode cX6_grow 54 = .ok (.iload 8, 2) ∧ 54 + 2 = 56 := ⟨by decide +kernel, rfl⟩
theorem dX6_grow_56 : decode cX6_grow 56 = .ok (.invokevirtual 65, 3) ∧ 56 + 3 = 59 := ⟨by decide +kernel, rfl⟩
theorem dX6_grow_59 : decode cX6_grow 59 = .ok (.istore 9, 2) ∧ 59 + 2 = 61 := ⟨by decide +kernel, rfl⟩
theorem dX6_grow_61 : decode cX6_grow 61 = .ok (.aload_n 0, 1) ∧ 61 + 1 = 62 := ⟨by decide +kernel, rfl⟩
theorem dX6_grow_62 : decode cX6_grow 62 = .ok (.getfield 28, 3) ∧ 62 + 3 = 65 := ⟨by decide +kernel, rfl⟩
theorem dX6_grow_65 : decode cX6_grow 65 = .ok (.iload 8, 2) ∧ 65 + 2 = 67 := ⟨by decide +kernel, rfl⟩
theorem dX6_grow_67 : decode cX6_grow 67 = .ok (.iload 4, 2) ∧ 67 + 2 = 69 := ⟨by decide +kernel, rfl⟩
theorem dX6_grow_69 : decode cX6_grow 69 = .ok (.aload_n 1, 1) ∧ 69 + 1 = 70 := ⟨by decide +kernel, rfl⟩
theorem dX6_grow_70 : decode cX6_grow 70 = .ok (.iload 9, 2) ∧ 70 + 2 = 72 := ⟨by decide +kernel, rfl⟩
theorem dX6_grow_72 : decode cX6_grow 72 = .ok (.invokevirtual 69, 3) ∧ 72 + 3 = 75 := ⟨by decide +kernel, rfl⟩
theorem dX6_grow_75 : decode cX6_grow 75 = .ok (.invokevirtual 72, 3) ∧ 75 + 3 = 78 := ⟨by decide +kernel, rfl⟩
theorem dX6_grow_78 : decode cX6_grow 78 = .ok (.istore 10, 2) ∧ 78 + 2 = 80 := ⟨by decide +kernel, rfl⟩
theorem dX6_grow_80 : decode cX6_grow 80 = .ok (.iload 10, 2) ∧ 80 + 2 = 82 := ⟨by decide +kernel, rfl⟩
theorem dX6_grow_82 : decode cX6_grow 82 = .ok (.bipush (-2), 2) ∧ 82 + 2 = 84 := ⟨by decide +kernel, rfl⟩
theorem dX6_grow_84 : decode cX6_grow 84 = .ok (.if_icmp .eq 19, 3) ∧ 84 + 3 = 87 ∧ ((84 : Nat) : Int) + (19) = ((103 : Nat) : Int) := ⟨by decide +kernel, rfl, rfl⟩
theorem dX6_grow_87 : decode cX6_grow 87 = .ok (.aload_n 0, 1) ∧ 87 + 1 = 88 := ⟨by decide +kernel, rfl⟩
theorem dX6_grow_88 : decode cX6_grow 88 = .ok (.aload_n 1, 1) ∧ 88 + 1 = 89 := ⟨by decide +kernel, rfl⟩
theorem dX6_grow_89 : decode cX6_grow 89 = .ok (.iload 10, 2) ∧ 89 + 2 = 91 := ⟨by decide +kernel, rfl⟩
theorem dX6_grow_91 : decode cX6_grow 91 = .ok (.iload 9, 2) ∧ 91 + 2 = 93 := ⟨by decide +kernel, rfl⟩
theorem dX6_grow_93 : decode cX6_grow 93 = .ok (.iload 4, 2) ∧ 93 + 2 = 95 := ⟨by decide +kernel, rfl⟩
theorem dX6_grow_95 : decode cX6_grow 95 = .ok (.iconst 1, 1) ∧ 95 + 1 = 96 := ⟨by decide +kernel, rfl⟩
theorem dX6_grow_96 : decode cX6_grow 96 = .ok (.iadd, 1) ∧ 96 + 1 = 97 := ⟨by decide +kernel, rfl⟩
theorem dX6_grow_97 : decode cX6_grow 97 = .ok (.invokestatic 50, 3) ∧ 97 + 3 = 100 := ⟨by decide +kernel, rfl⟩
theorem dX6_grow_100 : decode cX6_grow 100 = .ok (.ifCond .ne 5, 3) ∧ 100 + 3 = 103 ∧ ((100 : Nat) : Int) + (5) = ((105 : Nat) : Int) := ⟨by decide +kernel, rfl, rfl⟩
theorem dX6_grow_103 : decode cX6_grow 103 = .ok (.iconst 0, 1) ∧ 103 + 1 = 104 := ⟨by decide +kernel, rfl⟩
theorem dX6_grow_104 : decode cX6_grow 104 = .ok (.ireturn, 1) ∧ 104 + 1 = 105 := ⟨by decide +kernel, rfl⟩
theorem dX6_grow_105 : decode cX6_grow 105 = .ok (.iinc 7 1, 3) ∧ 105 + 3 = 108 := ⟨by decide +kernel, rfl⟩
theorem dX6_grow_108 : decode cX6_grow 108 = .ok (.goto (-89), 3) ∧ 108 + 3 = 111 ∧ ((108 : Nat) : Int) + (-89) = ((19 : Nat) : Int) := ⟨by decide +kernel, rfl, rfl⟩
theorem dX6_grow_111 : decode cX6_grow 111 = .ok (.iconst 1, 1) ∧ 111 + 1 = 112 := ⟨by decide +kernel, rfl⟩
theorem dX6_grow_112 : decode cX6_grow 112 = .ok (.ireturn, 1) ∧ 112 + 1 = 113 := ⟨by decide +kernel, rfl⟩
theorem dX6_dropVanished_0 : decode cX6_dropVanished 0 = .ok (.aload_n 0, 1) ∧ 0 + 1 = 1 := ⟨by decide +kernel, rfl⟩
theorem dX6_dropVanished_1 : decode cX6_dropVanished 1 = .ok (.getfield 28, 3) ∧ 1 + 3 = 4 := ⟨by decide +kernel, rfl⟩
theorem dX6_dropVanished_4 : decode cX6_dropVanished 4 = .ok (.invokevirtual 76, 3) ∧ 4 + 3 = 7 := ⟨by decide +kernel, rfl⟩
theorem dX6_dropVanished_7 : decode cX6_dropVanished 7 = .ok (.lstore_n 3, 1) ∧ 7 + 1 = 8 := ⟨by decide +kernel, rfl⟩
theorem dX6_dropVanished_8 : decode cX6_dropVanished 8 = .ok (.aload_n 0, 1) ∧ 8 + 1 = 9 := ⟨by decide +kernel, rfl⟩
theorem dX6_dropVanished_9 : decode cX6_dropVanished 9 = .ok (.getfield 21, 3) ∧ 9 + 3 = 12 := ⟨by decide +kernel, rfl⟩
theorem dX6_dropVanished_12 : decode cX6_dropVanished 12 = .ok (.lload_n 3, 1) ∧ 12 + 1 = 13 := ⟨by decide +kernel, rfl⟩
theorem dX6_dropVanished_13 : decode cX6_dropVanished 13 = .ok (.lconst 1, 1) ∧ 13 + 1 = 14 := ⟨by decide +kernel, rfl⟩
theorem dX6_dropVanished_14 : decode cX6_dropVanished 14 = .ok (.lor, 1) ∧ 14 + 1 = 15 := ⟨by decide +kernel, rfl⟩
theorem dX6_dropVanished_15 : decode cX6_dropVanished 15 = .ok (.invokevirtual 80, 3) ∧ 15 + 3 = 18 := ⟨by decide +kernel, rfl⟩
theorem dX6_dropVanished_18 : decode cX6_dropVanished 18 = .ok (.lload_n 1, 1) ∧ 18 + 1 = 19 := ⟨by decide +kernel, rfl⟩
theorem dX6_dropVanished_19 : decode cX6_dropVanished 19 = .ok (.lload_n 3, 1) ∧ 19 + 1 = 20 := ⟨by decide +kernel, rfl⟩
theorem dX6_dropVanished_20 : decode cX6_dropVanished 20 = .ok (.ldc2_w 84, 3) ∧ 20 + 3 = 23 := ⟨by decide +kernel, rfl⟩
theorem dX6_dropVanished_23 : decode cX6_dropVanished 23 = .ok (.lxor, 1) ∧ 23 + 1 = 24 := ⟨by decide +kernel, rfl⟩
theorem dX6_dropVanished_24 : decode cX6_dropVanished 24 = .ok (.land, 1) ∧ 24 + 1 = 25 := ⟨by decide +kernel, rfl⟩
theorem dX6_dropVanished_25 : decode cX6_dropVanished 25 = .ok (.invokestatic 86, 3) ∧ 25 + 3 = 28 := ⟨by decide +kernel, rfl⟩
theorem dX6_dropVanished_28 : decode cX6_dropVanished 28 = .ok (.ireturn, 1) ∧ 28 + 1 = 29 := ⟨by decide +kernel, rfl⟩
theorem dX7_init_0 : decode cX7_init 0 = .ok (.aload_n 0, 1) ∧ 0 + 1 = 1 := ⟨by decide +kernel, rfl⟩
theorem dX7_init_1 : decode cX7_init 1 = .ok (.invokespecial 3, 3) ∧ 1 + 3 = 4 := ⟨by decide +kernel, rfl⟩
theorem dX7_init_4 : decode cX7_init 4 = .ok (.aload_n 0, 1) ∧ 4 + 1 = 5 := ⟨by decide +kernel, rfl⟩
theorem dX7_init_5 : decode cX7_init 5 = .ok (.bipush 60, 2) ∧ 5 + 2 = 7 := ⟨by decide +kernel, rfl⟩
theorem dX7_init_7 : decode cX7_init 7 = .ok (.newarray .int, 2) ∧ 7 + 2 = 9 := ⟨by decide +kernel, rfl⟩
theorem dX7_init_9 : decode cX7_init 9 = .ok (.putfield 9, 3) ∧ 9 + 3 = 12 := ⟨by decide +kernel, rfl⟩
theorem dX7_init_12 : decode cX7_init 12 = .ok (.return_, 1) ∧ 12 + 1 = 13 := ⟨by decide +kernel, rfl⟩
theorem dX7_append_0 : decode cX7_append 0 = .ok (.aload_n 0, 1) ∧ 0 + 1 = 1 := ⟨by decide +kernel, rfl⟩
theorem dX7_append_1 : decode cX7_append 1 = .ok (.getfield 15, 3) ∧ 1 + 3 = 4 := ⟨by decide +kernel, rfl⟩
theorem dX7_append_4 : decode cX7_append 4 = .ok (.ifCond .lt 12, 3) ∧ 4 + 3 = 7 ∧ ((4 : Nat) : Int) + (12) = ((16 : Nat) : Int) := ⟨by decide +kernel, rfl, rfl⟩
theorem dX7_append_7 : decode cX7_append 7 = .ok (.aload_n 0, 1) ∧ 7 + 1 = 8 := ⟨by decide +kernel, rfl⟩
theorem dX7_append_8 : decode cX7_append 8 = .ok (.getfield 15, 3) ∧ 8 + 3 = 11 := ⟨by decide +kernel, rfl⟩
theorem dX7_append_11 : decode cX7_append 11 = .ok (.bipush 60, 2) ∧ 11 + 2 = 13 := ⟨by decide +kernel, rfl⟩
theorem dX7_append_13 : decode cX7_append 13 = .ok (.if_icmp .lt 5, 3) ∧ 13 + 3 = 16 ∧ ((13 : Nat) : Int) + (5) = ((18 : Nat) : Int) := ⟨by decide +kernel, rfl, rfl⟩
theorem dX7_append_16 : decode cX7_append 16 = .ok (.iconst 0, 1) ∧ 16 + 1 = 17 := ⟨by decide +kernel, rfl⟩
theorem dX7_append_17 : decode cX7_append 17 = .ok (.ireturn, 1) ∧ 17 + 1 = 18 := ⟨by decide +kernel, rfl⟩
theorem dX7_append_18 : decode cX7_append 18 = .ok (.aload_n 0, 1) ∧ 18 + 1 = 19 := ⟨by decide +kernel, rfl⟩
theorem dX7_append_19 : decode cX7_append 19 = .ok (.getfield 9, 3) ∧ 19 + 3 = 22 := ⟨by decide +kernel, rfl⟩
theorem dX7_append_22 : decode cX7_append 22 = .ok (.aload_n 0, 1) ∧ 22 + 1 = 23 := ⟨by decide +kernel, rfl⟩
theorem dX7_append_23 : decode cX7_append 23 = .ok (.getfield 15, 3) ∧ 23 + 3 = 26 := ⟨by decide +kernel, rfl⟩
theorem dX7_append_26 : decode cX7_append 26 = .ok (.iload_n 1, 1) ∧ 26 + 1 = 27 := ⟨by decide +kernel, rfl⟩
theorem dX7_append_27 : decode cX7_append 27 = .ok (.iastore, 1) ∧ 27 + 1 = 28 := ⟨by decide +kernel, rfl⟩
theorem dX7_append_28 : decode cX7_append 28 = .ok (.aload_n 0, 1) ∧ 28 + 1 = 29 := ⟨by decide +kernel, rfl⟩
theorem dX7_append_29 : decode cX7_append 29 = .ok (.dup, 1) ∧ 29 + 1 = 30 := ⟨by decide +kernel, rfl⟩
theorem dX7_append_30 : decode cX7_append 30 = .ok (.getfield 15, 3) ∧ 30 + 3 = 33 := ⟨by decide +kernel, rfl⟩
theorem dX7_append_33 : decode cX7_append 33 = .ok (.iconst 1, 1) ∧ 33 + 1 = 34 := ⟨by decide +kernel, rfl⟩
theorem dX7_append_34 : decode cX7_append 34 = .ok (.iadd, 1) ∧ 34 + 1 = 35 := ⟨by decide +kernel, rfl⟩
theorem dX7_append_35 : decode cX7_append 35 = .ok (.putfield 15, 3) ∧ 35 + 3 = 38 := ⟨by decide +kernel, rfl⟩
theorem dX7_append_38 : decode cX7_append 38 = .ok (.iconst 1, 1) ∧ 38 + 1 = 39 := ⟨by decide +kernel, rfl⟩
theorem dX7_append_39 : decode cX7_append 39 = .ok (.ireturn, 1) ∧ 39 + 1 = 40 := ⟨by decide +kernel, rfl⟩
theorem dX7_fitsNode_0 : decode cX7_fitsNode 0 = .ok (.aload_n 0, 1) ∧ 0 + 1 = 1 := ⟨by decide +kernel, rfl⟩
theorem dX7_fitsNode_1 : decode cX7_fitsNode 1 = .ok (.getfield 15, 3) ∧ 1 + 3 = 4 := ⟨by decide +kernel, rfl⟩
theorem dX7_fitsNode_4 : decode cX7_fitsNode 4 = .ok (.iconst 1, 1) ∧ 4 + 1 = 5 := ⟨by decide +kernel, rfl⟩
theorem dX7_fitsNode_5 : decode cX7_fitsNode 5 = .ok (.if_icmp .lt 16, 3) ∧ 5 + 3 = 8 ∧ ((5 : Nat) : Int) + (16) = ((21 : Nat) : Int) := ⟨by decide +kernel, rfl, rfl⟩
theorem dX7_fitsNode_8 : decode cX7_fitsNode 8 = .ok (.aload_n 0, 1) ∧ 8 + 1 = 9 := ⟨by decide +kernel, rfl⟩
theorem dX7_fitsNode_9 : decode cX7_fitsNode 9 = .ok (.getfield 15, 3) ∧ 9 + 3 = 12 := ⟨by decide +kernel, rfl⟩
theorem dX7_fitsNode_12 : decode cX7_fitsNode 12 = .ok (.bipush 8, 2) ∧ 12 + 2 = 14 := ⟨by decide +kernel, rfl⟩
theorem dX7_fitsNode_14 : decode cX7_fitsNode 14 = .ok (.if_icmp .gt 7, 3) ∧ 14 + 3 = 17 ∧ ((14 : Nat) : Int) + (7) = ((21 : Nat) : Int) := ⟨by decide +kernel, rfl, rfl⟩
theorem dX7_fitsNode_17 : decode cX7_fitsNode 17 = .ok (.iconst 1, 1) ∧ 17 + 1 = 18 := ⟨by decide +kernel, rfl⟩
theorem dX7_fitsNode_18 : decode cX7_fitsNode 18 = .ok (.goto 4, 3) ∧ 18 + 3 = 21 ∧ ((18 : Nat) : Int) + (4) = ((22 : Nat) : Int) := ⟨by decide +kernel, rfl, rfl⟩
theorem dX7_fitsNode_21 : decode cX7_fitsNode 21 = .ok (.iconst 0, 1) ∧ 21 + 1 = 22 := ⟨by decide +kernel, rfl⟩
theorem dX7_fitsNode_22 : decode cX7_fitsNode 22 = .ok (.ireturn, 1) ∧ 22 + 1 = 23 := ⟨by decide +kernel, rfl⟩
theorem dX7_codeAt_0 : decode cX7_codeAt 0 = .ok (.iload_n 1, 1) ∧ 0 + 1 = 1 := ⟨by decide +kernel, rfl⟩
theorem dX7_codeAt_1 : decode cX7_codeAt 1 = .ok (.ifCond .lt 26, 3) ∧ 1 + 3 = 4 ∧ ((1 : Nat) : Int) + (26) = ((27 : Nat) : Int) := ⟨by decide +kernel, rfl, rfl⟩
theorem dX7_codeAt_4 : decode cX7_codeAt 4 = .ok (.iload_n 1, 1) ∧ 4 + 1 = 5 := ⟨by decide +kernel, rfl⟩
theorem dX7_codeAt_5 : decode cX7_codeAt 5 = .ok (.aload_n 0, 1) ∧ 5 + 1 = 6 := ⟨by decide +kernel, rfl⟩
theorem dX7_codeAt_6 : decode cX7_codeAt 6 = .ok (.getfield 15, 3) ∧ 6 + 3 = 9 := ⟨by decide +kernel, rfl⟩
theorem dX7_codeAt_9 : decode cX7_codeAt 9 = .ok (.if_icmp .ge 18, 3) ∧ 9 + 3 = 12 ∧ ((9 : Nat) : Int) + (18) = ((27 : Nat) : Int) := ⟨by decide +kernel, rfl, rfl⟩
theorem dX7_codeAt_12 : decode cX7_codeAt 12 = .ok (.iload_n 1, 1) ∧ 12 + 1 = 13 := ⟨by decide +kernel, rfl⟩
theorem dX7_codeAt_13 : decode cX7_codeAt 13 = .ok (.bipush 60, 2) ∧ 13 + 2 = 15 := ⟨by decide +kernel, rfl⟩
theorem dX7_codeAt_15 : decode cX7_codeAt 15 = .ok (.if_icmp .ge 12, 3) ∧ 15 + 3 = 18 ∧ ((15 : Nat) : Int) + (12) = ((27 : Nat) : Int) := ⟨by decide +kernel, rfl, rfl⟩
theorem dX7_codeAt_18 : decode cX7_codeAt 18 = .ok (.aload_n 0, 1) ∧ 18 + 1 = 19 := ⟨by decide +kernel, rfl⟩
theorem dX7_codeAt_19 : decode cX7_codeAt 19 = .ok (.getfield 9, 3) ∧ 19 + 3 = 22 := ⟨by decide +kernel, rfl⟩
theorem dX7_codeAt_22 : decode cX7_codeAt 22 = .ok (.iload_n 1, 1) ∧ 22 + 1 = 23 := ⟨by decide +kernel, rfl⟩
theorem dX7_codeAt_23 : decode cX7_codeAt 23 = .ok (.iaload, 1) ∧ 23 + 1 = 24 := ⟨by decide +kernel, rfl⟩
theorem dX7_codeAt_24 : decode cX7_codeAt 24 = .ok (.goto 4, 3) ∧ 24 + 3 = 27 ∧ ((24 : Nat) : Int) + (4) = ((28 : Nat) : Int) := ⟨by decide +kernel, rfl, rfl⟩
theorem dX7_codeAt_27 : decode cX7_codeAt 27 = .ok (.iconst (-1), 1) ∧ 27 + 1 = 28 := ⟨by decide +kernel, rfl⟩
theorem dX7_codeAt_28 : decode cX7_codeAt 28 = .ok (.ireturn, 1) ∧ 28 + 1 = 29 := ⟨by decide +kernel, rfl⟩
theorem dX8_init_0 : decode cX8_init 0 = .ok (.aload_n 0, 1) ∧ 0 + 1 = 1 := ⟨by decide +kernel, rfl⟩
theorem dX8_init_1 : decode cX8_init 1 = .ok (.invokespecial 1, 3) ∧ 1 + 3 = 4 := ⟨by decide +kernel, rfl⟩
theorem dX8_init_4 : decode cX8_init 4 = .ok (.aload_n 0, 1) ∧ 4 + 1 = 5 := ⟨by decide +kernel, rfl⟩
theorem dX8_init_5 : decode cX8_init 5 = .ok (.new 7, 3) ∧ 5 + 3 = 8 := ⟨by decide +kernel, rfl⟩
theorem dX8_init_8 : decode cX8_init 8 = .ok (.dup, 1) ∧ 8 + 1 = 9 := ⟨by decide +kernel, rfl⟩
theorem dX8_init_9 : decode cX8_init 9 = .ok (.invokespecial 9, 3) ∧ 9 + 3 = 12 := ⟨by decide +kernel, rfl⟩
theorem dX8_init_12 : decode cX8_init 12 = .ok (.putfield 10, 3) ∧ 12 + 3 = 15 := ⟨by decide +kernel, rfl⟩
theorem dX8_init_15 : decode cX8_init 15 = .ok (.aload_n 0, 1) ∧ 15 + 1 = 16 := ⟨by decide +kernel, rfl⟩
theorem dX8_init_16 : decode cX8_init 16 = .ok (.new 16, 3) ∧ 16 + 3 = 19 := ⟨by decide +kernel, rfl⟩
theorem dX8_init_19 : decode cX8_init 19 = .ok (.dup, 1) ∧ 19 + 1 = 20 := ⟨by decide +kernel, rfl⟩
theorem dX8_init_20 : decode cX8_init 20 = .ok (.invokespecial 18, 3) ∧ 20 + 3 = 23 := ⟨by decide +kernel, rfl⟩
theorem dX8_init_23 : decode cX8_init 23 = .ok (.putfield 19, 3) ∧ 23 + 3 = 26 := ⟨by decide +kernel, rfl⟩
theorem dX8_init_26 : decode cX8_init 26 = .ok (.aload_n 0, 1) ∧ 26 + 1 = 27 := ⟨by decide +kernel, rfl⟩
theorem dX8_init_27 : decode cX8_init 27 = .ok (.new 23, 3) ∧ 27 + 3 = 30 := ⟨by decide +kernel, rfl⟩
theorem dX8_init_30 : decode cX8_init 30 = .ok (.dup, 1) ∧ 30 + 1 = 31 := ⟨by decide +kernel, rfl⟩
theorem dX8_init_31 : decode cX8_init 31 = .ok (.invokespecial 25, 3) ∧ 31 + 3 = 34 := ⟨by decide +kernel, rfl⟩
theorem dX8_init_34 : decode cX8_init 34 = .ok (.putfield 26, 3) ∧ 34 + 3 = 37 := ⟨by decide +kernel, rfl⟩
theorem dX8_init_37 : decode cX8_init 37 = .ok (.aload_n 0, 1) ∧ 37 + 1 = 38 := ⟨by decide +kernel, rfl⟩
theorem dX8_init_38 : decode cX8_init 38 = .ok (.new 30, 3) ∧ 38 + 3 = 41 := ⟨by decide +kernel, rfl⟩
theorem dX8_init_41 : decode cX8_init 41 = .ok (.dup, 1) ∧ 41 + 1 = 42 := ⟨by decide +kernel, rfl⟩
theorem dX8_init_42 : decode cX8_init 42 = .ok (.invokespecial 32, 3) ∧ 42 + 3 = 45 := ⟨by decide +kernel, rfl⟩
theorem dX8_init_45 : decode cX8_init 45 = .ok (.putfield 33, 3) ∧ 45 + 3 = 48 := ⟨by decide +kernel, rfl⟩
theorem dX8_init_48 : decode cX8_init 48 = .ok (.aload_n 0, 1) ∧ 48 + 1 = 49 := ⟨by decide +kernel, rfl⟩
theorem dX8_init_49 : decode cX8_init 49 = .ok (.new 37, 3) ∧ 49 + 3 = 52 := ⟨by decide +kernel, rfl⟩
theorem dX8_init_52 : decode cX8_init 52 = .ok (.dup, 1) ∧ 52 + 1 = 53 := ⟨by decide +kernel, rfl⟩
theorem dX8_init_53 : decode cX8_init 53 = .ok (.invokespecial 39, 3) ∧ 53 + 3 = 56 := ⟨by decide +kernel, rfl⟩
theorem dX8_init_56 : decode cX8_init 56 = .ok (.putfield 40, 3) ∧ 56 + 3 = 59 := ⟨by decide +kernel, rfl⟩
theorem dX8_init_59 : decode cX8_init 59 = .ok (.aload_n 0, 1) ∧ 59 + 1 = 60 := ⟨by decide +kernel, rfl⟩
theorem dX8_init_60 : decode cX8_init 60 = .ok (.iconst 0, 1) ∧ 60 + 1 = 61 := ⟨by decide +kernel, rfl⟩
theorem dX8_init_61 : decode cX8_init 61 = .ok (.putfield 44, 3) ∧ 61 + 3 = 64 := ⟨by decide +kernel, rfl⟩
theorem dX8_init_64 : decode cX8_init 64 = .ok (.aload_n 0, 1) ∧ 64 + 1 = 65 := ⟨by decide +kernel, rfl⟩
theorem dX8_init_65 : decode cX8_init 65 = .ok (.new 37, 3) ∧ 65 + 3 = 68 := ⟨by decide +kernel, rfl⟩
theorem dX8_init_68 : decode cX8_init 68 = .ok (.dup, 1) ∧ 68 + 1 = 69 := ⟨by decide +kernel, rfl⟩
theorem dX8_init_69 : decode cX8_init 69 = .ok (.invokespecial 39, 3) ∧ 69 + 3 = 72 := ⟨by decide +kernel, rfl⟩
theorem dX8_init_72 : decode cX8_init 72 = .ok (.putfield 48, 3) ∧ 72 + 3 = 75 := ⟨by decide +kernel, rfl⟩
theorem dX8_init_75 : decode cX8_init 75 = .ok (.aload_n 0, 1) ∧ 75 + 1 = 76 := ⟨by decide +kernel, rfl⟩
theorem dX8_init_76 : decode cX8_init 76 = .ok (.new 37, 3) ∧ 76 + 3 = 79 := ⟨by decide +kernel, rfl⟩
theorem dX8_init_79 : decode cX8_init 79 = .ok (.dup, 1) ∧ 79 + 1 = 80 := ⟨by decide +kernel, rfl⟩
theorem dX8_init_80 : decode cX8_init 80 = .ok (.invokespecial 39, 3) ∧ 80 + 3 = 83 := ⟨by decide +kernel, rfl⟩
theorem dX8_init_83 : decode cX8_init 83 = .ok (.putfield 51, 3) ∧ 83 + 3 = 86 := ⟨by decide +kernel, rfl⟩
theorem dX8_init_86 : decode cX8_init 86 = .ok (.return_, 1) ∧ 86 + 1 = 87 := ⟨by decide +kernel, rfl⟩
theorem dX8_add_0 : decode cX8_add 0 = .ok (.aload_n 0, 1) ∧ 0 + 1 = 1 := ⟨by decide +kernel, rfl⟩
theorem dX8_add_1 : decode cX8_add 1 = .ok (.iload_n 1, 1) ∧ 1 + 1 = 2 := ⟨by decide +kernel, rfl⟩
theorem dX8_add_2 : decode cX8_add 2 = .ok (.invokevirtual 54, 3) ∧ 2 + 3 = 5 := ⟨by decide +kernel, rfl⟩
theorem dX8_add_5 : decode cX8_add 5 = .ok (.istore_n 2, 1) ∧ 5 + 1 = 6 := ⟨by decide +kernel, rfl⟩
theorem dX8_add_6 : decode cX8_add 6 = .ok (.iload_n 2, 1) ∧ 6 + 1 = 7 := ⟨by decide +kernel, rfl⟩
theorem dX8_add_7 : decode cX8_add 7 = .ok (.bipush (-2), 2) ∧ 7 + 2 = 9 := ⟨by decide +kernel, rfl⟩
theorem dX8_add_9 : decode cX8_add 9 = .ok (.if_icmp .ne 6, 3) ∧ 9 + 3 = 12 ∧ ((9 : Nat) : Int) + (6) = ((15 : Nat) : Int) := ⟨by decide +kernel, rfl, rfl⟩
theorem dX8_add_12 : decode cX8_add 12 = .ok (.bipush (-2), 2) ∧ 12 + 2 = 14 := ⟨by decide +kernel, rfl⟩
theorem dX8_add_14 : decode cX8_add 14 = .ok (.ireturn, 1) ∧ 14 + 1 = 15 := ⟨by decide +kernel, rfl⟩
theorem dX8_add_15 : decode cX8_add 15 = .ok (.aload_n 0, 1) ∧ 15 + 1 = 16 := ⟨by decide +kernel, rfl⟩
theorem dX8_add_16 : decode cX8_add 16 = .ok (.getfield 10, 3) ∧ 16 + 3 = 19 := ⟨by decide +kernel, rfl⟩
theorem dX8_add_19 : decode cX8_add 19 = .ok (.invokevirtual 58, 3) ∧ 19 + 3 = 22 := ⟨by decide +kernel, rfl⟩
theorem dX8_add_22 : decode cX8_add 22 = .ok (.ifCond .ne 6, 3) ∧ 22 + 3 = 25 ∧ ((22 : Nat) : Int) + (6) = ((28 : Nat) : Int) := ⟨by decide +kernel, rfl, rfl⟩
theorem dX8_add_25 : decode cX8_add 25 = .ok (.bipush (-3), 2) ∧ 25 + 2 = 27 := ⟨by decide +kernel, rfl⟩
theorem dX8_add_27 : decode cX8_add 27 = .ok (.ireturn, 1) ∧ 27 + 1 = 28 := ⟨by decide +kernel, rfl⟩
theorem dX8_add_28 : decode cX8_add 28 = .ok (.aload_n 0, 1) ∧ 28 + 1 = 29 := ⟨by decide +kernel, rfl⟩
theorem dX8_add_29 : decode cX8_add 29 = .ok (.getfield 48, 3) ∧ 29 + 3 = 32 := ⟨by decide +kernel, rfl⟩
theorem dX8_add_32 : decode cX8_add 32 = .ok (.getfield 62, 3) ∧ 32 + 3 = 35 := ⟨by decide +kernel, rfl⟩
theorem dX8_add_35 : decode cX8_add 35 = .ok (.getfield 66, 3) ∧ 35 + 3 = 38 := ⟨by decide +kernel, rfl⟩
theorem dX8_add_38 : decode cX8_add 38 = .ok (.bipush 40, 2) ∧ 38 + 2 = 40 := ⟨by decide +kernel, rfl⟩
theorem dX8_add_40 : decode cX8_add 40 = .ok (.if_icmp .lt 6, 3) ∧ 40 + 3 = 43 ∧ ((40 : Nat) : Int) + (6) = ((46 : Nat) : Int) := ⟨by decide +kernel, rfl, rfl⟩
theorem dX8_add_43 : decode cX8_add 43 = .ok (.bipush (-4), 2) ∧ 43 + 2 = 45 := ⟨by decide +kernel, rfl⟩
theorem dX8_add_45 : decode cX8_add 45 = .ok (.ireturn, 1) ∧ 45 + 1 = 46 := ⟨by decide +kernel, rfl⟩
theorem dX8_add_46 : decode cX8_add 46 = .ok (.aload_n 0, 1) ∧ 46 + 1 = 47 := ⟨by decide +kernel, rfl⟩
theorem dX8_add_47 : decode cX8_add 47 = .ok (.getfield 51, 3) ∧ 47 + 3 = 50 := ⟨by decide +kernel, rfl⟩
theorem dX8_add_50 : decode cX8_add 50 = .ok (.aload_n 0, 1) ∧ 50 + 1 = 51 := ⟨by decide +kernel, rfl⟩
theorem dX8_add_51 : decode cX8_add 51 = .ok (.getfield 48, 3) ∧ 51 + 3 = 54 := ⟨by decide +kernel, rfl⟩
theorem dX8_add_54 : decode cX8_add 54 = .ok (.invokevirtual 72, 3) ∧ 54 + 3 = 57 := ⟨by decide +kernel, rfl⟩
theorem dX8_add_57 : decode cX8_add 57 = .ok (.aload_n 0, 1) ∧ 57 + 1 = 58 := ⟨by decide +kernel, rfl⟩
theorem dX8_add_58 : decode cX8_add 58 = .ok (.getfield 51, 3) ∧ 58 + 3 = 61 := ⟨by decide +kernel, rfl⟩
theorem dX8_add_61 : decode cX8_add 61 = .ok (.getfield 62, 3) ∧ 61 + 3 = 64 := ⟨by decide +kernel, rfl⟩
theorem dX8_add_64 : decode cX8_add 64 = .ok (.invokevirtual 76, 3) ∧ 64 + 3 = 67 := ⟨by decide +kernel, rfl⟩
theorem dX8_add_67 : decode cX8_add 67 = .ok (.istore_n 3, 1) ∧ 67 + 1 = 68 := ⟨by decide +kernel, rfl⟩
theorem dX8_add_68 : decode cX8_add 68 = .ok (.aload_n 0, 1) ∧ 68 + 1 = 69 := ⟨by decide +kernel, rfl⟩
theorem dX8_add_69 : decode cX8_add 69 = .ok (.getfield 51, 3) ∧ 69 + 3 = 72 := ⟨by decide +kernel, rfl⟩
theorem dX8_add_72 : decode cX8_add 72 = .ok (.getfield 62, 3) ∧ 72 + 3 = 75 := ⟨by decide +kernel, rfl⟩
theorem dX8_add_75 : decode cX8_add 75 = .ok (.iload_n 3, 1) ∧ 75 + 1 = 76 := ⟨by decide +kernel, rfl⟩
theorem dX8_add_76 : decode cX8_add 76 = .ok (.aload_n 0, 1) ∧ 76 + 1 = 77 := ⟨by decide +kernel, rfl⟩
theorem dX8_add_77 : decode cX8_add 77 = .ok (.getfield 10, 3) ∧ 77 + 3 = 80 := ⟨by decide +kernel, rfl⟩
theorem dX8_add_80 : decode cX8_add 80 = .ok (.invokevirtual 80, 3) ∧ 80 + 3 = 83 := ⟨by decide +kernel, rfl⟩
theorem dX8_add_83 : decode cX8_add 83 = .ok (.aload_n 0, 1) ∧ 83 + 1 = 84 := ⟨by decide +kernel, rfl⟩
theorem dX8_add_84 : decode cX8_add 84 = .ok (.iload_n 3, 1) ∧ 84 + 1 = 85 := ⟨by decide +kernel, rfl⟩
theorem dX8_add_85 : decode cX8_add 85 = .ok (.aload_n 0, 1) ∧ 85 + 1 = 86 := ⟨by decide +kernel, rfl⟩
theorem dX8_add_86 : decode cX8_add 86 = .ok (.getfield 48, 3) ∧ 86 + 3 = 89 := ⟨by decide +kernel, rfl⟩
theorem dX8_add_89 : decode cX8_add 89 = .ok (.getfield 84, 3) ∧ 89 + 3 = 92 := ⟨by decide +kernel, rfl⟩
theorem dX8_add_92 : decode cX8_add 92 = .ok (.iload_n 2, 1) ∧ 92 + 1 = 93 := ⟨by decide +kernel, rfl⟩
theorem dX8_add_93 : decode cX8_add 93 = .ok (.invokevirtual 88, 3) ∧ 93 + 3 = 96 := ⟨by decide +kernel, rfl⟩
theorem dX8_add_96 : decode cX8_add 96 = .ok (.invokevirtual 93, 3) ∧ 96 + 3 = 99 := ⟨by decide +kernel, rfl⟩
theorem dX8_add_99 : decode cX8_add 99 = .ok (.bipush (-4), 2) ∧ 99 + 2 = 101 := ⟨by decide +kernel, rfl⟩
theorem dX8_add_101 : decode cX8_add 101 = .ok (.if_icmp .ne 6, 3) ∧ 101 + 3 = 104 ∧ ((101 : Nat) : Int) + (6) = ((107 : Nat) : Int) := ⟨by decide +kernel, rfl, rfl⟩
theorem dX8_add_104 : decode cX8_add 104 = .ok (.bipush (-4), 2) ∧ 104 + 2 = 106 := ⟨by decide +kernel, rfl⟩
theorem dX8_add_106 : decode cX8_add 106 = .ok (.ireturn, 1) ∧ 106 + 1 = 107 := ⟨by decide +kernel, rfl⟩
theorem dX8_add_107 : decode cX8_add 107 = .ok (.iload_n 3, 1) ∧ 107 + 1 = 108 := ⟨by decide +kernel, rfl⟩
theorem dX8_add_108 : decode cX8_add 108 = .ok (.ireturn, 1) ∧ 108 + 1 = 109 := ⟨by decide +kernel, rfl⟩
theorem dX8_cloneTo_0 : decode cX8_cloneTo 0 = .ok (.aload_n 0, 1) ∧ 0 + 1 = 1 := ⟨by decide +kernel, rfl⟩
theorem dX8_cloneTo_1 : decode cX8_cloneTo 1 = .ok (.iload_n 1, 1) ∧ 1 + 1 = 2 := ⟨by decide +kernel, rfl⟩
theorem dX8_cloneTo_2 : decode cX8_cloneTo 2 = .ok (.iload_n 2, 1) ∧ 2 + 1 = 3 := ⟨by decide +kernel, rfl⟩
theorem dX8_cloneTo_3 : decode cX8_cloneTo 3 = .ok (.invokevirtual 97, 3) ∧ 3 + 3 = 6 := ⟨by decide +kernel, rfl⟩
theorem dX8_cloneTo_6 : decode cX8_cloneTo 6 = .ok (.istore_n 3, 1) ∧ 6 + 1 = 7 := ⟨by decide +kernel, rfl⟩
theorem dX8_cloneTo_7 : decode cX8_cloneTo 7 = .ok (.iload_n 3, 1) ∧ 7 + 1 = 8 := ⟨by decide +kernel, rfl⟩
theorem dX8_cloneTo_8 : decode cX8_cloneTo 8 = .ok (.ifCond .eq 5, 3) ∧ 8 + 3 = 11 ∧ ((8 : Nat) : Int) + (5) = ((13 : Nat) : Int) := ⟨by decide +kernel, rfl, rfl⟩
theorem dX8_cloneTo_11 : decode cX8_cloneTo 11 = .ok (.iload_n 3, 1) ∧ 11 + 1 = 12 := ⟨by decide +kernel, rfl⟩
theorem dX8_cloneTo_12 : decode cX8_cloneTo 12 = .ok (.ireturn, 1) ∧ 12 + 1 = 13 := ⟨by decide +kernel, rfl⟩
theorem dX8_cloneTo_13 : decode cX8_cloneTo 13 = .ok (.aload_n 0, 1) ∧ 13 + 1 = 14 := ⟨by decide +kernel, rfl⟩
theorem dX8_cloneTo_14 : decode cX8_cloneTo 14 = .ok (.getfield 51, 3) ∧ 14 + 3 = 17 := ⟨by decide +kernel, rfl⟩
theorem dX8_cloneTo_17 : decode cX8_cloneTo 17 = .ok (.aload_n 0, 1) ∧ 17 + 1 = 18 := ⟨by decide +kernel, rfl⟩
theorem dX8_cloneTo_18 : decode cX8_cloneTo 18 = .ok (.getfield 48, 3) ∧ 18 + 3 = 21 := ⟨by decide +kernel, rfl⟩
theorem dX8_cloneTo_21 : decode cX8_cloneTo 21 = .ok (.invokevirtual 72, 3) ∧ 21 + 3 = 24 := ⟨by decide +kernel, rfl⟩
theorem dX8_cloneTo_24 : decode cX8_cloneTo 24 = .ok (.aload_n 0, 1) ∧ 24 + 1 = 25 := ⟨by decide +kernel, rfl⟩
theorem dX8_cloneTo_25 : decode cX8_cloneTo 25 = .ok (.aload_n 0, 1) ∧ 25 + 1 = 26 := ⟨by decide +kernel, rfl⟩
theorem dX8_cloneTo_26 : decode cX8_cloneTo 26 = .ok (.iload_n 1, 1) ∧ 26 + 1 = 27 := ⟨by decide +kernel, rfl⟩
theorem dX8_cloneTo_27 : decode cX8_cloneTo 27 = .ok (.invokevirtual 100, 3) ∧ 27 + 3 = 30 := ⟨by decide +kernel, rfl⟩
theorem dX8_cloneTo_30 : decode cX8_cloneTo 30 = .ok (.aload_n 0, 1) ∧ 30 + 1 = 31 := ⟨by decide +kernel, rfl⟩
theorem dX8_cloneTo_31 : decode cX8_cloneTo 31 = .ok (.iload_n 2, 1) ∧ 31 + 1 = 32 := ⟨by decide +kernel, rfl⟩
theorem dX8_cloneTo_32 : decode cX8_cloneTo 32 = .ok (.invokevirtual 100, 3) ∧ 32 + 3 = 35 := ⟨by decide +kernel, rfl⟩
theorem dX8_cloneTo_35 : decode cX8_cloneTo 35 = .ok (.invokevirtual 93, 3) ∧ 35 + 3 = 38 := ⟨by decide +kernel, rfl⟩
theorem dX8_cloneTo_38 : decode cX8_cloneTo 38 = .ok (.ireturn, 1) ∧ 38 + 1 = 39 := ⟨by decide +kernel, rfl⟩
theorem dX8_move_0 : decode cX8_move 0 = .ok (.aload_n 0, 1) ∧ 0 + 1 = 1 := ⟨by decide +kernel, rfl⟩
theorem dX8_move_1 : decode cX8_move 1 = .ok (.iload_n 1, 1) ∧ 1 + 1 = 2 := ⟨by decide +kernel, rfl⟩
theorem dX8_move_2 : decode cX8_move 2 = .ok (.iload_n 2, 1) ∧ 2 + 1 = 3 := ⟨by decide +kernel, rfl⟩
theorem dX8_move_3 : decode cX8_move 3 = .ok (.invokevirtual 97, 3) ∧ 3 + 3 = 6 := ⟨by decide +kernel, rfl⟩
theorem dX8_move_6 : decode cX8_move 6 = .ok (.istore_n 3, 1) ∧ 6 + 1 = 7 := ⟨by decide +kernel, rfl⟩
theorem dX8_move_7 : decode cX8_move 7 = .ok (.iload_n 3, 1) ∧ 7 + 1 = 8 := ⟨by decide +kernel, rfl⟩
theorem dX8_move_8 : decode cX8_move 8 = .ok (.ifCond .eq 5, 3) ∧ 8 + 3 = 11 ∧ ((8 : Nat) : Int) + (5) = ((13 : Nat) : Int) := ⟨by decide +kernel, rfl, rfl⟩
theorem dX8_move_11 : decode cX8_move 11 = .ok (.iload_n 3, 1) ∧ 11 + 1 = 12 := ⟨by decide +kernel, rfl⟩
theorem dX8_move_12 : decode cX8_move 12 = .ok (.ireturn, 1) ∧ 12 + 1 = 13 := ⟨by decide +kernel, rfl⟩
theorem dX8_move_13 : decode cX8_move 13 = .ok (.aload_n 0, 1) ∧ 13 + 1 = 14 := ⟨by decide +kernel, rfl⟩
theorem dX8_move_14 : decode cX8_move 14 = .ok (.iload_n 1, 1) ∧ 14 + 1 = 15 := ⟨by decide +kernel, rfl⟩
theorem dX8_move_15 : decode cX8_move 15 = .ok (.invokevirtual 100, 3) ∧ 15 + 3 = 18 := ⟨by decide +kernel, rfl⟩
theorem dX8_move_18 : decode cX8_move 18 = .ok (.istore 4, 2) ∧ 18 + 2 = 20 := ⟨by decide +kernel, rfl⟩
theorem dX8_move_20 : decode cX8_move 20 = .ok (.aload_n 0, 1) ∧ 20 + 1 = 21 := ⟨by decide +kernel, rfl⟩
theorem dX8_move_21 : decode cX8_move 21 = .ok (.getfield 51, 3) ∧ 21 + 3 = 24 := ⟨by decide +kernel, rfl⟩
theorem dX8_move_24 : decode cX8_move 24 = .ok (.aload_n 0, 1) ∧ 24 + 1 = 25 := ⟨by decide +kernel, rfl⟩
theorem dX8_move_25 : decode cX8_move 25 = .ok (.getfield 48, 3) ∧ 25 + 3 = 28 := ⟨by decide +kernel, rfl⟩
theorem dX8_move_28 : decode cX8_move 28 = .ok (.invokevirtual 72, 3) ∧ 28 + 3 = 31 := ⟨by decide +kernel, rfl⟩
theorem dX8_move_31 : decode cX8_move 31 = .ok (.aload_n 0, 1) ∧ 31 + 1 = 32 := ⟨by decide +kernel, rfl⟩
theorem dX8_move_32 : decode cX8_move 32 = .ok (.getfield 51, 3) ∧ 32 + 3 = 35 := ⟨by decide +kernel, rfl⟩
theorem dX8_move_35 : decode cX8_move 35 = .ok (.getfield 103, 3) ∧ 35 + 3 = 38 := ⟨by decide +kernel, rfl⟩
theorem dX8_move_38 : decode cX8_move 38 = .ok (.aload_n 0, 1) ∧ 38 + 1 = 39 := ⟨by decide +kernel, rfl⟩
theorem dX8_move_39 : decode cX8_move 39 = .ok (.aload_n 0, 1) ∧ 39 + 1 = 40 := ⟨by decide +kernel, rfl⟩
theorem dX8_move_40 : decode cX8_move 40 = .ok (.getfield 26, 3) ∧ 40 + 3 = 43 := ⟨by decide +kernel, rfl⟩
theorem dX8_move_43 : decode cX8_move 43 = .ok (.iload_n 1, 1) ∧ 43 + 1 = 44 := ⟨by decide +kernel, rfl⟩
theorem dX8_move_44 : decode cX8_move 44 = .ok (.invokevirtual 107, 3) ∧ 44 + 3 = 47 := ⟨by decide +kernel, rfl⟩
theorem dX8_move_47 : decode cX8_move 47 = .ok (.invokevirtual 110, 3) ∧ 47 + 3 = 50 := ⟨by decide +kernel, rfl⟩
theorem dX8_move_50 : decode cX8_move 50 = .ok (.iload 4, 2) ∧ 50 + 2 = 52 := ⟨by decide +kernel, rfl⟩
theorem dX8_move_52 : decode cX8_move 52 = .ok (.invokevirtual 113, 3) ∧ 52 + 3 = 55 := ⟨by decide +kernel, rfl⟩
theorem dX8_move_55 : decode cX8_move 55 = .ok (.aload_n 0, 1) ∧ 55 + 1 = 56 := ⟨by decide +kernel, rfl⟩
theorem dX8_move_56 : decode cX8_move 56 = .ok (.iload 4, 2) ∧ 56 + 2 = 58 := ⟨by decide +kernel, rfl⟩
theorem dX8_move_58 : decode cX8_move 58 = .ok (.aload_n 0, 1) ∧ 58 + 1 = 59 := ⟨by decide +kernel, rfl⟩
theorem dX8_move_59 : decode cX8_move 59 = .ok (.iload_n 2, 1) ∧ 59 + 1 = 60 := ⟨by decide +kernel, rfl⟩
theorem dX8_move_60 : decode cX8_move 60 = .ok (.invokevirtual 100, 3) ∧ 60 + 3 = 63 := ⟨by decide +kernel, rfl⟩
theorem dX8_move_63 : decode cX8_move 63 = .ok (.invokevirtual 93, 3) ∧ 63 + 3 = 66 := ⟨by decide +kernel, rfl⟩
theorem dX8_move_66 : decode cX8_move 66 = .ok (.ireturn, 1) ∧ 66 + 1 = 67 := ⟨by decide +kernel, rfl⟩
theorem dX8_cut_0 : decode cX8_cut 0 = .ok (.aload_n 0, 1) ∧ 0 + 1 = 1 := ⟨by decide +kernel, rfl⟩
theorem dX8_cut_1 : decode cX8_cut 1 = .ok (.getfield 26, 3) ∧ 1 + 3 = 4 := ⟨by decide +kernel, rfl⟩
theorem dX8_cut_4 : decode cX8_cut 4 = .ok (.iload_n 1, 1) ∧ 4 + 1 = 5 := ⟨by decide +kernel, rfl⟩
theorem dX8_cut_5 : decode cX8_cut 5 = .ok (.invokevirtual 107, 3) ∧ 5 + 3 = 8 := ⟨by decide +kernel, rfl⟩
theorem dX8_cut_8 : decode cX8_cut 8 = .ok (.istore_n 2, 1) ∧ 8 + 1 = 9 := ⟨by decide +kernel, rfl⟩
theorem dX8_cut_9 : decode cX8_cut 9 = .ok (.iload_n 2, 1) ∧ 9 + 1 = 10 := ⟨by decide +kernel, rfl⟩
theorem dX8_cut_10 : decode cX8_cut 10 = .ok (.bipush (-2), 2) ∧ 10 + 2 = 12 := ⟨by decide +kernel, rfl⟩
theorem dX8_cut_12 : decode cX8_cut 12 = .ok (.if_icmp .ne 6, 3) ∧ 12 + 3 = 15 ∧ ((12 : Nat) : Int) + (6) = ((18 : Nat) : Int) := ⟨by decide +kernel, rfl, rfl⟩
theorem dX8_cut_15 : decode cX8_cut 15 = .ok (.bipush (-2), 2) ∧ 15 + 2 = 17 := ⟨by decide +kernel, rfl⟩
theorem dX8_cut_17 : decode cX8_cut 17 = .ok (.ireturn, 1) ∧ 17 + 1 = 18 := ⟨by decide +kernel, rfl⟩
theorem dX8_cut_18 : decode cX8_cut 18 = .ok (.aload_n 0, 1) ∧ 18 + 1 = 19 := ⟨by decide +kernel, rfl⟩
theorem dX8_cut_19 : decode cX8_cut 19 = .ok (.getfield 51, 3) ∧ 19 + 3 = 22 := ⟨by decide +kernel, rfl⟩
theorem dX8_cut_22 : decode cX8_cut 22 = .ok (.aload_n 0, 1) ∧ 22 + 1 = 23 := ⟨by decide +kernel, rfl⟩
theorem dX8_cut_23 : decode cX8_cut 23 = .ok (.getfield 48, 3) ∧ 23 + 3 = 26 := ⟨by decide +kernel, rfl⟩
theorem dX8_cut_26 : decode cX8_cut 26 = .ok (.invokevirtual 72, 3) ∧ 26 + 3 = 29 := ⟨by decide +kernel, rfl⟩
theorem dX8_cut_29 : decode cX8_cut 29 = .ok (.aload_n 0, 1) ∧ 29 + 1 = 30 := ⟨by decide +kernel, rfl⟩
theorem dX8_cut_30 : decode cX8_cut 30 = .ok (.getfield 51, 3) ∧ 30 + 3 = 33 := ⟨by decide +kernel, rfl⟩
theorem dX8_cut_33 : decode cX8_cut 33 = .ok (.getfield 103, 3) ∧ 33 + 3 = 36 := ⟨by decide +kernel, rfl⟩
theorem dX8_cut_36 : decode cX8_cut 36 = .ok (.aload_n 0, 1) ∧ 36 + 1 = 37 := ⟨by decide +kernel, rfl⟩
theorem dX8_cut_37 : decode cX8_cut 37 = .ok (.iload_n 2, 1) ∧ 37 + 1 = 38 := ⟨by decide +kernel, rfl⟩
theorem dX8_cut_38 : decode cX8_cut 38 = .ok (.invokevirtual 110, 3) ∧ 38 + 3 = 41 := ⟨by decide +kernel, rfl⟩
theorem dX8_cut_41 : decode cX8_cut 41 = .ok (.aload_n 0, 1) ∧ 41 + 1 = 42 := ⟨by decide +kernel, rfl⟩
theorem dX8_cut_42 : decode cX8_cut 42 = .ok (.getfield 48, 3) ∧ 42 + 3 = 45 := ⟨by decide +kernel, rfl⟩
theorem dX8_cut_45 : decode cX8_cut 45 = .ok (.getfield 84, 3) ∧ 45 + 3 = 48 := ⟨by decide +kernel, rfl⟩
theorem dX8_cut_48 : decode cX8_cut 48 = .ok (.iload_n 2, 1) ∧ 48 + 1 = 49 := ⟨by decide +kernel, rfl⟩
theorem dX8_cut_49 : decode cX8_cut 49 = .ok (.invokevirtual 88, 3) ∧ 49 + 3 = 52 := ⟨by decide +kernel, rfl⟩
theorem dX8_cut_52 : decode cX8_cut 52 = .ok (.invokevirtual 113, 3) ∧ 52 + 3 = 55 := ⟨by decide +kernel, rfl⟩
theorem dX8_cut_55 : decode cX8_cut 55 = .ok (.aload_n 0, 1) ∧ 55 + 1 = 56 := ⟨by decide +kernel, rfl⟩
theorem dX8_cut_56 : decode cX8_cut 56 = .ok (.getfield 51, 3) ∧ 56 + 3 = 59 := ⟨by decide +kernel, rfl⟩
theorem dX8_cut_59 : decode cX8_cut 59 = .ok (.aload_n 0, 1) ∧ 59 + 1 = 60 := ⟨by decide +kernel, rfl⟩
theorem dX8_cut_60 : decode cX8_cut 60 = .ok (.getfield 48, 3) ∧ 60 + 3 = 63 := ⟨by decide +kernel, rfl⟩
theorem dX8_cut_63 : decode cX8_cut 63 = .ok (.getfield 84, 3) ∧ 63 + 3 = 66 := ⟨by decide +kernel, rfl⟩
theorem dX8_cut_66 : decode cX8_cut 66 = .ok (.invokevirtual 119, 3) ∧ 66 + 3 = 69 := ⟨by decide +kernel, rfl⟩
theorem dX8_cut_69 : decode cX8_cut 69 = .ok (.pop, 1) ∧ 69 + 1 = 70 := ⟨by decide +kernel, rfl⟩
theorem dX8_cut_70 : decode cX8_cut 70 = .ok (.aload_n 0, 1) ∧ 70 + 1 = 71 := ⟨by decide +kernel, rfl⟩
theorem dX8_cut_71 : decode cX8_cut 71 = .ok (.getfield 51, 3) ∧ 71 + 3 = 74 := ⟨by decide +kernel, rfl⟩
theorem dX8_cut_74 : decode cX8_cut 74 = .ok (.aload_n 0, 1) ∧ 74 + 1 = 75 := ⟨by decide +kernel, rfl⟩
theorem dX8_cut_75 : decode cX8_cut 75 = .ok (.getfield 48, 3) ∧ 75 + 3 = 78 := ⟨by decide +kernel, rfl⟩
theorem dX8_cut_78 : decode cX8_cut 78 = .ok (.getfield 84, 3) ∧ 78 + 3 = 81 := ⟨by decide +kernel, rfl⟩
theorem dX8_cut_81 : decode cX8_cut 81 = .ok (.invokevirtual 123, 3) ∧ 81 + 3 = 84 := ⟨by decide +kernel, rfl⟩
theorem dX8_cut_84 : decode cX8_cut 84 = .ok (.invokevirtual 127, 3) ∧ 84 + 3 = 87 := ⟨by decide +kernel, rfl⟩
theorem dX8_cut_87 : decode cX8_cut 87 = .ok (.istore_n 3, 1) ∧ 87 + 1 = 88 := ⟨by decide +kernel, rfl⟩
theorem dX8_cut_88 : decode cX8_cut 88 = .ok (.aload_n 0, 1) ∧ 88 + 1 = 89 := ⟨by decide +kernel, rfl⟩
theorem dX8_cut_89 : decode cX8_cut 89 = .ok (.invokevirtual 131, 3) ∧ 89 + 3 = 92 := ⟨by decide +kernel, rfl⟩
theorem dX8_cut_92 : decode cX8_cut 92 = .ok (.iload_n 3, 1) ∧ 92 + 1 = 93 := ⟨by decide +kernel, rfl⟩
theorem dX8_cut_93 : decode cX8_cut 93 = .ok (.ireturn, 1) ∧ 93 + 1 = 94 := ⟨by decide +kernel, rfl⟩
theorem dX8_shift_0 : decode cX8_shift 0 = .ok (.aload_n 0, 1) ∧ 0 + 1 = 1 := ⟨by decide +kernel, rfl⟩
theorem dX8_shift_1 : decode cX8_shift 1 = .ok (.getfield 26, 3) ∧ 1 + 3 = 4 := ⟨by decide +kernel, rfl⟩
theorem dX8_shift_4 : decode cX8_shift 4 = .ok (.iload_n 1, 1) ∧ 4 + 1 = 5 := ⟨by decide +kernel, rfl⟩
theorem dX8_shift_5 : decode cX8_shift 5 = .ok (.invokevirtual 107, 3) ∧ 5 + 3 = 8 := ⟨by decide +kernel, rfl⟩
theorem dX8_shift_8 : decode cX8_shift 8 = .ok (.istore_n 3, 1) ∧ 8 + 1 = 9 := ⟨by decide +kernel, rfl⟩
theorem dX8_shift_9 : decode cX8_shift 9 = .ok (.iload_n 3, 1) ∧ 9 + 1 = 10 := ⟨by decide +kernel, rfl⟩
theorem dX8_shift_10 : decode cX8_shift 10 = .ok (.bipush (-2), 2) ∧ 10 + 2 = 12 := ⟨by decide +kernel, rfl⟩
theorem dX8_shift_12 : decode cX8_shift 12 = .ok (.if_icmp .ne 6, 3) ∧ 12 + 3 = 15 ∧ ((12 : Nat) : Int) + (6) = ((18 : Nat) : Int) := ⟨by decide +kernel, rfl, rfl⟩
theorem dX8_shift_15 : decode cX8_shift 15 = .ok (.bipush (-2), 2) ∧ 15 + 2 = 17 := ⟨by decide +kernel, rfl⟩
theorem dX8_shift_17 : decode cX8_shift 17 = .ok (.ireturn, 1) ∧ 17 + 1 = 18 := ⟨by decide +kernel, rfl⟩
theorem dX8_shift_18 : decode cX8_shift 18 = .ok (.iload_n 2, 1) ∧ 18 + 1 = 19 := ⟨by decide +kernel, rfl⟩
theorem dX8_shift_19 : decode cX8_shift 19 = .ok (.bipush (-39), 2) ∧ 19 + 2 = 21 := ⟨by decide +kernel, rfl⟩
theorem dX8_shift_21 : decode cX8_shift 21 = .ok (.if_icmp .lt 13, 3) ∧ 21 + 3 = 24 ∧ ((21 : Nat) : Int) + (13) = ((34 : Nat) : Int) := ⟨by decide +kernel, rfl, rfl⟩
theorem dX8_shift_24 : decode cX8_shift 24 = .ok (.iload_n 2, 1) ∧ 24 + 1 = 25 := ⟨by decide +kernel, rfl⟩
theorem dX8_shift_25 : decode cX8_shift 25 = .ok (.bipush 39, 2) ∧ 25 + 2 = 27 := ⟨by decide +kernel, rfl⟩
theorem dX8_shift_27 : decode cX8_shift 27 = .ok (.if_icmp .gt 7, 3) ∧ 27 + 3 = 30 ∧ ((27 : Nat) : Int) + (7) = ((34 : Nat) : Int) := ⟨by decide +kernel, rfl, rfl⟩
theorem dX8_shift_30 : decode cX8_shift 30 = .ok (.iload_n 2, 1) ∧ 30 + 1 = 31 := ⟨by decide +kernel, rfl⟩
theorem dX8_shift_31 : decode cX8_shift 31 = .ok (.ifCond .ne 6, 3) ∧ 31 + 3 = 34 ∧ ((31 : Nat) : Int) + (6) = ((37 : Nat) : Int) := ⟨by decide +kernel, rfl, rfl⟩
theorem dX8_shift_34 : decode cX8_shift 34 = .ok (.bipush (-3), 2) ∧ 34 + 2 = 36 := ⟨by decide +kernel, rfl⟩
theorem dX8_shift_36 : decode cX8_shift 36 = .ok (.ireturn, 1) ∧ 36 + 1 = 37 := ⟨by decide +kernel, rfl⟩
theorem dX8_shift_37 : decode cX8_shift 37 = .ok (.aload_n 0, 1) ∧ 37 + 1 = 38 := ⟨by decide +kernel, rfl⟩
theorem dX8_shift_38 : decode cX8_shift 38 = .ok (.getfield 48, 3) ∧ 38 + 3 = 41 := ⟨by decide +kernel, rfl⟩
theorem dX8_shift_41 : decode cX8_shift 41 = .ok (.getfield 84, 3) ∧ 41 + 3 = 44 := ⟨by decide +kernel, rfl⟩
theorem dX8_shift_44 : decode cX8_shift 44 = .ok (.iload_n 3, 1) ∧ 44 + 1 = 45 := ⟨by decide +kernel, rfl⟩
theorem dX8_shift_45 : decode cX8_shift 45 = .ok (.invokevirtual 88, 3) ∧ 45 + 3 = 48 := ⟨by decide +kernel, rfl⟩
theorem dX8_shift_48 : decode cX8_shift 48 = .ok (.istore 4, 2) ∧ 48 + 2 = 50 := ⟨by decide +kernel, rfl⟩
theorem dX8_shift_50 : decode cX8_shift 50 = .ok (.aload_n 0, 1) ∧ 50 + 1 = 51 := ⟨by decide +kernel, rfl⟩
theorem dX8_shift_51 : decode cX8_shift 51 = .ok (.iload_n 3, 1) ∧ 51 + 1 = 52 := ⟨by decide +kernel, rfl⟩
theorem dX8_shift_52 : decode cX8_shift 52 = .ok (.invokevirtual 110, 3) ∧ 52 + 3 = 55 := ⟨by decide +kernel, rfl⟩
theorem dX8_shift_55 : decode cX8_shift 55 = .ok (.istore 5, 2) ∧ 55 + 2 = 57 := ⟨by decide +kernel, rfl⟩
theorem dX8_shift_57 : decode cX8_shift 57 = .ok (.aload_n 0, 1) ∧ 57 + 1 = 58 := ⟨by decide +kernel, rfl⟩
theorem dX8_shift_58 : decode cX8_shift 58 = .ok (.getfield 48, 3) ∧ 58 + 3 = 61 := ⟨by decide +kernel, rfl⟩
theorem dX8_shift_61 : decode cX8_shift 61 = .ok (.getfield 103, 3) ∧ 61 + 3 = 64 := ⟨by decide +kernel, rfl⟩
theorem dX8_shift_64 : decode cX8_shift 64 = .ok (.iload 5, 2) ∧ 64 + 2 = 66 := ⟨by decide +kernel, rfl⟩
theorem dX8_shift_66 : decode cX8_shift 66 = .ok (.iload 4, 2) ∧ 66 + 2 = 68 := ⟨by decide +kernel, rfl⟩
theorem dX8_shift_68 : decode cX8_shift 68 = .ok (.invokevirtual 134, 3) ∧ 68 + 3 = 71 := ⟨by decide +kernel, rfl⟩
theorem dX8_shift_71 : decode cX8_shift 71 = .ok (.iload_n 2, 1) ∧ 71 + 1 = 72 := ⟨by decide +kernel, rfl⟩
theorem dX8_shift_72 : decode cX8_shift 72 = .ok (.iadd, 1) ∧ 72 + 1 = 73 := ⟨by decide +kernel, rfl⟩
theorem dX8_shift_73 : decode cX8_shift 73 = .ok (.istore 6, 2) ∧ 73 + 2 = 75 := ⟨by decide +kernel, rfl⟩
theorem dX8_shift_75 : decode cX8_shift 75 = .ok (.iload 6, 2) ∧ 75 + 2 = 77 := ⟨by decide +kernel, rfl⟩
theorem dX8_shift_77 : decode cX8_shift 77 = .ok (.ifCond .lt 20, 3) ∧ 77 + 3 = 80 ∧ ((77 : Nat) : Int) + (20) = ((97 : Nat) : Int) := ⟨by decide +kernel, rfl, rfl⟩
theorem dX8_shift_80 : decode cX8_shift 80 = .ok (.iload 6, 2) ∧ 80 + 2 = 82 := ⟨by decide +kernel, rfl⟩
theorem dX8_shift_82 : decode cX8_shift 82 = .ok (.aload_n 0, 1) ∧ 82 + 1 = 83 := ⟨by decide +kernel, rfl⟩
theorem dX8_shift_83 : decode cX8_shift 83 = .ok (.getfield 48, 3) ∧ 83 + 3 = 86 := ⟨by decide +kernel, rfl⟩
theorem dX8_shift_86 : decode cX8_shift 86 = .ok (.getfield 103, 3) ∧ 86 + 3 = 89 := ⟨by decide +kernel, rfl⟩
theorem dX8_shift_89 : decode cX8_shift 89 = .ok (.iload 5, 2) ∧ 89 + 2 = 91 := ⟨by decide +kernel, rfl⟩
theorem dX8_shift_91 : decode cX8_shift 91 = .ok (.invokevirtual 137, 3) ∧ 91 + 3 = 94 := ⟨by decide +kernel, rfl⟩
theorem dX8_shift_94 : decode cX8_shift 94 = .ok (.if_icmp .lt 6, 3) ∧ 94 + 3 = 97 ∧ ((94 : Nat) : Int) + (6) = ((100 : Nat) : Int) := ⟨by decide +kernel, rfl, rfl⟩
theorem dX8_shift_97 : decode cX8_shift 97 = .ok (.bipush (-5), 2) ∧ 97 + 2 = 99 := ⟨by decide +kernel, rfl⟩
theorem dX8_shift_99 : decode cX8_shift 99 = .ok (.ireturn, 1) ∧ 99 + 1 = 100 := ⟨by decide +kernel, rfl⟩
theorem dX8_shift_100 : decode cX8_shift 100 = .ok (.aload_n 0, 1) ∧ 100 + 1 = 101 := ⟨by decide +kernel, rfl⟩
theorem dX8_shift_101 : decode cX8_shift 101 = .ok (.getfield 51, 3) ∧ 101 + 3 = 104 := ⟨by decide +kernel, rfl⟩
theorem dX8_shift_104 : decode cX8_shift 104 = .ok (.aload_n 0, 1) ∧ 104 + 1 = 105 := ⟨by decide +kernel, rfl⟩
theorem dX8_shift_105 : decode cX8_shift 105 = .ok (.getfield 48, 3) ∧ 105 + 3 = 108 := ⟨by decide +kernel, rfl⟩
theorem dX8_shift_108 : decode cX8_shift 108 = .ok (.invokevirtual 72, 3) ∧ 108 + 3 = 111 := ⟨by decide +kernel, rfl⟩
theorem dX8_shift_111 : decode cX8_shift 111 = .ok (.aload_n 0, 1) ∧ 111 + 1 = 112 := ⟨by decide +kernel, rfl⟩
theorem dX8_shift_112 : decode cX8_shift 112 = .ok (.getfield 51, 3) ∧ 112 + 3 = 115 := ⟨by decide +kernel, rfl⟩
theorem dX8_shift_115 : decode cX8_shift 115 = .ok (.getfield 103, 3) ∧ 115 + 3 = 118 := ⟨by decide +kernel, rfl⟩
theorem dX8_shift_118 : decode cX8_shift 118 = .ok (.iload 5, 2) ∧ 118 + 2 = 120 := ⟨by decide +kernel, rfl⟩
theorem dX8_shift_120 : decode cX8_shift 120 = .ok (.iload 4, 2) ∧ 120 + 2 = 122 := ⟨by decide +kernel, rfl⟩
theorem dX8_shift_122 : decode cX8_shift 122 = .ok (.iload_n 2, 1) ∧ 122 + 1 = 123 := ⟨by decide +kernel, rfl⟩
theorem dX8_shift_123 : decode cX8_shift 123 = .ok (.invokevirtual 140, 3) ∧ 123 + 3 = 126 := ⟨by decide +kernel, rfl⟩
theorem dX8_shift_126 : decode cX8_shift 126 = .ok (.aload_n 0, 1) ∧ 126 + 1 = 127 := ⟨by decide +kernel, rfl⟩
theorem dX8_shift_127 : decode cX8_shift 127 = .ok (.getfield 51, 3) ∧ 127 + 3 = 130 := ⟨by decide +kernel, rfl⟩
theorem dX8_shift_130 : decode cX8_shift 130 = .ok (.aload_n 0, 1) ∧ 130 + 1 = 131 := ⟨by decide +kernel, rfl⟩
theorem dX8_shift_131 : decode cX8_shift 131 = .ok (.getfield 48, 3) ∧ 131 + 3 = 134 := ⟨by decide +kernel, rfl⟩
theorem dX8_shift_134 : decode cX8_shift 134 = .ok (.getfield 84, 3) ∧ 134 + 3 = 137 := ⟨by decide +kernel, rfl⟩
theorem dX8_shift_137 : decode cX8_shift 137 = .ok (.invokevirtual 119, 3) ∧ 137 + 3 = 140 := ⟨by decide +kernel, rfl⟩
theorem dX8_shift_140 : decode cX8_shift 140 = .ok (.pop, 1) ∧ 140 + 1 = 141 := ⟨by decide +kernel, rfl⟩
theorem dX8_shift_141 : decode cX8_shift 141 = .ok (.aload_n 0, 1) ∧ 141 + 1 = 142 := ⟨by decide +kernel, rfl⟩
theorem dX8_shift_142 : decode cX8_shift 142 = .ok (.invokevirtual 131, 3) ∧ 142 + 3 = 145 := ⟨by decide +kernel, rfl⟩
theorem dX8_shift_145 : decode cX8_shift 145 = .ok (.iload 6, 2) ∧ 145 + 2 = 147 := ⟨by decide +kernel, rfl⟩
theorem dX8_shift_147 : decode cX8_shift 147 = .ok (.ireturn, 1) ∧ 147 + 1 = 148 := ⟨by decide +kernel, rfl⟩
theorem dX8_edit_0 : decode cX8_edit 0 = .ok (.aload_n 0, 1) ∧ 0 + 1 = 1 := ⟨by decide +kernel, rfl⟩
theorem dX8_edit_1 : decode cX8_edit 1 = .ok (.getfield 26, 3) ∧ 1 + 3 = 4 := ⟨by decide +kernel, rfl⟩
theorem dX8_edit_4 : decode cX8_edit 4 = .ok (.iload_n 1, 1) ∧ 4 + 1 = 5 := ⟨by decide +kernel, rfl⟩
theorem dX8_edit_5 : decode cX8_edit 5 = .ok (.invokevirtual 107, 3) ∧ 5 + 3 = 8 := ⟨by decide +kernel, rfl⟩
theorem dX8_edit_8 : decode cX8_edit 8 = .ok (.istore_n 2, 1) ∧ 8 + 1 = 9 := ⟨by decide +kernel, rfl⟩
theorem dX8_edit_9 : decode cX8_edit 9 = .ok (.iload_n 2, 1) ∧ 9 + 1 = 10 := ⟨by decide +kernel, rfl⟩
theorem dX8_edit_10 : decode cX8_edit 10 = .ok (.bipush (-2), 2) ∧ 10 + 2 = 12 := ⟨by decide +kernel, rfl⟩
theorem dX8_edit_12 : decode cX8_edit 12 = .ok (.if_icmp .ne 6, 3) ∧ 12 + 3 = 15 ∧ ((12 : Nat) : Int) + (6) = ((18 : Nat) : Int) := ⟨by decide +kernel, rfl, rfl⟩
theorem dX8_edit_15 : decode cX8_edit 15 = .ok (.bipush (-2), 2) ∧ 15 + 2 = 17 := ⟨by decide +kernel, rfl⟩
theorem dX8_edit_17 : decode cX8_edit 17 = .ok (.ireturn, 1) ∧ 17 + 1 = 18 := ⟨by decide +kernel, rfl⟩
theorem dX8_edit_18 : decode cX8_edit 18 = .ok (.aload_n 0, 1) ∧ 18 + 1 = 19 := ⟨by decide +kernel, rfl⟩
theorem dX8_edit_19 : decode cX8_edit 19 = .ok (.getfield 10, 3) ∧ 19 + 3 = 22 := ⟨by decide +kernel, rfl⟩
theorem dX8_edit_22 : decode cX8_edit 22 = .ok (.invokevirtual 58, 3) ∧ 22 + 3 = 25 := ⟨by decide +kernel, rfl⟩
theorem dX8_edit_25 : decode cX8_edit 25 = .ok (.ifCond .ne 6, 3) ∧ 25 + 3 = 28 ∧ ((25 : Nat) : Int) + (6) = ((31 : Nat) : Int) := ⟨by decide +kernel, rfl, rfl⟩
theorem dX8_edit_28 : decode cX8_edit 28 = .ok (.bipush (-3), 2) ∧ 28 + 2 = 30 := ⟨by decide +kernel, rfl⟩
theorem dX8_edit_30 : decode cX8_edit 30 = .ok (.ireturn, 1) ∧ 30 + 1 = 31 := ⟨by decide +kernel, rfl⟩
theorem dX8_edit_31 : decode cX8_edit 31 = .ok (.aload_n 0, 1) ∧ 31 + 1 = 32 := ⟨by decide +kernel, rfl⟩
theorem dX8_edit_32 : decode cX8_edit 32 = .ok (.getfield 48, 3) ∧ 32 + 3 = 35 := ⟨by decide +kernel, rfl⟩
theorem dX8_edit_35 : decode cX8_edit 35 = .ok (.getfield 84, 3) ∧ 35 + 3 = 38 := ⟨by decide +kernel, rfl⟩
theorem dX8_edit_38 : decode cX8_edit 38 = .ok (.iload_n 2, 1) ∧ 38 + 1 = 39 := ⟨by decide +kernel, rfl⟩
theorem dX8_edit_39 : decode cX8_edit 39 = .ok (.invokevirtual 88, 3) ∧ 39 + 3 = 42 := ⟨by decide +kernel, rfl⟩
theorem dX8_edit_42 : decode cX8_edit 42 = .ok (.istore_n 3, 1) ∧ 42 + 1 = 43 := ⟨by decide +kernel, rfl⟩
theorem dX8_edit_43 : decode cX8_edit 43 = .ok (.aload_n 0, 1) ∧ 43 + 1 = 44 := ⟨by decide +kernel, rfl⟩
theorem dX8_edit_44 : decode cX8_edit 44 = .ok (.getfield 48, 3) ∧ 44 + 3 = 47 := ⟨by decide +kernel, rfl⟩
theorem dX8_edit_47 : decode cX8_edit 47 = .ok (.getfield 62, 3) ∧ 47 + 3 = 50 := ⟨by decide +kernel, rfl⟩
theorem dX8_edit_50 : decode cX8_edit 50 = .ok (.iload_n 3, 1) ∧ 50 + 1 = 51 := ⟨by decide +kernel, rfl⟩
theorem dX8_edit_51 : decode cX8_edit 51 = .ok (.aload_n 0, 1) ∧ 51 + 1 = 52 := ⟨by decide +kernel, rfl⟩
theorem dX8_edit_52 : decode cX8_edit 52 = .ok (.getfield 10, 3) ∧ 52 + 3 = 55 := ⟨by decide +kernel, rfl⟩
theorem dX8_edit_55 : decode cX8_edit 55 = .ok (.invokevirtual 144, 3) ∧ 55 + 3 = 58 := ⟨by decide +kernel, rfl⟩
theorem dX8_edit_58 : decode cX8_edit 58 = .ok (.ifCond .eq 6, 3) ∧ 58 + 3 = 61 ∧ ((58 : Nat) : Int) + (6) = ((64 : Nat) : Int) := ⟨by decide +kernel, rfl, rfl⟩
theorem dX8_edit_61 : decode cX8_edit 61 = .ok (.bipush (-6), 2) ∧ 61 + 2 = 63 := ⟨by decide +kernel, rfl⟩
theorem dX8_edit_63 : decode cX8_edit 63 = .ok (.ireturn, 1) ∧ 63 + 1 = 64 := ⟨by decide +kernel, rfl⟩
theorem dX8_edit_64 : decode cX8_edit 64 = .ok (.aload_n 0, 1) ∧ 64 + 1 = 65 := ⟨by decide +kernel, rfl⟩
theorem dX8_edit_65 : decode cX8_edit 65 = .ok (.getfield 51, 3) ∧ 65 + 3 = 68 := ⟨by decide +kernel, rfl⟩
theorem dX8_edit_68 : decode cX8_edit 68 = .ok (.aload_n 0, 1) ∧ 68 + 1 = 69 := ⟨by decide +kernel, rfl⟩
theorem dX8_edit_69 : decode cX8_edit 69 = .ok (.getfield 48, 3) ∧ 69 + 3 = 72 := ⟨by decide +kernel, rfl⟩
theorem dX8_edit_72 : decode cX8_edit 72 = .ok (.invokevirtual 72, 3) ∧ 72 + 3 = 75 := ⟨by decide +kernel, rfl⟩
theorem dX8_edit_75 : decode cX8_edit 75 = .ok (.aload_n 0, 1) ∧ 75 + 1 = 76 := ⟨by decide +kernel, rfl⟩
theorem dX8_edit_76 : decode cX8_edit 76 = .ok (.getfield 51, 3) ∧ 76 + 3 = 79 := ⟨by decide +kernel, rfl⟩
theorem dX8_edit_79 : decode cX8_edit 79 = .ok (.getfield 62, 3) ∧ 79 + 3 = 82 := ⟨by decide +kernel, rfl⟩
theorem dX8_edit_82 : decode cX8_edit 82 = .ok (.iload_n 3, 1) ∧ 82 + 1 = 83 := ⟨by decide +kernel, rfl⟩
theorem dX8_edit_83 : decode cX8_edit 83 = .ok (.aload_n 0, 1) ∧ 83 + 1 = 84 := ⟨by decide +kernel, rfl⟩
theorem dX8_edit_84 : decode cX8_edit 84 = .ok (.getfield 10, 3) ∧ 84 + 3 = 87 := ⟨by decide +kernel, rfl⟩
theorem dX8_edit_87 : decode cX8_edit 87 = .ok (.invokevirtual 80, 3) ∧ 87 + 3 = 90 := ⟨by decide +kernel, rfl⟩
theorem dX8_edit_90 : decode cX8_edit 90 = .ok (.aload_n 0, 1) ∧ 90 + 1 = 91 := ⟨by decide +kernel, rfl⟩
theorem dX8_edit_91 : decode cX8_edit 91 = .ok (.invokevirtual 131, 3) ∧ 91 + 3 = 94 := ⟨by decide +kernel, rfl⟩
theorem dX8_edit_94 : decode cX8_edit 94 = .ok (.aload_n 0, 1) ∧ 94 + 1 = 95 := ⟨by decide +kernel, rfl⟩
theorem dX8_edit_95 : decode cX8_edit 95 = .ok (.getfield 48, 3) ∧ 95 + 3 = 98 := ⟨by decide +kernel, rfl⟩
theorem dX8_edit_98 : decode cX8_edit 98 = .ok (.getfield 84, 3) ∧ 98 + 3 = 101 := ⟨by decide +kernel, rfl⟩
theorem dX8_edit_101 : decode cX8_edit 101 = .ok (.iload_n 3, 1) ∧ 101 + 1 = 102 := ⟨by decide +kernel, rfl⟩
theorem dX8_edit_102 : decode cX8_edit 102 = .ok (.invokevirtual 148, 3) ∧ 102 + 3 = 105 := ⟨by decide +kernel, rfl⟩
theorem dX8_edit_105 : decode cX8_edit 105 = .ok (.ireturn, 1) ∧ 105 + 1 = 106 := ⟨by decide +kernel, rfl⟩
theorem dX8_mark_0 : decode cX8_mark 0 = .ok (.aload_n 0, 1) ∧ 0 + 1 = 1 := ⟨by decide +kernel, rfl⟩
theorem dX8_mark_1 : decode cX8_mark 1 = .ok (.getfield 26, 3) ∧ 1 + 3 = 4 := ⟨by decide +kernel, rfl⟩
theorem dX8_mark_4 : decode cX8_mark 4 = .ok (.iload_n 1, 1) ∧ 4 + 1 = 5 := ⟨by decide +kernel, rfl⟩
theorem dX8_mark_5 : decode cX8_mark 5 = .ok (.invokevirtual 107, 3) ∧ 5 + 3 = 8 := ⟨by decide +kernel, rfl⟩
theorem dX8_mark_8 : decode cX8_mark 8 = .ok (.istore_n 3, 1) ∧ 8 + 1 = 9 := ⟨by decide +kernel, rfl⟩
theorem dX8_mark_9 : decode cX8_mark 9 = .ok (.iload_n 3, 1) ∧ 9 + 1 = 10 := ⟨by decide +kernel, rfl⟩
theorem dX8_mark_10 : decode cX8_mark 10 = .ok (.bipush (-2), 2) ∧ 10 + 2 = 12 := ⟨by decide +kernel, rfl⟩
theorem dX8_mark_12 : decode cX8_mark 12 = .ok (.if_icmp .ne 6, 3) ∧ 12 + 3 = 15 ∧ ((12 : Nat) : Int) + (6) = ((18 : Nat) : Int) := ⟨by decide +kernel, rfl, rfl⟩
theorem dX8_mark_15 : decode cX8_mark 15 = .ok (.bipush (-2), 2) ∧ 15 + 2 = 17 := ⟨by decide +kernel, rfl⟩
theorem dX8_mark_17 : decode cX8_mark 17 = .ok (.ireturn, 1) ∧ 17 + 1 = 18 := ⟨by decide +kernel, rfl⟩
theorem dX8_mark_18 : decode cX8_mark 18 = .ok (.iload_n 2, 1) ∧ 18 + 1 = 19 := ⟨by decide +kernel, rfl⟩
theorem dX8_mark_19 : decode cX8_mark 19 = .ok (.invokestatic 151, 3) ∧ 19 + 3 = 22 := ⟨by decide +kernel, rfl⟩
theorem dX8_mark_22 : decode cX8_mark 22 = .ok (.ifCond .ne 6, 3) ∧ 22 + 3 = 25 ∧ ((22 : Nat) : Int) + (6) = ((28 : Nat) : Int) := ⟨by decide +kernel, rfl, rfl⟩
theorem dX8_mark_25 : decode cX8_mark 25 = .ok (.bipush (-3), 2) ∧ 25 + 2 = 27 := ⟨by decide +kernel, rfl⟩
theorem dX8_mark_27 : decode cX8_mark 27 = .ok (.ireturn, 1) ∧ 27 + 1 = 28 := ⟨by decide +kernel, rfl⟩
theorem dX8_mark_28 : decode cX8_mark 28 = .ok (.aload_n 0, 1) ∧ 28 + 1 = 29 := ⟨by decide +kernel, rfl⟩
theorem dX8_mark_29 : decode cX8_mark 29 = .ok (.getfield 48, 3) ∧ 29 + 3 = 32 := ⟨by decide +kernel, rfl⟩
theorem dX8_mark_32 : decode cX8_mark 32 = .ok (.getfield 84, 3) ∧ 32 + 3 = 35 := ⟨by decide +kernel, rfl⟩
theorem dX8_mark_35 : decode cX8_mark 35 = .ok (.iload_n 3, 1) ∧ 35 + 1 = 36 := ⟨by decide +kernel, rfl⟩
theorem dX8_mark_36 : decode cX8_mark 36 = .ok (.invokevirtual 88, 3) ∧ 36 + 3 = 39 := ⟨by decide +kernel, rfl⟩
theorem dX8_mark_39 : decode cX8_mark 39 = .ok (.istore 4, 2) ∧ 39 + 2 = 41 := ⟨by decide +kernel, rfl⟩
theorem dX8_mark_41 : decode cX8_mark 41 = .ok (.aload_n 0, 1) ∧ 41 + 1 = 42 := ⟨by decide +kernel, rfl⟩
theorem dX8_mark_42 : decode cX8_mark 42 = .ok (.getfield 51, 3) ∧ 42 + 3 = 45 := ⟨by decide +kernel, rfl⟩
theorem dX8_mark_45 : decode cX8_mark 45 = .ok (.aload_n 0, 1) ∧ 45 + 1 = 46 := ⟨by decide +kernel, rfl⟩
theorem dX8_mark_46 : decode cX8_mark 46 = .ok (.getfield 48, 3) ∧ 46 + 3 = 49 := ⟨by decide +kernel, rfl⟩
theorem dX8_mark_49 : decode cX8_mark 49 = .ok (.invokevirtual 72, 3) ∧ 49 + 3 = 52 := ⟨by decide +kernel, rfl⟩
theorem dX8_mark_52 : decode cX8_mark 52 = .ok (.aload_n 0, 1) ∧ 52 + 1 = 53 := ⟨by decide +kernel, rfl⟩
theorem dX8_mark_53 : decode cX8_mark 53 = .ok (.getfield 51, 3) ∧ 53 + 3 = 56 := ⟨by decide +kernel, rfl⟩
theorem dX8_mark_56 : decode cX8_mark 56 = .ok (.getfield 62, 3) ∧ 56 + 3 = 59 := ⟨by decide +kernel, rfl⟩
theorem dX8_mark_59 : decode cX8_mark 59 = .ok (.iload 4, 2) ∧ 59 + 2 = 61 := ⟨by decide +kernel, rfl⟩
theorem dX8_mark_61 : decode cX8_mark 61 = .ok (.iload_n 2, 1) ∧ 61 + 1 = 62 := ⟨by decide +kernel, rfl⟩
theorem dX8_mark_62 : decode cX8_mark 62 = .ok (.invokevirtual 155, 3) ∧ 62 + 3 = 65 := ⟨by decide +kernel, rfl⟩
theorem dX8_mark_65 : decode cX8_mark 65 = .ok (.aload_n 0, 1) ∧ 65 + 1 = 66 := ⟨by decide +kernel, rfl⟩
theorem dX8_mark_66 : decode cX8_mark 66 = .ok (.invokevirtual 131, 3) ∧ 66 + 3 = 69 := ⟨by decide +kernel, rfl⟩
theorem dX8_mark_69 : decode cX8_mark 69 = .ok (.aload_n 0, 1) ∧ 69 + 1 = 70 := ⟨by decide +kernel, rfl⟩
theorem dX8_mark_70 : decode cX8_mark 70 = .ok (.getfield 48, 3) ∧ 70 + 3 = 73 := ⟨by decide +kernel, rfl⟩
theorem dX8_mark_73 : decode cX8_mark 73 = .ok (.getfield 62, 3) ∧ 73 + 3 = 76 := ⟨by decide +kernel, rfl⟩
theorem dX8_mark_76 : decode cX8_mark 76 = .ok (.iload 4, 2) ∧ 76 + 2 = 78 := ⟨by decide +kernel, rfl⟩
theorem dX8_mark_78 : decode cX8_mark 78 = .ok (.invokevirtual 158, 3) ∧ 78 + 3 = 81 := ⟨by decide +kernel, rfl⟩
theorem dX8_mark_81 : decode cX8_mark 81 = .ok (.ireturn, 1) ∧ 81 + 1 = 82 := ⟨by decide +kernel, rfl⟩
theorem dX8_fold_0 : decode cX8_fold 0 = .ok (.aload_n 0, 1) ∧ 0 + 1 = 1 := ⟨by decide +kernel, rfl⟩
theorem dX8_fold_1 : decode cX8_fold 1 = .ok (.getfield 26, 3) ∧ 1 + 3 = 4 := ⟨by decide +kernel, rfl⟩
theorem dX8_fold_4 : decode cX8_fold 4 = .ok (.iload_n 1, 1) ∧ 4 + 1 = 5 := ⟨by decide +kernel, rfl⟩
theorem dX8_fold_5 : decode cX8_fold 5 = .ok (.invokevirtual 107, 3) ∧ 5 + 3 = 8 := ⟨by decide +kernel, rfl⟩
theorem dX8_fold_8 : decode cX8_fold 8 = .ok (.istore_n 3, 1) ∧ 8 + 1 = 9 := ⟨by decide +kernel, rfl⟩
theorem dX8_fold_9 : decode cX8_fold 9 = .ok (.iload_n 3, 1) ∧ 9 + 1 = 10 := ⟨by decide +kernel, rfl⟩
theorem dX8_fold_10 : decode cX8_fold 10 = .ok (.bipush (-2), 2) ∧ 10 + 2 = 12 := ⟨by decide +kernel, rfl⟩
theorem dX8_fold_12 : decode cX8_fold 12 = .ok (.if_icmp .ne 6, 3) ∧ 12 + 3 = 15 ∧ ((12 : Nat) : Int) + (6) = ((18 : Nat) : Int) := ⟨by decide +kernel, rfl, rfl⟩
theorem dX8_fold_15 : decode cX8_fold 15 = .ok (.bipush (-2), 2) ∧ 15 + 2 = 17 := ⟨by decide +kernel, rfl⟩
theorem dX8_fold_17 : decode cX8_fold 17 = .ok (.ireturn, 1) ∧ 17 + 1 = 18 := ⟨by decide +kernel, rfl⟩
theorem dX8_fold_18 : decode cX8_fold 18 = .ok (.aload_n 0, 1) ∧ 18 + 1 = 19 := ⟨by decide +kernel, rfl⟩
theorem dX8_fold_19 : decode cX8_fold 19 = .ok (.getfield 48, 3) ∧ 19 + 3 = 22 := ⟨by decide +kernel, rfl⟩
theorem dX8_fold_22 : decode cX8_fold 22 = .ok (.getfield 84, 3) ∧ 22 + 3 = 25 := ⟨by decide +kernel, rfl⟩
theorem dX8_fold_25 : decode cX8_fold 25 = .ok (.iload_n 3, 1) ∧ 25 + 1 = 26 := ⟨by decide +kernel, rfl⟩
theorem dX8_fold_26 : decode cX8_fold 26 = .ok (.invokevirtual 161, 3) ∧ 26 + 3 = 29 := ⟨by decide +kernel, rfl⟩
theorem dX8_fold_29 : decode cX8_fold 29 = .ok (.ifCond .ne 6, 3) ∧ 29 + 3 = 32 ∧ ((29 : Nat) : Int) + (6) = ((35 : Nat) : Int) := ⟨by decide +kernel, rfl, rfl⟩
theorem dX8_fold_32 : decode cX8_fold 32 = .ok (.bipush (-5), 2) ∧ 32 + 2 = 34 := ⟨by decide +kernel, rfl⟩
theorem dX8_fold_34 : decode cX8_fold 34 = .ok (.ireturn, 1) ∧ 34 + 1 = 35 := ⟨by decide +kernel, rfl⟩
theorem dX8_fold_35 : decode cX8_fold 35 = .ok (.iload_n 2, 1) ∧ 35 + 1 = 36 := ⟨by decide +kernel, rfl⟩
theorem dX8_fold_36 : decode cX8_fold 36 = .ok (.ifCond .eq 7, 3) ∧ 36 + 3 = 39 ∧ ((36 : Nat) : Int) + (7) = ((43 : Nat) : Int) := ⟨by decide +kernel, rfl, rfl⟩
theorem dX8_fold_39 : decode cX8_fold 39 = .ok (.iconst 1, 1) ∧ 39 + 1 = 40 := ⟨by decide +kernel, rfl⟩
theorem dX8_fold_40 : decode cX8_fold 40 = .ok (.goto 4, 3) ∧ 40 + 3 = 43 ∧ ((40 : Nat) : Int) + (4) = ((44 : Nat) : Int) := ⟨by decide +kernel, rfl, rfl⟩
theorem dX8_fold_43 : decode cX8_fold 43 = .ok (.iconst 0, 1) ∧ 43 + 1 = 44 := ⟨by decide +kernel, rfl⟩
theorem dX8_fold_44 : decode cX8_fold 44 = .ok (.istore 4, 2) ∧ 44 + 2 = 46 := ⟨by decide +kernel, rfl⟩
theorem dX8_fold_46 : decode cX8_fold 46 = .ok (.aload_n 0, 1) ∧ 46 + 1 = 47 := ⟨by decide +kernel, rfl⟩
theorem dX8_fold_47 : decode cX8_fold 47 = .ok (.getfield 48, 3) ∧ 47 + 3 = 50 := ⟨by decide +kernel, rfl⟩
theorem dX8_fold_50 : decode cX8_fold 50 = .ok (.getfield 84, 3) ∧ 50 + 3 = 53 := ⟨by decide +kernel, rfl⟩
theorem dX8_fold_53 : decode cX8_fold 53 = .ok (.iload_n 3, 1) ∧ 53 + 1 = 54 := ⟨by decide +kernel, rfl⟩
theorem dX8_fold_54 : decode cX8_fold 54 = .ok (.invokevirtual 164, 3) ∧ 54 + 3 = 57 := ⟨by decide +kernel, rfl⟩
theorem dX8_fold_57 : decode cX8_fold 57 = .ok (.iload 4, 2) ∧ 57 + 2 = 59 := ⟨by decide +kernel, rfl⟩
theorem dX8_fold_59 : decode cX8_fold 59 = .ok (.if_icmp .ne 6, 3) ∧ 59 + 3 = 62 ∧ ((59 : Nat) : Int) + (6) = ((65 : Nat) : Int) := ⟨by decide +kernel, rfl, rfl⟩
theorem dX8_fold_62 : decode cX8_fold 62 = .ok (.bipush (-6), 2) ∧ 62 + 2 = 64 := ⟨by decide +kernel, rfl⟩
theorem dX8_fold_64 : decode cX8_fold 64 = .ok (.ireturn, 1) ∧ 64 + 1 = 65 := ⟨by decide +kernel, rfl⟩
theorem dX8_fold_65 : decode cX8_fold 65 = .ok (.aload_n 0, 1) ∧ 65 + 1 = 66 := ⟨by decide +kernel, rfl⟩
theorem dX8_fold_66 : decode cX8_fold 66 = .ok (.getfield 51, 3) ∧ 66 + 3 = 69 := ⟨by decide +kernel, rfl⟩
theorem dX8_fold_69 : decode cX8_fold 69 = .ok (.aload_n 0, 1) ∧ 69 + 1 = 70 := ⟨by decide +kernel, rfl⟩
theorem dX8_fold_70 : decode cX8_fold 70 = .ok (.getfield 48, 3) ∧ 70 + 3 = 73 := ⟨by decide +kernel, rfl⟩
theorem dX8_fold_73 : decode cX8_fold 73 = .ok (.invokevirtual 72, 3) ∧ 73 + 3 = 76 := ⟨by decide +kernel, rfl⟩
theorem dX8_fold_76 : decode cX8_fold 76 = .ok (.aload_n 0, 1) ∧ 76 + 1 = 77 := ⟨by decide +kernel, rfl⟩
theorem dX8_fold_77 : decode cX8_fold 77 = .ok (.getfield 51, 3) ∧ 77 + 3 = 80 := ⟨by decide +kernel, rfl⟩
theorem dX8_fold_80 : decode cX8_fold 80 = .ok (.getfield 84, 3) ∧ 80 + 3 = 83 := ⟨by decide +kernel, rfl⟩
theorem dX8_fold_83 : decode cX8_fold 83 = .ok (.iload_n 3, 1) ∧ 83 + 1 = 84 := ⟨by decide +kernel, rfl⟩
theorem dX8_fold_84 : decode cX8_fold 84 = .ok (.iload 4, 2) ∧ 84 + 2 = 86 := ⟨by decide +kernel, rfl⟩
theorem dX8_fold_86 : decode cX8_fold 86 = .ok (.invokevirtual 167, 3) ∧ 86 + 3 = 89 := ⟨by decide +kernel, rfl⟩
theorem dX8_fold_89 : decode cX8_fold 89 = .ok (.aload_n 0, 1) ∧ 89 + 1 = 90 := ⟨by decide +kernel, rfl⟩
theorem dX8_fold_90 : decode cX8_fold 90 = .ok (.invokevirtual 131, 3) ∧ 90 + 3 = 93 := ⟨by decide +kernel, rfl⟩
theorem dX8_fold_93 : decode cX8_fold 93 = .ok (.aload_n 0, 1) ∧ 93 + 1 = 94 := ⟨by decide +kernel, rfl⟩
theorem dX8_fold_94 : decode cX8_fold 94 = .ok (.getfield 26, 3) ∧ 94 + 3 = 97 := ⟨by decide +kernel, rfl⟩
theorem dX8_fold_97 : decode cX8_fold 97 = .ok (.getfield 170, 3) ∧ 97 + 3 = 100 := ⟨by decide +kernel, rfl⟩
theorem dX8_fold_100 : decode cX8_fold 100 = .ok (.ireturn, 1) ∧ 100 + 1 = 101 := ⟨by decide +kernel, rfl⟩
theorem dX8_foldLevel_0 : decode cX8_foldLevel 0 = .ok (.iload_n 1, 1) ∧ 0 + 1 = 1 := ⟨by decide +kernel, rfl⟩
theorem dX8_foldLevel_1 : decode cX8_foldLevel 1 = .ok (.iconst 1, 1) ∧ 1 + 1 = 2 := ⟨by decide +kernel, rfl⟩
theorem dX8_foldLevel_2 : decode cX8_foldLevel 2 = .ok (.if_icmp .lt 9, 3) ∧ 2 + 3 = 5 ∧ ((2 : Nat) : Int) + (9) = ((11 : Nat) : Int) := ⟨by decide +kernel, rfl, rfl⟩
theorem dX8_foldLevel_5 : decode cX8_foldLevel 5 = .ok (.iload_n 1, 1) ∧ 5 + 1 = 6 := ⟨by decide +kernel, rfl⟩
theorem dX8_foldLevel_6 : decode cX8_foldLevel 6 = .ok (.bipush 40, 2) ∧ 6 + 2 = 8 := ⟨by decide +kernel, rfl⟩
theorem dX8_foldLevel_8 : decode cX8_foldLevel 8 = .ok (.if_icmp .le 6, 3) ∧ 8 + 3 = 11 ∧ ((8 : Nat) : Int) + (6) = ((14 : Nat) : Int) := ⟨by decide +kernel, rfl, rfl⟩
theorem dX8_foldLevel_11 : decode cX8_foldLevel 11 = .ok (.bipush (-3), 2) ∧ 11 + 2 = 13 := ⟨by decide +kernel, rfl⟩
theorem dX8_foldLevel_13 : decode cX8_foldLevel 13 = .ok (.ireturn, 1) ∧ 13 + 1 = 14 := ⟨by decide +kernel, rfl⟩
theorem dX8_foldLevel_14 : decode cX8_foldLevel 14 = .ok (.aload_n 0, 1) ∧ 14 + 1 = 15 := ⟨by decide +kernel, rfl⟩
theorem dX8_foldLevel_15 : decode cX8_foldLevel 15 = .ok (.getfield 51, 3) ∧ 15 + 3 = 18 := ⟨by decide +kernel, rfl⟩
theorem dX8_foldLevel_18 : decode cX8_foldLevel 18 = .ok (.aload_n 0, 1) ∧ 18 + 1 = 19 := ⟨by decide +kernel, rfl⟩
theorem dX8_foldLevel_19 : decode cX8_foldLevel 19 = .ok (.getfield 48, 3) ∧ 19 + 3 = 22 := ⟨by decide +kernel, rfl⟩
theorem dX8_foldLevel_22 : decode cX8_foldLevel 22 = .ok (.invokevirtual 72, 3) ∧ 22 + 3 = 25 := ⟨by decide +kernel, rfl⟩
theorem dX8_foldLevel_25 : decode cX8_foldLevel 25 = .ok (.aload_n 0, 1) ∧ 25 + 1 = 26 := ⟨by decide +kernel, rfl⟩
theorem dX8_foldLevel_26 : decode cX8_foldLevel 26 = .ok (.getfield 51, 3) ∧ 26 + 3 = 29 := ⟨by decide +kernel, rfl⟩
theorem dX8_foldLevel_29 : decode cX8_foldLevel 29 = .ok (.getfield 84, 3) ∧ 29 + 3 = 32 := ⟨by decide +kernel, rfl⟩
theorem dX8_foldLevel_32 : decode cX8_foldLevel 32 = .ok (.iload_n 1, 1) ∧ 32 + 1 = 33 := ⟨by decide +kernel, rfl⟩
theorem dX8_foldLevel_33 : decode cX8_foldLevel 33 = .ok (.invokevirtual 173, 3) ∧ 33 + 3 = 36 := ⟨by decide +kernel, rfl⟩
theorem dX8_foldLevel_36 : decode cX8_foldLevel 36 = .ok (.ifCond .ne 6, 3) ∧ 36 + 3 = 39 ∧ ((36 : Nat) : Int) + (6) = ((42 : Nat) : Int) := ⟨by decide +kernel, rfl, rfl⟩
theorem dX8_foldLevel_39 : decode cX8_foldLevel 39 = .ok (.bipush (-6), 2) ∧ 39 + 2 = 41 := ⟨by decide +kernel, rfl⟩
theorem dX8_foldLevel_41 : decode cX8_foldLevel 41 = .ok (.ireturn, 1) ∧ 41 + 1 = 42 := ⟨by decide +kernel, rfl⟩
theorem dX8_foldLevel_42 : decode cX8_foldLevel 42 = .ok (.aload_n 0, 1) ∧ 42 + 1 = 43 := ⟨by decide +kernel, rfl⟩
theorem dX8_foldLevel_43 : decode cX8_foldLevel 43 = .ok (.invokevirtual 131, 3) ∧ 43 + 3 = 46 := ⟨by decide +kernel, rfl⟩
theorem dX8_foldLevel_46 : decode cX8_foldLevel 46 = .ok (.aload_n 0, 1) ∧ 46 + 1 = 47 := ⟨by decide +kernel, rfl⟩
theorem dX8_foldLevel_47 : decode cX8_foldLevel 47 = .ok (.getfield 26, 3) ∧ 47 + 3 = 50 := ⟨by decide +kernel, rfl⟩
theorem dX8_foldLevel_50 : decode cX8_foldLevel 50 = .ok (.getfield 170, 3) ∧ 50 + 3 = 53 := ⟨by decide +kernel, rfl⟩
theorem dX8_foldLevel_53 : decode cX8_foldLevel 53 = .ok (.ireturn, 1) ∧ 53 + 1 = 54 := ⟨by decide +kernel, rfl⟩
theorem dX8_show_0 : decode cX8_show 0 = .ok (.aload_n 0, 1) ∧ 0 + 1 = 1 := ⟨by decide +kernel, rfl⟩
theorem dX8_show_1 : decode cX8_show 1 = .ok (.getfield 48, 3) ∧ 1 + 3 = 4 := ⟨by decide +kernel, rfl⟩
theorem dX8_show_4 : decode cX8_show 4 = .ok (.getfield 84, 3) ∧ 4 + 3 = 7 := ⟨by decide +kernel, rfl⟩
theorem dX8_show_7 : decode cX8_show 7 = .ok (.iload_n 1, 1) ∧ 7 + 1 = 8 := ⟨by decide +kernel, rfl⟩
theorem dX8_show_8 : decode cX8_show 8 = .ok (.invokevirtual 176, 3) ∧ 8 + 3 = 11 := ⟨by decide +kernel, rfl⟩
theorem dX8_show_11 : decode cX8_show 11 = .ok (.istore_n 2, 1) ∧ 11 + 1 = 12 := ⟨by decide +kernel, rfl⟩
theorem dX8_show_12 : decode cX8_show 12 = .ok (.iload_n 2, 1) ∧ 12 + 1 = 13 := ⟨by decide +kernel, rfl⟩
theorem dX8_show_13 : decode cX8_show 13 = .ok (.bipush (-2), 2) ∧ 13 + 2 = 15 := ⟨by decide +kernel, rfl⟩
theorem dX8_show_15 : decode cX8_show 15 = .ok (.if_icmp .ne 6, 3) ∧ 15 + 3 = 18 ∧ ((15 : Nat) : Int) + (6) = ((21 : Nat) : Int) := ⟨by decide +kernel, rfl, rfl⟩
theorem dX8_show_18 : decode cX8_show 18 = .ok (.bipush (-2), 2) ∧ 18 + 2 = 20 := ⟨by decide +kernel, rfl⟩
theorem dX8_show_20 : decode cX8_show 20 = .ok (.ireturn, 1) ∧ 20 + 1 = 21 := ⟨by decide +kernel, rfl⟩
theorem dX8_show_21 : decode cX8_show 21 = .ok (.aload_n 0, 1) ∧ 21 + 1 = 22 := ⟨by decide +kernel, rfl⟩
theorem dX8_show_22 : decode cX8_show 22 = .ok (.getfield 51, 3) ∧ 22 + 3 = 25 := ⟨by decide +kernel, rfl⟩
theorem dX8_show_25 : decode cX8_show 25 = .ok (.aload_n 0, 1) ∧ 25 + 1 = 26 := ⟨by decide +kernel, rfl⟩
theorem dX8_show_26 : decode cX8_show 26 = .ok (.getfield 48, 3) ∧ 26 + 3 = 29 := ⟨by decide +kernel, rfl⟩
theorem dX8_show_29 : decode cX8_show 29 = .ok (.invokevirtual 72, 3) ∧ 29 + 3 = 32 := ⟨by decide +kernel, rfl⟩
theorem dX8_show_32 : decode cX8_show 32 = .ok (.aload_n 0, 1) ∧ 32 + 1 = 33 := ⟨by decide +kernel, rfl⟩
theorem dX8_show_33 : decode cX8_show 33 = .ok (.getfield 51, 3) ∧ 33 + 3 = 36 := ⟨by decide +kernel, rfl⟩
theorem dX8_show_36 : decode cX8_show 36 = .ok (.getfield 84, 3) ∧ 36 + 3 = 39 := ⟨by decide +kernel, rfl⟩
theorem dX8_show_39 : decode cX8_show 39 = .ok (.iload_n 2, 1) ∧ 39 + 1 = 40 := ⟨by decide +kernel, rfl⟩
theorem dX8_show_40 : decode cX8_show 40 = .ok (.invokevirtual 179, 3) ∧ 40 + 3 = 43 := ⟨by decide +kernel, rfl⟩
theorem dX8_show_43 : decode cX8_show 43 = .ok (.ifCond .ne 6, 3) ∧ 43 + 3 = 46 ∧ ((43 : Nat) : Int) + (6) = ((49 : Nat) : Int) := ⟨by decide +kernel, rfl, rfl⟩
theorem dX8_show_46 : decode cX8_show 46 = .ok (.bipush (-6), 2) ∧ 46 + 2 = 48 := ⟨by decide +kernel, rfl⟩
theorem dX8_show_48 : decode cX8_show 48 = .ok (.ireturn, 1) ∧ 48 + 1 = 49 := ⟨by decide +kernel, rfl⟩
theorem dX8_show_49 : decode cX8_show 49 = .ok (.aload_n 0, 1) ∧ 49 + 1 = 50 := ⟨by decide +kernel, rfl⟩
