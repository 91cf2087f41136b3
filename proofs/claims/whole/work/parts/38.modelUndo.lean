theorem c_X9_keep (sz : Nat) {h : AH} {m : Nat} {A : AS} (hMo : MoR h m A) (hIn : In2 A) {z : Int} {A' : AS} (hSp : SpKeep A z A') : CC mX9_keep 3 0 0 [.ref m] sz h (QI (fun z' h' => z' = z ∧ MoR h' m A' ∧ Fr h h' m (m + 17))) := by
  refine CC.intro [some (.ref m), none] pfX9_keep rfl rfl ?_
  obtain ⟨w, u, hM, hC⟩ := hMo
  have hM0 := hM
  unfold MoW at hM
  have hC0 := hC
  have hIn0 := hIn
  obtain ⟨k1, k2, k3, k4, k5, k6⟩ := hC
  obtain ⟨i1, i2, i3, i4, i5, i6⟩ := hIn
  obtain ⟨q2, q3⟩ := hSp
  rw [q2, q3]
  refine x_iconst dX9_keep_0 ?_
  refine x_istore_n dX9_keep_1 rfl rfl rfl ?_
  refine x_loop (fun s : AH × Int => s.1) (fun s => [some (.ref m), some (.int (zI s.2))]) (fun s => 0 ≤ s.2 ∧ s.2 ≤ 2494 ∧ ∃ g : Nat → Int, (∀ k : Nat, (k : Int) < s.2 → g k = w 0 k) ∧ SO h s.1 m 17 9 (moF m u) (moA (fU w 2 g))) (fun s => (2494 - s.2).toNat) (h, 0) rfl rfl ⟨by dsimp only; omega, by dsimp only; omega, w 2, fun k hk => by dsimp only at hk; omega, hM⟩ ?_
  clear hM hM0
  rintro ⟨h2, i⟩ ⟨hi0, hi1, g, hg, hM⟩ ihq
  try dsimp only at *
  refine x_iload_n dX9_keep_2 rfl ?_
  refine x_sipush dX9_keep_3 (by decide) ?_
  refine x_icmp_ge dX9_keep_6 ⟨by omega, by omega⟩ ⟨by omega, by omega⟩ (fun qc6q => ?_) (fun qc6q => ?_)
  · refine x_aload_n dX9_keep_27 rfl ?_
    refine x_iconst dX9_keep_28 ?_
    refine s_putz dX9_keep_29 fX9_179 (Or.inr rfl) hM rfl (fun h3 hM hF => ?_)
    refine x_aload_n dX9_keep_32 rfl ?_
    have hM9 : MoW h3 m (fU w 2 g) (fU u 1 1) := hM.st
    refine p_V dX9_keep_33 lX9_154 (c_X9_rows sz hM9 k1.2.1 i4.1) hM.1 rfl rfl rfl rfl (by decide) ?_
    refine x_ireturn dX9_keep_36 rfl ?_
    exact ⟨_, rfl, rfl, ⟨fU w 2 g, fU u 1 1, hM9, k1, k2, k3, rfl, fun _ => k1.c1 i4 (fun i hi => hg i (by omega)), k6⟩, hM.fr⟩
  · refine x_aload_n dX9_keep_9 rfl ?_
    refine s_get dX9_keep_10 fX9_16 hM rfl ?_
    refine x_iload_n dX9_keep_13 rfl ?_
    refine x_aload_n dX9_keep_14 rfl ?_
    refine s_get dX9_keep_15 fX9_7 hM rfl ?_
    refine x_iload_n dX9_keep_18 rfl ?_
    refine s_iald dX9_keep_19 hM rfl rfl ⟨by omega, by omega⟩ ?_
    refine s_iast dX9_keep_20 hM rfl rfl ⟨by omega, by omega⟩ (fun h hM hF => ?_)
    refine x_iinc dX9_keep_21 rfl rfl rfl ?_
    refine x_goto dX9_keep_24 ?_
    refine ihq (_, i + 1) ⟨by dsimp only; omega, by dsimp only; omega, zU g i.toNat (w 0 i.toNat), fun k hk => ?_, hM⟩ (by dsimp only; omega)
    dsimp only at hk
    by_cases q : k = i.toNat
    · rw [q, zU_s]
    · rw [zU_n q]
      exact hg k (by omega)
theorem c_X9_undo (sz : Nat) {h : AH} {m : Nat} {A : AS} (hMo : MoR h m A) (hIn : In2 A) {z : Int} {A' : AS} (hSp : SpUndo A z A') : CC mX9_undo 0 0 0 [.ref m] sz h (QI (fun z' h' => z' = z ∧ MoR h' m A' ∧ Fr h h' m (m + 17))) := by
  refine CC.intro [some (.ref m), none] pfX9_undo rfl rfl ?_
  obtain ⟨w, u, hM, hC⟩ := hMo
  have hM0 := hM
  unfold MoW at hM
  have hC0 := hC
  have hIn0 := hIn
  obtain ⟨k1, k2, k3, k4, k5, k6⟩ := hC
  obtain ⟨i1, i2, i3, i4, i5, i6⟩ := hIn
  refine x_aload_n dX9_undo_0 rfl ?_
  refine s_get dX9_undo_1 fX9_60 hM rfl ?_
  refine x_if_ne dX9_undo_4 ⟨by omega, by omega⟩ (fun qc4q => ?_) (fun qc4q => ?_)
  · obtain ⟨hs1, S1, q1, q2, q3⟩ : ∃ hs1 S1, A.2.1 = hs1 ++ [S1] ∧ z = (hs1.length : Int) ∧ A' = (A.1, hs1, A.2.2.1, A.2.2.2.1, S1) := by
      rcases hSp with q | q
      · rw [q.1] at k3
        exact absurd k3 (by simp; omega)
      · exact q
    rw [q2, q3]
    have hlen : u 0 - 1 = (hs1.length : Int) := by
      rw [k3, q1, List.length_append, List.length_singleton]
      omega
    rw [q1, List.length_append, List.length_singleton] at i2
    have hlast : A.2.1[hs1.length]? = some S1 := by
      rw [q1, List.getElem?_append_right (Nat.le_refl _), Nat.sub_self]
      rfl
    refine x_aload_n dX9_undo_10 rfl ?_
    refine x_dup dX9_undo_11 rfl ?_
    refine s_get dX9_undo_12 fX9_60 hM rfl ?_
    refine x_iconst dX9_undo_15 ?_
    refine x_isub dX9_undo_16 ?_
    refine s_puti dX9_undo_17 fX9_60 hM rfl (fun hv hM hF => ?_)
    refine x_iconst dX9_undo_20 ?_
    refine x_istore_n dX9_undo_21 rfl rfl rfl ?_
    rw [hlen] at hM
    refine x_loop (fun s : AH × Int => s.1) (fun s => [some (.ref m), some (.int (zI s.2))]) (fun s => 0 ≤ s.2 ∧ s.2 ≤ 2494 ∧ ∃ g : Nat → Int, (∀ k : Nat, (k : Int) < s.2 → g k = w 1 (2494 * hs1.length + k)) ∧ SO hv s.1 m 17 9 (moF m (fU u 0 (hs1.length : Int))) (moA (fU w 0 g))) (fun s => (2494 - s.2).toNat) (_, 0) rfl rfl ⟨by dsimp only; omega, by dsimp only; omega, w 0, fun k hk => by dsimp only at hk; omega, hM.st⟩ ?_
    have hG0 := hM.fr
    clear hM hM0
    rintro ⟨h2, i⟩ ⟨hi0, hi1, g, hg, hM⟩ ihq
    try dsimp only at *
    refine x_iload_n dX9_undo_22 rfl ?_
    refine x_sipush dX9_undo_23 (by decide) ?_
    refine x_icmp_ge dX9_undo_26 ⟨by omega, by omega⟩ ⟨by omega, by omega⟩ (fun qc26q => ?_) (fun qc26q => ?_)
    · refine x_aload_n dX9_undo_56 rfl ?_
      refine s_get dX9_undo_57 fX9_60 hM rfl ?_
      refine x_ireturn dX9_undo_60 rfl ?_
      exact ⟨_, rfl, rfl, ⟨fU w 0 g, fU u 0 (hs1.length : Int), hM.st, (k2 _ S1 hlast).c1 (i6 S1 (List.mem_of_getElem? hlast)) (fun i hi => hg i (by omega)), fun j S hj => k2 j S (by rw [q1, List.getElem?_append_left (List.getElem?_eq_some_iff.mp hj).1]; exact hj), rfl, k4, k5, k6⟩, hG0.tr hM.fr⟩
    · refine x_aload_n dX9_undo_29 rfl ?_
      refine s_get dX9_undo_30 fX9_7 hM rfl ?_
      refine x_iload_n dX9_undo_33 rfl ?_
      refine x_aload_n dX9_undo_34 rfl ?_
      refine s_get dX9_undo_35 fX9_13 hM rfl ?_
      refine x_sipush dX9_undo_38 (by decide) ?_
      refine x_aload_n dX9_undo_41 rfl ?_
      refine s_get dX9_undo_42 fX9_60 hM rfl ?_
      refine x_imul dX9_undo_45 ?_
      refine x_iload_n dX9_undo_46 rfl ?_
      refine x_iadd dX9_undo_47 ?_
      refine s_iald dX9_undo_48 hM rfl rfl ⟨by show 0 ≤ 2494 * (hs1.length : Int) + i; omega, by show 2494 * (hs1.length : Int) + i < 12470; omega⟩ ?_
      refine s_iast dX9_undo_49 hM rfl rfl ⟨by omega, by omega⟩ (fun h hM hF => ?_)
      refine x_iinc dX9_undo_50 rfl rfl rfl ?_
      refine x_goto dX9_undo_53 ?_
      refine ihq (_, i + 1) ⟨by dsimp only; omega, by dsimp only; omega, zU g i.toNat (w 1 (2494 * (hs1.length : Int) + i).toNat), fun k hk => ?_, hM⟩ (by dsimp only; omega)
      dsimp only at hk
      by_cases q : k = i.toNat
      · rw [q, zU_s, show (2494 * (hs1.length : Int) + i).toNat = 2494 * hs1.length + i.toNat by omega]
      · rw [zU_n q]
        exact hg k (by omega)
  · refine x_bipush dX9_undo_7 (by decide) ?_
    refine x_ireturn dX9_undo_9 rfl ?_
    obtain ⟨q1, q2, q3⟩ : A.2.1 = [] ∧ z = -6 ∧ A' = A := by
      rcases hSp with q | ⟨hs1, S1, q, -⟩
      · exact q
      · rw [q, List.length_append, List.length_singleton] at k3
        omega
    rw [q2, q3]
    exact ⟨_, rfl, rfl, ⟨w, u, hM0, hC0⟩, Fr.rf⟩
theorem c_X9_restore (sz : Nat) {h : AH} {m : Nat} {A : AS} (hMo : MoR h m A) (hIn : In2 A) {z : Int} {A' : AS} (hSp : SpRest A z A') : CC mX9_restore 3 0 0 [.ref m] sz h (QI (fun z' h' => z' = z ∧ MoR h' m A' ∧ Fr h h' m (m + 17))) := by
  refine CC.intro [some (.ref m), none] pfX9_restore rfl rfl ?_
  obtain ⟨w, u, hM, hC⟩ := hMo
  have hM0 := hM
  unfold MoW at hM
  have hC0 := hC
  have hIn0 := hIn
  obtain ⟨k1, k2, k3, k4, k5, k6⟩ := hC
  obtain ⟨i1, i2, i3, i4, i5, i6⟩ := hIn
  refine x_aload_n dX9_restore_0 rfl ?_
  refine s_get dX9_restore_1 fX9_179 hM rfl ?_
  refine x_if_ne dX9_restore_4 ⟨by omega, by omega⟩ (fun qc4q => ?_) (fun qc4q => ?_)
  · obtain ⟨q1, q2, q3⟩ : A.2.2.2.1 ≠ 0 ∧ z = rwN A.2.2.1 ∧ A' = Done A A.2.2.1 := by
      rcases hSp with q | q
      · have := q.1
        omega
      · exact q
    rw [q2, q3]
    have hsl := k5 q1
    refine x_aload_n dX9_restore_10 rfl ?_
    refine v_V dX9_restore_11 lX9_105 (c_X9_takeSpare sz hM0) hM.1 rfl rfl rfl rfl (by decide) (fun h1 ⟨ga, hga, hM1, hF1⟩ => ?_)
    refine x_aload_n dX9_restore_14 rfl ?_
    refine v_V dX9_restore_15 lX9_126 (c_X9_record sz hM1 (n := A.2.1.length) k3 i2) hM1.1 rfl rfl rfl rfl (by decide) (fun h2 ⟨g, n1, hn1, hg1, hg2, hM2, hF2⟩ => ?_)
    refine x_iconst dX9_restore_18 ?_
    refine x_istore_n dX9_restore_19 rfl rfl rfl ?_
    have hM : SO h2 h2 m 17 9 (moF m (fU u 0 ((n1 : Int) + 1))) (moA (fU (fU w 3 ga) 1 g)) := hM2
    refine x_loop (fun s : AH × Int => s.1) (fun s => [some (.ref m), some (.int (zI s.2))]) (fun s => 0 ≤ s.2 ∧ s.2 ≤ 2494 ∧ ∃ gn : Nat → Int, (∀ k : Nat, (k : Int) < s.2 → gn k = w 2 k) ∧ SO h2 s.1 m 17 9 (moF m (fU u 0 ((n1 : Int) + 1))) (moA (fU (fU (fU w 3 ga) 0 gn) 1 g))) (fun s => (2494 - s.2).toNat) (_, 0) rfl rfl ⟨by dsimp only; omega, by dsimp only; omega, w 0, fun k hk => by dsimp only at hk; omega, hM⟩ ?_
    clear hM hM0 hM1 hM2
    rintro ⟨h3, i⟩ ⟨hi0, hi1, gn, hgn, hM⟩ ihq
    try dsimp only at *
    refine x_iload_n dX9_restore_20 rfl ?_
    refine x_sipush dX9_restore_21 (by decide) ?_
    refine x_icmp_ge dX9_restore_24 ⟨by omega, by omega⟩ ⟨by omega, by omega⟩ (fun qc24q => ?_) (fun qc24q => ?_)
    · refine x_aload_n dX9_restore_45 rfl ?_
      have hM9 : MoW h3 m (fU (fU (fU w 3 ga) 0 gn) 1 g) (fU u 0 ((n1 : Int) + 1)) := hM.st
      have hnw : RmR gn A.2.2.1 := hsl.c1 i5 (fun i hi => hgn i (by omega))
      refine p_V dX9_restore_46 lX9_154 (c_X9_rows sz hM9 hnw.2.1 i5.1) hM.1 rfl rfl rfl rfl (by decide) ?_
      refine x_ireturn dX9_restore_49 rfl ?_
      exact ⟨_, rfl, rfl, ⟨_, _, hM9, MoC.done hC0 hIn0 hn1 hg1 (fun i hi => (hg2 i hi).trans (hga i hi)) hnw rfl rfl⟩, (hF1.tr hF2).tr hM.fr⟩
    · refine x_aload_n dX9_restore_27 rfl ?_
      refine s_get dX9_restore_28 fX9_7 hM rfl ?_
      refine x_iload_n dX9_restore_31 rfl ?_
      refine x_aload_n dX9_restore_32 rfl ?_
      refine s_get dX9_restore_33 fX9_16 hM rfl ?_
      refine x_iload_n dX9_restore_36 rfl ?_
      refine s_iald dX9_restore_37 hM rfl rfl ⟨by omega, by omega⟩ ?_
      refine s_iast dX9_restore_38 hM rfl rfl ⟨by omega, by omega⟩ (fun h hM hF => ?_)
      refine x_iinc dX9_restore_39 rfl rfl rfl ?_
      refine x_goto dX9_restore_42 ?_
      refine ihq (_, i + 1) ⟨by dsimp only; omega, by dsimp only; omega, zU gn i.toNat (w 2 i.toNat), fun k hk => ?_, hM⟩ (by dsimp only; omega)
      dsimp only at hk
      by_cases q : k = i.toNat
      · rw [q, zU_s]
      · rw [zU_n q]
        exact hgn k (by omega)
  · refine x_bipush dX9_restore_7 (by decide) ?_
    refine x_ireturn dX9_restore_9 rfl ?_
    obtain ⟨q1, q2, q3⟩ : A.2.2.2.1 = 0 ∧ z = -6 ∧ A' = A := by
      rcases hSp with q | q
      · exact q
      · have := q.1
        omega
    rw [q2, q3]
    exact ⟨_, rfl, rfl, ⟨w, u, hM0, hC0⟩, Fr.rf⟩
