theorem c_X9_edit (sz : Nat) {h : AH} {m : Nat} {A : AS} (hMo : MoR h m A) (hIn : In2 A) {r z : Int} (hr : inR r) {A' : AS} (hSp : SpEdit A r z A') : CC mX9_edit 3 0 0 [.ref m, .int (zI r)] sz h (QI (fun z' h' => z' = z ∧ MoR h' m A' ∧ Fr h h' m (m + 17))) := by
  refine CC.intro [some (.ref m), some (.int (zI r)), none, none] pfX9_edit rfl rfl ?_
  obtain ⟨w, u, hM, hC⟩ := hMo
  have hM0 := hM
  unfold MoW at hM
  have hC0 := hC
  have hIn0 := hIn
  obtain ⟨k1, k2, k3, k4, k5, k6⟩ := hC
  obtain ⟨i1, i2, i3, i4, i5, i6⟩ := hIn
  have hB := i4.1
  have hL := hB.1
  have hKB := i4.2.2.1
  have hd40 := hKB.1
  have hW : Wf A.2.2.2.2 := i4.2.2.2.1
  have hz9 := plM_z A.2.2.2.2.2.2.2.2 r
  have hzr := plZ_r A.2.2.2.2.2.2.2.2 r
  unfold SpEdit at hSp
  dsimp only at hSp
  generalize hzz : plZ A.2.2.2.2.2.2.2.2 r = k at *
  generalize hyy : plM A.2.2.2.2.2.2.2.2 r = y at *
  have hu := k6.1
  have hl60 := i1.1
  refine x_aload_n dX9_edit_0 rfl ?_
  refine x_iload_n dX9_edit_1 rfl ?_
  refine p_V dX9_edit_2 lX9_88 (c_X9_placeOf sz hM0 k1.2.1 hB hr) hM.1 rfl rfl rfl rfl (by decide) ?_
  rw [hyy]
  refine x_istore_n dX9_edit_5 rfl rfl rfl ?_
  refine x_iload_n dX9_edit_6 rfl ?_
  refine x_bipush dX9_edit_7 (by decide) ?_
  refine x_icmp_ne dX9_edit_9 ⟨by omega, by omega⟩ ⟨by omega, by omega⟩ (fun qc9q => ?_) (fun qc9q => ?_)
  · obtain ⟨hyz, hz0, hz1, hzs⟩ : y = k ∧ 0 ≤ k ∧ k < A.2.2.2.2.2.2.2.2.length ∧ sn A.2.2.2.2.2.2.2.2 k.toNat = true := by
      rcases hz9 with q | q
      · omega
      · exact q
    subst hyz
    have hn := hW.n hB hz0 hz1
    have hat := k1.2.1.at hz0 hz1
    have hgp := gV_p (pl := A.2.2.2.2.2.2.2.2) hz0
    refine x_aload_n dX9_edit_15 rfl ?_
    refine s_get dX9_edit_16 fX9_95 hM rfl ?_
    refine x_iconst dX9_edit_19 ?_
    refine x_bipush dX9_edit_20 (by decide) ?_
    refine p_S dX9_edit_22 lX9_101 (c_X9_in sz h (a := u 2) (b := 1) (c := 8) ⟨by omega, by omega⟩ ⟨by omega, by omega⟩ ⟨by omega, by omega⟩) rfl rfl rfl (by decide) ?_
    refine x_ifB_ne dX9_edit_25 (fun qc25q => ?_) (fun qc25q => ?_)
    · refine x_aload_n dX9_edit_31 rfl ?_
      refine x_iload_n dX9_edit_32 rfl ?_
      refine x_iconst dX9_edit_33 ?_
      refine p_V dX9_edit_34 lX9_77 (c_X9_at sz hM0 (x := y) (v := 0) (by omega)) hM.1 rfl rfl rfl rfl (by decide) ?_
      rw [hat.1, hgp.2.1, hn.2.2.1]
      refine x_istore_n dX9_edit_37 rfl rfl rfl ?_
      refine x_aload_n dX9_edit_38 rfl ?_
      refine x_iload_n dX9_edit_39 rfl ?_
      refine p_V dX9_edit_40 lX9_148 (c_X9_hasText sz hM0 k1.2.2.2.2 i4.2.1 k6 i1 (x := (gN A.2.2.2.2.2.2.2.2 y).toNat) (by omega) (by omega)) hM.1 rfl rfl rfl rfl (by decide) ?_
      refine x_ifB_eq dX9_edit_43 (fun qc43q => ?_) (fun qc43q => ?_)
      · obtain ⟨q3, q2⟩ : A' = Done A (A.2.2.2.2.1, fU A.2.2.2.2.2.1 (gN A.2.2.2.2.2.2.2.2 y).toNat A.1, A.2.2.2.2.2.2.1, A.2.2.2.2.2.2.2.1, A.2.2.2.2.2.2.2.2) ∧ z = pCnt A.2.2.2.2.2.2.2.2 (gN A.2.2.2.2.2.2.2.2 y) := by
          rcases hSp with q | q | q | q
          · have := q.1
            omega
          · exact absurd ⟨by omega, by omega⟩ q.2.1
          · exact absurd q.2.2.1 qc43q
          · exact q.2.2.2
        rw [q2, q3]
        refine x_aload_n dX9_edit_49 rfl ?_
        refine v_V dX9_edit_50 lX9_105 (c_X9_takeSpare sz hM0) hM.1 rfl rfl rfl rfl (by decide) (fun h1 ⟨ga, hga, hM1, hF1⟩ => ?_)
        refine x_aload_n dX9_edit_53 rfl ?_
        refine x_iload_n dX9_edit_54 rfl ?_
        refine v_V dX9_edit_55 lX9_112 (c_X9_writeText sz hM1 (t := A.1) k6 i1 (by omega) (x := (gN A.2.2.2.2.2.2.2.2 y).toNat) (by omega)) hM1.1 rfl rfl rfl rfl (by decide) (fun h2 ⟨rn, hs1, hs2, hs3, hM2, hF2⟩ => ?_)
        refine x_aload_n dX9_edit_58 rfl ?_
        refine v_V dX9_edit_59 lX9_126 (c_X9_record sz hM2 (n := A.2.1.length) k3 i2) hM2.1 rfl rfl rfl rfl (by decide) (fun h3 ⟨g, n1, hn1, hg1, hg2, hM3, hF3⟩ => ?_)
        refine x_aload_n dX9_edit_62 rfl ?_
        refine x_iload_n dX9_edit_63 rfl ?_
        have hnw := k1.tx i4 (n := (gN A.2.2.2.2.2.2.2.2 y).toNat) (t := A.1) (by omega) (by omega) (by omega) hs1 hs2 hs3
        rw [← hn.2.2.1]
        refine p_V dX9_edit_64 lX9_139 (c_X9_placesOf sz hM3 hnw.2.1 hB (y := gN A.2.2.2.2.2.2.2.2 y) ⟨by omega, by omega⟩) hM3.1 rfl rfl rfl rfl (by decide) ?_
        refine x_ireturn dX9_edit_67 rfl ?_
        exact ⟨_, rfl, rfl, ⟨_, _, hM3, MoC.done hC0 hIn0 hn1 hg1 (fun i hi => (hg2 i hi).trans (hga i hi)) hnw rfl rfl⟩, (hF1.tr hF2).tr hF3⟩
      · refine x_bipush dX9_edit_46 (by decide) ?_
        refine x_ireturn dX9_edit_48 rfl ?_
        obtain ⟨q2, q3⟩ : z = -6 ∧ A' = A := by
          rcases hSp with q | q | q | q
          · have := q.1
            omega
          · exact absurd ⟨by omega, by omega⟩ q.2.1
          · exact ⟨q.2.2.2.1, q.2.2.2.2⟩
          · exact absurd qc43q q.2.2.1
        rw [q2, q3]
        exact ⟨_, rfl, rfl, ⟨w, u, hM0, hC0⟩, Fr.rf⟩
    · refine x_bipush dX9_edit_28 (by decide) ?_
      refine x_ireturn dX9_edit_30 rfl ?_
      obtain ⟨q2, q3⟩ : z = -3 ∧ A' = A := by
        rcases hSp with q | q | q | q
        · have := q.1
          omega
        · exact ⟨q.2.2.1, q.2.2.2⟩
        · exact absurd ⟨by have := q.2.1.1; omega, by have := q.2.1.2; omega⟩ qc25q
        · exact absurd ⟨by have := q.2.1.1; omega, by have := q.2.1.2; omega⟩ qc25q
      rw [q2, q3]
      exact ⟨_, rfl, rfl, ⟨w, u, hM0, hC0⟩, Fr.rf⟩
  · refine x_bipush dX9_edit_12 (by decide) ?_
    refine x_ireturn dX9_edit_14 rfl ?_
    obtain ⟨q2, q3⟩ : z = -2 ∧ A' = A := by
      rcases hSp with q | q | q | q
      · exact ⟨q.2.1, q.2.2⟩
      · have := q.1
        omega
      · have := q.1
        omega
      · have := q.1
        omega
    rw [q2, q3]
    exact ⟨_, rfl, rfl, ⟨w, u, hM0, hC0⟩, Fr.rf⟩
