theorem c_X9_fold (sz : Nat) {h : AH} {m : Nat} {A : AS} (hMo : MoR h m A) (hIn : In2 A) (hHk : HkP A.2.2.2.2) {r z : Int} {f : Nat} (hr : inR r) (hf : f ≤ 1) {A' : AS} (hSp : SpFold A r f z A') (hIn' : PlB A'.2.2.2.2.2.2.2.2) : CC mX9_fold 3 0 0 [.ref m, .int (zI r), .int (zI f)] sz h (QI (fun z' h' => z' = z ∧ MoR h' m A' ∧ Fr h h' m (m + 17))) := by
  refine CC.intro [some (.ref m), some (.int (zI r)), some (.int (zI f)), none, none] pfX9_fold rfl rfl ?_
  obtain ⟨w, u, hM, hC⟩ := hMo
  have hM0 := hM
  unfold MoW at hM
  have hC0 := hC
  have hIn0 := hIn
  obtain ⟨k1, k2, k3, k4, k5, k6⟩ := hC
  obtain ⟨i1, i2, i3, i4, i5, i6⟩ := hIn
  have hB := i4.1
  have hL := hB.1
  have hKB := i4.2.2.1
  have hd40 := hKB.1
  have hW : Wf A.2.2.2.2 := i4.2.2.2.1
  have hz9 := plM_z A.2.2.2.2.2.2.2.2 r
  have hzr := plZ_r A.2.2.2.2.2.2.2.2 r
  unfold SpFold at hSp
  dsimp only at hSp
  generalize hzz : plZ A.2.2.2.2.2.2.2.2 r = k at *
  generalize hyy : plM A.2.2.2.2.2.2.2.2 r = y at *
  refine x_aload_n dX9_fold_0 rfl ?_
  refine x_iload_n dX9_fold_1 rfl ?_
  refine p_V dX9_fold_2 lX9_88 (c_X9_placeOf sz hM0 k1.2.1 hB hr) hM.1 rfl rfl rfl rfl (by decide) ?_
  rw [hyy]
  refine x_istore_n dX9_fold_5 rfl rfl rfl ?_
  refine x_iload_n dX9_fold_6 rfl ?_
  refine x_bipush dX9_fold_7 (by decide) ?_
  refine x_icmp_ne dX9_fold_9 ⟨by omega, by omega⟩ ⟨by omega, by omega⟩ (fun qc9q => ?_) (fun qc9q => ?_)
  · obtain ⟨hyz, hz0, hz1, hzs⟩ : y = k ∧ 0 ≤ k ∧ k < A.2.2.2.2.2.2.2.2.length ∧ sn A.2.2.2.2.2.2.2.2 k.toNat = true := by
      rcases hz9 with q | q
      · omega
      · exact q
    subst hyz
    have hn := hW.n hB hz0 hz1
    have hat := k1.2.1.at hz0 hz1
    have hgp := gV_p (pl := A.2.2.2.2.2.2.2.2) hz0
    have hk9 := hHk y hz0 hz1
    have hpf : pf A.2.2.2.2.2.2.2.2 y.toNat ≤ 1 := (hB.2 y.toNat (by omega)).2.2.2.2
    refine x_aload_n dX9_fold_15 rfl ?_
    refine x_iload_n dX9_fold_16 rfl ?_
    refine p_V dX9_fold_17 lX9_151 (c_X9_hasKids sz hM0 k1.2.1 hB k1.2.2.2.1 hKB hz0 hz1 (by omega)) hM.1 rfl rfl rfl rfl (by decide) ?_
    refine x_ifB_ne dX9_fold_20 (fun qc20q => ?_) (fun qc20q => ?_)
    · refine x_iload_n dX9_fold_26 rfl ?_
      refine x_if_eq dX9_fold_27 ⟨by omega, by omega⟩ (fun qc27q => ?_) (fun qc27q => ?_)
      · have qe0q : f = 0 := by omega
        subst qe0q
        refine x_iconst dX9_fold_34 ?_
        refine x_istore dX9_fold_35 rfl rfl rfl ?_
        refine x_aload_n dX9_fold_37 rfl ?_
        refine x_iload_n dX9_fold_38 rfl ?_
        refine x_iconst dX9_fold_39 ?_
        refine p_V dX9_fold_40 lX9_77 (c_X9_at sz hM0 (x := y) (v := 2) (by omega)) hM.1 rfl rfl rfl rfl (by decide) ?_
        rw [hat.2.2]
        refine x_iload dX9_fold_43 rfl ?_
        refine x_icmp_ne dX9_fold_45 ⟨by omega, by omega⟩ ⟨by omega, by omega⟩ (fun qc45q => ?_) (fun qc45q => ?_)
        · obtain ⟨q3, q2⟩ : A' = Done A (A.2.2.2.2.1, A.2.2.2.2.2.1, A.2.2.2.2.2.2.1, A.2.2.2.2.2.2.2.1, pSet A.2.2.2.2.2.2.2.2 y.toNat 0) ∧ z = rwN A'.2.2.2.2 := by
            rcases hSp with q | q | q | q
            · exfalso; have := q.1; omega
            · exfalso; exact q.2.1 (hk9.mpr qc20q)
            · exfalso; have := q.2.2.1; omega
            · exact q.2.2.2
          rw [q2, q3]
          have hplf : (A.2.2.2.2.2.2.2.2.length : Int) ≤ 120 := by omega
          refine x_aload_n dX9_fold_51 rfl ?_
          refine v_V dX9_fold_52 lX9_105 (c_X9_takeSpare sz hM0) hM.1 rfl rfl rfl rfl (by decide) (fun h1 ⟨ga, hga, hM1, hF1⟩ => ?_)
          have hM : SO h1 h1 m 17 9 (moF m u) (moA (fU w 3 ga)) := hM1
          refine x_aload_n dX9_fold_55 rfl ?_
          refine s_get dX9_fold_56 fX9_7 hM rfl ?_
          refine x_sipush dX9_fold_59 (by decide) ?_
          refine x_iconst dX9_fold_62 ?_
          refine x_iload_n dX9_fold_63 rfl ?_
          refine x_imul dX9_fold_64 ?_
          refine x_iadd dX9_fold_65 ?_
          refine x_iconst dX9_fold_66 ?_
          refine x_iadd dX9_fold_67 ?_
          refine x_iload dX9_fold_68 rfl ?_
          refine s_iast dX9_fold_70 hM rfl rfl ⟨by omega, by omega⟩ (fun h2 hM hF => ?_)
          have hM2 : MoW h2 m (fU (fU w 3 ga) 0 (zU (w 0) (2134 + 3 * y + 2).toNat 0)) u := hM.st
          have hF2 := hM.fr
          refine x_aload_n dX9_fold_71 rfl ?_
          refine v_V dX9_fold_72 lX9_126 (c_X9_record sz hM2 (n := A.2.1.length) k3 i2) hM2.1 rfl rfl rfl rfl (by decide) (fun h3 ⟨g, n1, hn1, hg1, hg2, hM3, hF3⟩ => ?_)
          refine x_aload_n dX9_fold_75 rfl ?_
          have hnw := k1.pf i4 (k := y.toNat) (f := 0) (by omega) (i0 := (2134 + 3 * y + 2).toNat) (by omega)
          rw [q3] at hIn'
          refine p_V dX9_fold_76 lX9_154 (c_X9_rows sz hM3 hnw.2.1 hIn') hM3.1 rfl rfl rfl rfl (by decide) ?_
          refine x_ireturn dX9_fold_79 rfl ?_
          exact ⟨_, rfl, rfl, ⟨_, _, hM3, MoC.done hC0 hIn0 hn1 hg1 (fun i hi => (hg2 i hi).trans (hga i hi)) hnw rfl rfl⟩, (hF1.tr hF2).tr hF3⟩
        · refine x_bipush dX9_fold_48 (by decide) ?_
          refine x_ireturn dX9_fold_50 rfl ?_
          obtain ⟨q2, q3⟩ : z = -6 ∧ A' = A := by
            rcases hSp with q | q | q | q
            · exfalso; have := q.1; omega
            · exact absurd (hk9.mpr qc20q) q.2.1
            · exact ⟨q.2.2.2.1, q.2.2.2.2⟩
            · exfalso; have := q.2.2.1; omega
          rw [q2, q3]
          exact ⟨_, rfl, rfl, ⟨w, u, hM0, hC0⟩, Fr.rf⟩
      · have qe0q : f = 1 := by omega
        subst qe0q
        refine x_iconst dX9_fold_30 ?_
        refine x_goto dX9_fold_31 ?_
        refine x_istore dX9_fold_35 rfl rfl rfl ?_
        refine x_aload_n dX9_fold_37 rfl ?_
        refine x_iload_n dX9_fold_38 rfl ?_
        refine x_iconst dX9_fold_39 ?_
        refine p_V dX9_fold_40 lX9_77 (c_X9_at sz hM0 (x := y) (v := 2) (by omega)) hM.1 rfl rfl rfl rfl (by decide) ?_
        rw [hat.2.2]
        refine x_iload dX9_fold_43 rfl ?_
        refine x_icmp_ne dX9_fold_45 ⟨by omega, by omega⟩ ⟨by omega, by omega⟩ (fun qc45q => ?_) (fun qc45q => ?_)
        · obtain ⟨q3, q2⟩ : A' = Done A (A.2.2.2.2.1, A.2.2.2.2.2.1, A.2.2.2.2.2.2.1, A.2.2.2.2.2.2.2.1, pSet A.2.2.2.2.2.2.2.2 y.toNat 1) ∧ z = rwN A'.2.2.2.2 := by
            rcases hSp with q | q | q | q
            · exfalso; have := q.1; omega
            · exfalso; exact q.2.1 (hk9.mpr qc20q)
            · exfalso; have := q.2.2.1; omega
            · exact q.2.2.2
          rw [q2, q3]
          have hplf : (A.2.2.2.2.2.2.2.2.length : Int) ≤ 120 := by omega
          refine x_aload_n dX9_fold_51 rfl ?_
          refine v_V dX9_fold_52 lX9_105 (c_X9_takeSpare sz hM0) hM.1 rfl rfl rfl rfl (by decide) (fun h1 ⟨ga, hga, hM1, hF1⟩ => ?_)
          have hM : SO h1 h1 m 17 9 (moF m u) (moA (fU w 3 ga)) := hM1
          refine x_aload_n dX9_fold_55 rfl ?_
          refine s_get dX9_fold_56 fX9_7 hM rfl ?_
          refine x_sipush dX9_fold_59 (by decide) ?_
          refine x_iconst dX9_fold_62 ?_
          refine x_iload_n dX9_fold_63 rfl ?_
          refine x_imul dX9_fold_64 ?_
          refine x_iadd dX9_fold_65 ?_
          refine x_iconst dX9_fold_66 ?_
          refine x_iadd dX9_fold_67 ?_
          refine x_iload dX9_fold_68 rfl ?_
          refine s_iast dX9_fold_70 hM rfl rfl ⟨by omega, by omega⟩ (fun h2 hM hF => ?_)
          have hM2 : MoW h2 m (fU (fU w 3 ga) 0 (zU (w 0) (2134 + 3 * y + 2).toNat 1)) u := hM.st
          have hF2 := hM.fr
          refine x_aload_n dX9_fold_71 rfl ?_
          refine v_V dX9_fold_72 lX9_126 (c_X9_record sz hM2 (n := A.2.1.length) k3 i2) hM2.1 rfl rfl rfl rfl (by decide) (fun h3 ⟨g, n1, hn1, hg1, hg2, hM3, hF3⟩ => ?_)
          refine x_aload_n dX9_fold_75 rfl ?_
          have hnw := k1.pf i4 (k := y.toNat) (f := 1) (by omega) (i0 := (2134 + 3 * y + 2).toNat) (by omega)
          rw [q3] at hIn'
          refine p_V dX9_fold_76 lX9_154 (c_X9_rows sz hM3 hnw.2.1 hIn') hM3.1 rfl rfl rfl rfl (by decide) ?_
          refine x_ireturn dX9_fold_79 rfl ?_
          exact ⟨_, rfl, rfl, ⟨_, _, hM3, MoC.done hC0 hIn0 hn1 hg1 (fun i hi => (hg2 i hi).trans (hga i hi)) hnw rfl rfl⟩, (hF1.tr hF2).tr hF3⟩
        · refine x_bipush dX9_fold_48 (by decide) ?_
          refine x_ireturn dX9_fold_50 rfl ?_
          obtain ⟨q2, q3⟩ : z = -6 ∧ A' = A := by
            rcases hSp with q | q | q | q
            · exfalso; have := q.1; omega
            · exact absurd (hk9.mpr qc20q) q.2.1
            · exact ⟨q.2.2.2.1, q.2.2.2.2⟩
            · exfalso; have := q.2.2.1; omega
          rw [q2, q3]
          exact ⟨_, rfl, rfl, ⟨w, u, hM0, hC0⟩, Fr.rf⟩
    · refine x_bipush dX9_fold_23 (by decide) ?_
      refine x_ireturn dX9_fold_25 rfl ?_
      obtain ⟨q2, q3⟩ : z = -5 ∧ A' = A := by
        rcases hSp with q | q | q | q
        · exfalso; have := q.1; omega
        · exact ⟨q.2.2.1, q.2.2.2⟩
        · exact absurd (hk9.mp q.2.1) qc20q
        · exact absurd (hk9.mp q.2.1) qc20q
      rw [q2, q3]
      exact ⟨_, rfl, rfl, ⟨w, u, hM0, hC0⟩, Fr.rf⟩
  · refine x_bipush dX9_fold_12 (by decide) ?_
    refine x_ireturn dX9_fold_14 rfl ?_
    obtain ⟨q2, q3⟩ : z = -2 ∧ A' = A := by
      rcases hSp with q | q | q | q
      · exact ⟨q.2.1, q.2.2⟩
      · have := q.1
        omega
      · have := q.1
        omega
      · have := q.1
        omega
    rw [q2, q3]
    exact ⟨_, rfl, rfl, ⟨w, u, hM0, hC0⟩, Fr.rf⟩
