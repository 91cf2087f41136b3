theorem pFst_cg {a b : List PE} {z : Int} (h : ∀ i, pn a i = pn b i) (hl : a.length = b.length) : pFst a z = pFst b z := by
  unfold pFst
  rw [hl]
  simp only [h]
theorem RmR.mk {r : Nat → Int} {S : CS} (h : RmR r S) (hI : In1 S) {n b : Nat} (h1 : 1 ≤ n) (h2 : n ≤ S.1) {i0 : Nat} (qe0q : i0 = 2 + 52 * n + 10) : RmR (zU r i0 b) (S.1, S.2.1, fU S.2.2.1 n b, S.2.2.2.1, S.2.2.2.2) := by
  obtain ⟨g0, g1, g2, g3, g4⟩ := h
  have hL := hI.1.1
  have hd := hI.2.2.1.1
  refine ⟨(zU_n (by omega)).trans g0, ⟨(zU_n (by omega)).trans g1.1, fun k hk => ?_⟩, fun x hx => (zU_n (by omega)).trans (g2 x hx), fun x hx => ?_, fun x hx1 hx => ?_⟩
  · rw [zU_n (by omega), zU_n (by omega), zU_n (by omega)]
    exact g1.2 k hk
  · have hl := (hI.2.2.1.2 x hx).1
    dsimp only
    exact ⟨(zU_n (by omega)).trans (g3 x hx).1, fun j hj => (zU_n (by omega)).trans ((g3 x hx).2 j hj)⟩
  · have hl := (hI.2.1.2 x hx1 hx).1
    dsimp only
    refine ⟨(zU_n (by omega)).trans (g4 x hx1 hx).1, fun j hj => (zU_n (by omega)).trans ((g4 x hx1 hx).2.1 j hj), ?_⟩
    try dsimp only
    by_cases q : x = n
    · rw [q, fU_s, ← qe0q, zU_s]
    · rw [fU_n q, zU_n (by omega)]
      exact (g4 x hx1 hx).2.2
theorem RmR.tx {r r' : Nat → Int} {S : CS} (h : RmR r S) (hI : In1 S) {n : Nat} {t : List Int} (ht : t.length ≤ 8) (h1 : 1 ≤ n) (h2 : n ≤ S.1) (hs : Sm r r' (2 + 52 * n + 1) (2 + 52 * n + 10)) (hl : r' (2 + 52 * n + 1) = t.length) (hg : ∀ j, j < t.length → r' (2 + 52 * n + (2 + j)) = t.getD j 0) : RmR r' (S.1, fU S.2.1 n t, S.2.2.1, S.2.2.2.1, S.2.2.2.2) := by
  obtain ⟨g0, g1, g2, g3, g4⟩ := h
  have hL := hI.1.1
  have hd := hI.2.2.1.1
  refine ⟨(hs _ (by omega)).trans g0, ⟨(hs _ (by omega)).trans g1.1, fun k hk => ?_⟩, fun x hx => (hs _ (by omega)).trans (g2 x hx), fun x hx => ?_, fun x hx1 hx => ?_⟩
  · rw [hs _ (by omega), hs _ (by omega), hs _ (by omega)]
    exact g1.2 k hk
  · have hl := (hI.2.2.1.2 x hx).1
    dsimp only
    exact ⟨(hs _ (by omega)).trans (g3 x hx).1, fun j hj => (hs _ (by omega)).trans ((g3 x hx).2 j hj)⟩
  · have hl2 := (hI.2.1.2 x hx1 hx).1
    dsimp only
    by_cases q : x = n
    · rw [q, fU_s]
      exact ⟨hl, hg, (hs _ (by omega)).trans (g4 n h1 h2).2.2⟩
    · rw [fU_n q]
      exact ⟨(hs _ (by omega)).trans (g4 x hx1 hx).1, fun j hj => (hs _ (by omega)).trans ((g4 x hx1 hx).2.1 j hj), (hs _ (by omega)).trans (g4 x hx1 hx).2.2⟩
theorem RmR.pf {r : Nat → Int} {S : CS} (h : RmR r S) (hI : In1 S) {k f : Nat} (hk : k < S.2.2.2.2.length) {i0 : Nat} (qe0q : i0 = 2134 + 3 * k + 2) : RmR (zU r i0 f) (S.1, S.2.1, S.2.2.1, S.2.2.2.1, pSet S.2.2.2.2 k f) := by
  obtain ⟨g0, g1, g2, g3, g4⟩ := h
  have hL := hI.1.1
  have hd := hI.2.2.1.1
  refine ⟨(zU_n (by omega)).trans g0, ⟨?_, fun j hj => ?_⟩, fun x hx => ?_, fun x hx => ?_, fun x hx1 hx => ?_⟩
  · dsimp only
    rw [pSet_len]
    exact (zU_n (by omega)).trans g1.1
  · dsimp only at hj ⊢
    rw [pSet_len] at hj
    rw [pSet_n, pSet_v]
    refine ⟨(zU_n (by omega)).trans (g1.2 j hj).1, (zU_n (by omega)).trans (g1.2 j hj).2.1, ?_⟩
    by_cases q : j = k
    · rw [q, ← qe0q, zU_s, pSet_f _ _ _ _ hk, if_pos rfl]
    · rw [zU_n (by omega), pSet_f _ _ _ _ hk, if_neg q]
      exact (g1.2 j hj).2.2
  · dsimp only
    have ea : (if alv (pSet S.2.2.2.2 k f) x then (1 : Int) else 0) = if alv S.2.2.2.2 x then 1 else 0 := by
      have qe9q := pFst_cg (a := pSet S.2.2.2.2 k f) (b := S.2.2.2.2) (z := (x : Int)) (pSet_n _ _ _) (pSet_len _ _ _)
      unfold alv
      simp only [qe9q]
    rw [ea]
    exact (zU_n (by omega)).trans (g2 x hx)
  · have hl := (hI.2.2.1.2 x hx).1
    dsimp only
    exact ⟨(zU_n (by omega)).trans (g3 x hx).1, fun j hj => (zU_n (by omega)).trans ((g3 x hx).2 j hj)⟩
  · have hl := (hI.2.1.2 x hx1 hx).1
    dsimp only
    exact ⟨(zU_n (by omega)).trans (g4 x hx1 hx).1, fun j hj => (zU_n (by omega)).trans ((g4 x hx1 hx).2.1 j hj), (zU_n (by omega)).trans (g4 x hx1 hx).2.2⟩

theorem c_X9_mark (sz : Nat) {h : AH} {m : Nat} {A : AS} (hMo : MoR h m A) (hIn : In2 A) {r v z : Int} (hr : inR r) (hv : inR v) {A' : AS} (hSp : SpMark A r v z A') : CC mX9_mark 3 0 0 [.ref m, .int (zI r), .int (zI v)] sz h (QI (fun z' h' => z' = z ∧ MoR h' m A' ∧ Fr h h' m (m + 17))) := by
  refine CC.intro [some (.ref m), some (.int (zI r)), some (.int (zI v)), none, none] pfX9_mark rfl rfl ?_
  obtain ⟨w, u, hM, hC⟩ := hMo
  have hM0 := hM
  unfold MoW at hM
  have hC0 := hC
  have hIn0 := hIn
  obtain ⟨k1, k2, k3, k4, k5, k6⟩ := hC
  obtain ⟨i1, i2, i3, i4, i5, i6⟩ := hIn
  have hB := i4.1
  have hL := hB.1
  have hKB := i4.2.2.1
  have hd40 := hKB.1
  have hW : Wf A.2.2.2.2 := i4.2.2.2.1
  have hz9 := plM_z A.2.2.2.2.2.2.2.2 r
  have hzr := plZ_r A.2.2.2.2.2.2.2.2 r
  unfold SpMark at hSp
  dsimp only at hSp
  generalize hzz : plZ A.2.2.2.2.2.2.2.2 r = k at *
  generalize hyy : plM A.2.2.2.2.2.2.2.2 r = y at *
  refine x_aload_n dX9_mark_0 rfl ?_
  refine x_iload_n dX9_mark_1 rfl ?_
  refine p_V dX9_mark_2 lX9_88 (c_X9_placeOf sz hM0 k1.2.1 hB hr) hM.1 rfl rfl rfl rfl (by decide) ?_
  rw [hyy]
  refine x_istore_n dX9_mark_5 rfl rfl rfl ?_
  refine x_iload_n dX9_mark_6 rfl ?_
  refine x_bipush dX9_mark_7 (by decide) ?_
  refine x_icmp_ne dX9_mark_9 ⟨by omega, by omega⟩ ⟨by omega, by omega⟩ (fun qc9q => ?_) (fun qc9q => ?_)
  · obtain ⟨hyz, hz0, hz1, hzs⟩ : y = k ∧ 0 ≤ k ∧ k < A.2.2.2.2.2.2.2.2.length ∧ sn A.2.2.2.2.2.2.2.2 k.toNat = true := by
      rcases hz9 with q | q
      · omega
      · exact q
    subst hyz
    have hn := hW.n hB hz0 hz1
    have hat := k1.2.1.at hz0 hz1
    have hgp := gV_p (pl := A.2.2.2.2.2.2.2.2) hz0
    refine x_iload_n dX9_mark_15 rfl ?_
    refine x_iconst dX9_mark_16 ?_
    refine x_iconst dX9_mark_17 ?_
    refine p_S dX9_mark_18 lX9_101 (c_X9_in sz h hv (b := 0) (c := 4) ⟨by omega, by omega⟩ ⟨by omega, by omega⟩) rfl rfl rfl (by decide) ?_
    refine x_ifB_ne dX9_mark_21 (fun qc21q => ?_) (fun qc21q => ?_)
    · have hv5 : 0 ≤ v ∧ v < 5 := ⟨qc21q.1, by omega⟩
      obtain ⟨q3, q2⟩ : A' = Done A (A.2.2.2.2.1, A.2.2.2.2.2.1, fU A.2.2.2.2.2.2.1 (gN A.2.2.2.2.2.2.2.2 y).toNat (A.2.2.2.2.2.2.1 (gN A.2.2.2.2.2.2.2.2 y).toNat ^^^ 2 ^ v.toNat), A.2.2.2.2.2.2.2.1, A.2.2.2.2.2.2.2.2) ∧ z = ((A.2.2.2.2.2.2.1 (gN A.2.2.2.2.2.2.2.2 y).toNat ^^^ 2 ^ v.toNat : Nat) : Int) := by
        rcases hSp with q | q | q
        · have := q.1
          omega
        · exact absurd hv5 q.2.1
        · exact q.2.2
      rw [q2, q3]
      have h8 := i4.2.1.2 (gN A.2.2.2.2.2.2.2.2 y).toNat (by omega) (by omega)
      have hxx := xor5 (A.2.2.2.2.2.2.1 (gN A.2.2.2.2.2.2.2.2 y).toNat) v.toNat h8.2.2 (by omega)
      have hmx := (k1.2.2.2.2 (gN A.2.2.2.2.2.2.2.2 y).toNat (by omega) (by omega)).2.2
      generalize hbb : A.2.2.2.2.2.2.1 (gN A.2.2.2.2.2.2.2.2 y).toNat ^^^ 2 ^ v.toNat = bb at *
      refine x_aload_n dX9_mark_27 rfl ?_
      refine v_V dX9_mark_28 lX9_105 (c_X9_takeSpare sz hM0) hM.1 rfl rfl rfl rfl (by decide) (fun h1 ⟨ga, hga, hM1, hF1⟩ => ?_)
      refine x_aload_n dX9_mark_31 rfl ?_
      refine x_iload_n dX9_mark_32 rfl ?_
      refine x_iconst dX9_mark_33 ?_
      refine p_V dX9_mark_34 lX9_77 (c_X9_at sz hM1 (x := y) (v := 0) (by omega)) hM1.1 rfl rfl rfl rfl (by decide) ?_
      rw [show fU w 3 ga 0 (2134 + 3 * y + 0).toNat = w 0 (2134 + 3 * y + 0).toNat from rfl, hat.1, hgp.2.1]
      refine x_istore dX9_mark_37 rfl rfl rfl ?_
      refine x_aload_n dX9_mark_39 rfl ?_
      refine x_iload dX9_mark_40 rfl ?_
      refine x_bipush dX9_mark_42 (by decide) ?_
      refine x_aload_n dX9_mark_44 rfl ?_
      refine x_iload dX9_mark_45 rfl ?_
      refine x_bipush dX9_mark_47 (by decide) ?_
      refine p_V dX9_mark_49 lX9_64 (c_X9_of sz hM1 (x := gN A.2.2.2.2.2.2.2.2 y) (v := 10) (by omega)) hM1.1 rfl rfl rfl rfl (by decide) ?_
      rw [show fU w 3 ga 0 (2 + 52 * gN A.2.2.2.2.2.2.2.2 y + 10).toNat = (A.2.2.2.2.2.2.1 (gN A.2.2.2.2.2.2.2.2 y).toNat : Int) by rw [← hmx]; show w 0 _ = w 0 _; congr 1; omega]
      refine x_iconst dX9_mark_52 ?_
      refine x_iload_n dX9_mark_53 rfl ?_
      refine x_ishl dX9_mark_54 (shl5 hv5.1 hv5.2) ?_
      refine x_ixor dX9_mark_55 (z := (bb : Int)) hxx.1 ?_
      refine v_V dX9_mark_56 lX9_91 (c_X9_to sz hM1 (x := gN A.2.2.2.2.2.2.2.2 y) (v := 10) (z := (bb : Int)) (by omega)) hM1.1 rfl rfl rfl rfl (by decide) (fun h2 ⟨hM2, hF2⟩ => ?_)
      refine x_aload_n dX9_mark_59 rfl ?_
      refine v_V dX9_mark_60 lX9_126 (c_X9_record sz hM2 (n := A.2.1.length) k3 i2) hM2.1 rfl rfl rfl rfl (by decide) (fun h3 ⟨g, n1, hn1, hg1, hg2, hM3, hF3⟩ => ?_)
      refine x_aload_n dX9_mark_63 rfl ?_
      refine x_iload dX9_mark_64 rfl ?_
      refine x_bipush dX9_mark_66 (by decide) ?_
      refine p_V dX9_mark_68 lX9_64 (c_X9_of sz hM3 (x := gN A.2.2.2.2.2.2.2.2 y) (v := 10) (by omega)) hM3.1 rfl rfl rfl rfl (by decide) ?_
      refine x_ireturn dX9_mark_71 rfl ?_
      refine ⟨_, rfl, ?_, ⟨_, _, hM3, MoC.done hC0 hIn0 hn1 hg1 (fun i hi => (hg2 i hi).trans (hga i hi)) ?_ rfl rfl⟩, (hF1.tr hF2).tr hF3⟩
      · show zU (w 0) (2 + 52 * gN A.2.2.2.2.2.2.2.2 y + 10).toNat (bb : Int) (2 + 52 * gN A.2.2.2.2.2.2.2.2 y + 10).toNat = (bb : Int)
        rw [zU_s]
      · exact k1.mk i4 (n := (gN A.2.2.2.2.2.2.2.2 y).toNat) (b := bb) (by omega) (by omega) (by omega)
    · refine x_bipush dX9_mark_24 (by decide) ?_
      refine x_ireturn dX9_mark_26 rfl ?_
      obtain ⟨q2, q3⟩ : z = -3 ∧ A' = A := by
        rcases hSp with q | q | q
        · have := q.1
          omega
        · exact ⟨q.2.2.1, q.2.2.2⟩
        · exact absurd ⟨q.2.1.1, by have := q.2.1.2; omega⟩ qc21q
      rw [q2, q3]
      exact ⟨_, rfl, rfl, ⟨w, u, hM0, hC0⟩, Fr.rf⟩
  · refine x_bipush dX9_mark_12 (by decide) ?_
    refine x_ireturn dX9_mark_14 rfl ?_
    obtain ⟨q2, q3⟩ : z = -2 ∧ A' = A := by
      rcases hSp with q | q | q
      · exact ⟨q.2.1, q.2.2⟩
      · have := q.1
        omega
      · have := q.1
        omega
    rw [q2, q3]
    exact ⟨_, rfl, rfl, ⟨w, u, hM0, hC0⟩, Fr.rf⟩
