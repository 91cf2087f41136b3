theorem arr_mem (pl : List PE) : ∀ (n : Nat) (lev : Int) (j : Nat), j ∈ arr pl n lev ↔ (j < n ∧ (pv pl j : Int) < lev ∧ ∀ m, j < m → m < n → pv pl j < pv pl m)
  | 0, lev, j => by
    constructor
    · intro h
      cases h
    · rintro ⟨h, _⟩
      omega
  | n + 1, lev, j => by
    rw [arr]
    by_cases q : (pv pl n : Int) < lev
    · rw [if_pos q, List.mem_cons, arr_mem pl n (pv pl n) j]
      constructor
      · rintro (a | ⟨a1, a2, a3⟩)
        · subst a
          exact ⟨by omega, q, fun m m1 m2 => by omega⟩
        · refine ⟨by omega, by omega, fun m m1 m2 => ?_⟩
          by_cases e : m = n
          · rw [e]; omega
          · exact a3 m m1 (by omega)
      · rintro ⟨a1, a2, a3⟩
        by_cases e : j = n
        · exact Or.inl e
        · have := a3 n (by omega) (by omega)
          exact Or.inr ⟨by omega, by omega, fun m m1 m2 => a3 m m1 (by omega)⟩
    · rw [if_neg q, arr_mem pl n lev j]
      constructor
      · rintro ⟨a1, a2, a3⟩
        refine ⟨by omega, a2, fun m m1 m2 => ?_⟩
        by_cases e : m = n
        · rw [e]; omega
        · exact a3 m m1 (by omega)
      · rintro ⟨a1, a2, a3⟩
        by_cases e : j = n
        · rw [e] at a2
          exact absurd a2 q
        · exact ⟨by omega, a2, fun m m1 m2 => a3 m m1 (by omega)⟩
theorem arr_cg {a b : List PE} (h : ∀ i, pv a i = pv b i) : ∀ (n : Nat) (lev : Int), arr a n lev = arr b n lev
  | 0, _ => rfl
  | n + 1, lev => by
    rw [arr, arr, h n, arr_cg h n, arr_cg h n]
theorem arr_none {pl : List PE} {lev : Int} : ∀ n : Nat, (∀ m, m < n → lev ≤ (pv pl m : Int)) → arr pl n lev = []
  | 0, _ => rfl
  | n + 1, h => by
    have := h n (by omega)
    rw [arr, if_neg (by omega), arr_none n (fun m hm => h m (by omega))]
theorem arr_skip {pl : List PE} {lev : Int} {j : Nat} (hj : (pv pl j : Int) < lev) : ∀ d : Nat, (∀ m, j < m → m < j + 1 + d → lev ≤ (pv pl m : Int)) → arr pl (j + 1 + d) lev = j :: arr pl j (pv pl j)
  | 0, _ => by
    rw [Nat.add_zero, arr, if_pos hj]
  | d + 1, h => by
    have := h (j + 1 + d) (by omega) (by omega)
    rw [← Nat.add_assoc, arr, if_neg (by omega), arr_skip hj d (fun m m1 m2 => h m m1 (by omega))]
theorem arr_par {pl : List PE} (hB : PlB pl) (hLv : LvP pl) {z : Nat} (hz : z < pl.length) : (-1 ≤ pPar pl z ∧ pPar pl z < z) ∧ arr pl z (pv pl z) = if pPar pl z < 0 then [] else (pPar pl z).toNat :: arr pl (pPar pl z).toNat (pv pl (pPar pl z).toNat) := by
  rcases pPar_at hB hLv hz with ⟨q1, q2⟩ | ⟨j, q1, q2, q3, q4⟩
  · rw [q2, if_pos (by omega)]
    refine ⟨⟨by omega, by omega⟩, arr_none z (fun m hm => ?_)⟩
    have := (hB.2 m (by omega)).2.2.1
    omega
  · rw [q2, if_neg (by omega), Int.toNat_natCast]
    refine ⟨⟨by omega, by omega⟩, ?_⟩
    obtain ⟨d, rfl⟩ : ∃ d, z = j + 1 + d := ⟨z - (j + 1), by omega⟩
    exact arr_skip (by omega) d (fun m m1 m2 => by have := q4 m m1 m2; omega)
theorem sn_arr {pl : List PE} (hB : PlB pl) {k : Nat} (hk : k < pl.length) : sn pl k = true ↔ ¬ ((arr pl k (pv pl k)).any (fun j => decide (pf pl j = 1)) = true) := by
  rw [sn_iff hB hk, List.any_eq_true]
  constructor
  · rintro h ⟨j, j1, j2⟩
    obtain ⟨a1, a2, a3⟩ := (arr_mem pl k (pv pl k) j).mp j1
    refine h j ⟨a1, fun m m1 m2 => ?_⟩ (of_decide_eq_true j2)
    by_cases e : m = k
    · rw [e]; omega
    · exact a3 m m1 (by omega)
  · intro h j hj hf
    exact h ⟨j, (arr_mem pl k (pv pl k) j).mpr ⟨hj.1, by have := hj.2 k hj.1 (Nat.le_refl _); omega, fun m m1 m2 => hj.2 m m1 (by omega)⟩, decide_eq_true hf⟩
theorem pPar_cg {a b : List PE} (h : ∀ i, pv a i = pv b i) (z : Int) : pPar a z = pPar b z := by
  unfold pPar pAt gV
  simp only [h]
theorem c_X9_show (sz : Nat) {h : AH} {m : Nat} {A : AS} (hMo : MoR h m A) (hIn : In2 A) (hIv : InvS A.2.2.2.2) (hSB : StB A.2.2.2.2) {y z : Int} (hy : inR y) {A' : AS} (hSp : SpShow A y z A') : CC mX9_show 3 0 0 [.ref m, .int (zI y)] sz h (QI (fun z' h' => z' = z ∧ MoR h' m A' ∧ Fr h h' m (m + 17))) := by
  refine CC.intro [some (.ref m), some (.int (zI y)), none, none] pfX9_show rfl rfl ?_
  obtain ⟨w, u, hM, hC⟩ := hMo
  have hM0 := hM
  unfold MoW at hM
  have hC0 := hC
  have hIn0 := hIn
  obtain ⟨k1, k2, k3, k4, k5, k6⟩ := hC
  obtain ⟨i1, i2, i3, i4, i5, i6⟩ := hIn
  have hB := i4.1
  have hL := hB.1
  have hKB := i4.2.2.1
  have hLv := hIv.wf.1
  unfold SpShow at hSp
  dsimp only at hSp
  refine x_aload_n dX9_show_0 rfl ?_
  refine x_iload_n dX9_show_1 rfl ?_
  refine p_V dX9_show_2 lX9_158 (c_X9_isNode sz hM0 k1.1 k1.2.2.1 k1.2.2.2.1 hKB hy) hM.1 rfl rfl rfl rfl (by decide) ?_
  refine x_ifB_ne dX9_show_5 (fun qc5q => ?_) (fun qc5q => ?_)
  · have hf := qc5q.2
    obtain ⟨g0, g1, g2⟩ : 0 ≤ pFst A.2.2.2.2.2.2.2.2 y ∧ pFst A.2.2.2.2.2.2.2.2 y < A.2.2.2.2.2.2.2.2.length ∧ gN A.2.2.2.2.2.2.2.2 (pFst A.2.2.2.2.2.2.2.2 y) = y := by
      rcases pFst_r A.2.2.2.2.2.2.2.2 y with q | q
      · exact absurd q.1 hf
      · exact q
    refine x_aload_n dX9_show_11 rfl ?_
    refine x_iload_n dX9_show_12 rfl ?_
    refine p_V dX9_show_13 lX9_161 (c_X9_firstPlace sz hM0 k1.2.1 hB hy hf) hM.1 rfl rfl rfl rfl (by decide) ?_
    generalize hgg : pFst A.2.2.2.2.2.2.2.2 y = g at *
    have hgp := gV_p (pl := A.2.2.2.2.2.2.2.2) g0
    have hp0 := arr_par hB hLv (z := g.toNat) (by omega)
    rw [show ((g.toNat : Nat) : Int) = g by omega, hgp.1] at hp0
    refine x_istore_n dX9_show_16 rfl rfl rfl ?_
    refine x_aload_n dX9_show_17 rfl ?_
    refine x_iload_n dX9_show_18 rfl ?_
    refine p_V dX9_show_19 lX9_80 (c_X9_isSeen sz hM0 k1.2.1 hB g0 g1) hM.1 rfl rfl rfl rfl (by decide) ?_
    refine x_ifB_eq dX9_show_22 (fun qc22q => ?_) (fun qc22q => ?_)
    · refine x_aload_n dX9_show_28 rfl ?_
      refine v_V dX9_show_29 lX9_105 (c_X9_takeSpare sz hM0) hM.1 rfl rfl rfl rfl (by decide) (fun h1 ⟨ga, hga, hM1, hF1⟩ => ?_)
      refine x_aload_n dX9_show_32 rfl ?_
      refine x_iload_n dX9_show_33 rfl ?_
      refine p_V dX9_show_34 lX9_84 (c_X9_around sz hM1 k1.2.1 hB hLv g0 g1) hM1.1 rfl rfl rfl rfl (by decide) ?_
      refine x_istore_n dX9_show_37 rfl rfl rfl ?_
      refine x_loop (fun s : AH × (Nat → Int) × List PE × Int => s.1) (fun s => [some (.ref m), some (.int (zI y)), some (.int (zI g)), some (.int (zI s.2.2.2))]) (fun s => -1 ≤ s.2.2.2 ∧ s.2.2.2 < g ∧ s.2.2.1.length = A.2.2.2.2.2.2.2.2.length ∧ (∀ i, pn s.2.2.1 i = pn A.2.2.2.2.2.2.2.2 i ∧ pv s.2.2.1 i = pv A.2.2.2.2.2.2.2.2 i) ∧ PlB s.2.2.1 ∧ RmR s.2.1 (A.2.2.2.2.1, A.2.2.2.2.2.1, A.2.2.2.2.2.2.1, A.2.2.2.2.2.2.2.1, s.2.2.1) ∧ pUn s.2.2.1 (if s.2.2.2 < 0 then [] else (s.2.2.2).toNat :: arr A.2.2.2.2.2.2.2.2 (s.2.2.2).toNat (pv A.2.2.2.2.2.2.2.2 (s.2.2.2).toNat)) = pUn A.2.2.2.2.2.2.2.2 (arr A.2.2.2.2.2.2.2.2 g.toNat (gV A.2.2.2.2.2.2.2.2 g)) ∧ MoW s.1 m (fU (fU w 3 ga) 0 s.2.1) u ∧ Fr h s.1 m (m + 17)) (fun s => (s.2.2.2 + 1).toNat) (h1, w 0, A.2.2.2.2.2.2.2.2, pPar A.2.2.2.2.2.2.2.2 g) rfl rfl ⟨hp0.1.1, hp0.1.2, rfl, fun _ => ⟨rfl, rfl⟩, hB, k1, by dsimp only; rw [← hp0.2], hM1, hF1⟩ ?_
      clear hM hM0 hM1
      rintro ⟨h2, r1, p1, k⟩ ⟨hk0, hk1, hl, hnv, hB1, hR, hU, hM, hG⟩ ihq
      try dsimp only at *
      have hM2 := hM
      unfold MoW at hM
      refine x_iload_n dX9_show_38 rfl ?_
      refine x_if_lt dX9_show_39 ⟨by omega, by omega⟩ (fun qc39q => ?_) (fun qc39q => ?_)
      · rw [if_pos (by omega), pUn] at hU
        subst hU
        have hsn : sn (pUn A.2.2.2.2.2.2.2.2 (arr A.2.2.2.2.2.2.2.2 g.toNat (gV A.2.2.2.2.2.2.2.2 g))) g.toNat = true := by
          rw [sn_arr hB1 (by omega), List.any_eq_true]
          rintro ⟨j, j1, j2⟩
          rw [arr_cg (fun i => (hnv i).2), (hnv g.toNat).2, hgp.1] at j1
          have h9 := of_decide_eq_true j2
          rw [pUn_f _ _ _ (fun i hi => by have := arr_lt A.2.2.2.2.2.2.2.2 _ _ i hi; omega), if_pos j1] at h9
          cases h9
        obtain ⟨q2, q3⟩ : A' = Done A (A.2.2.2.2.1, A.2.2.2.2.2.1, A.2.2.2.2.2.2.1, A.2.2.2.2.2.2.2.1, pUn A.2.2.2.2.2.2.2.2 (arr A.2.2.2.2.2.2.2.2 g.toNat (gV A.2.2.2.2.2.2.2.2 g))) ∧ z = rwZ A'.2.2.2.2.2.2.2.2 g := by
          rcases hSp with q | q | q
          · exact absurd q.1 hf
          · exact absurd ((sn_arr hB (k := g.toNat) (by omega)).mpr (by rw [hgp.1]; exact q.2.1)) qc22q
          · exact q.2.2
        rw [q3, q2]
        refine x_aload_n dX9_show_66 rfl ?_
        refine v_V dX9_show_67 lX9_126 (c_X9_record sz hM2 (n := A.2.1.length) k3 i2) hM2.1 rfl rfl rfl rfl (by decide) (fun h4 ⟨g4, n1, hn1, hg1, hg2, hM4, hF4⟩ => ?_)
        refine x_aload_n dX9_show_70 rfl ?_
        refine x_iload_n dX9_show_71 rfl ?_
        refine p_V dX9_show_72 lX9_164 (c_X9_rowOf sz hM4 hR.2.1 hB1 (z := g) (by omega) (by dsimp only; omega)) hM4.1 rfl rfl rfl rfl (by decide) ?_
        refine x_ireturn dX9_show_75 rfl ?_
        refine ⟨_, rfl, ?_, ⟨_, _, hM4, MoC.done hC0 hIn0 hn1 hg1 (fun i hi => (hg2 i hi).trans (hga i hi)) hR rfl rfl⟩, hG.tr hF4⟩
        exact (show rwZ (pUn A.2.2.2.2.2.2.2.2 (arr A.2.2.2.2.2.2.2.2 g.toNat (gV A.2.2.2.2.2.2.2.2 g))) g = cZ (sn (pUn A.2.2.2.2.2.2.2.2 (arr A.2.2.2.2.2.2.2.2 g.toNat (gV A.2.2.2.2.2.2.2.2 g)))) g by unfold rwZ; rw [if_pos hsn]; rfl).symm
      · refine x_aload_n dX9_show_42 rfl ?_
        refine s_get dX9_show_43 fX9_7 hM rfl ?_
        refine x_sipush dX9_show_46 (by decide) ?_
        refine x_iconst dX9_show_49 ?_
        refine x_iload_n dX9_show_50 rfl ?_
        refine x_imul dX9_show_51 ?_
        refine x_iadd dX9_show_52 ?_
        refine x_iconst dX9_show_53 ?_
        refine x_iadd dX9_show_54 ?_
        refine x_iconst dX9_show_55 ?_
        refine s_iast dX9_show_56 hM rfl rfl ⟨by omega, by omega⟩ (fun h3 hM hF => ?_)
        have hM3 : MoW h3 m (fU (fU w 3 ga) 0 (zU r1 (2134 + 3 * k + 2).toNat (0 : Nat))) u := hM.st
        have hF3 := hM.fr
        have hI1 : InvS (A.2.2.2.2.1, A.2.2.2.2.2.1, A.2.2.2.2.2.2.1, A.2.2.2.2.2.2.2.1, p1) := hIv.pl (skL_ext hl hnv)
        have hI2 : In1 (A.2.2.2.2.1, A.2.2.2.2.2.1, A.2.2.2.2.2.2.1, A.2.2.2.2.2.2.2.1, p1) := In1.of ⟨hSB.1, hSB.2.1, hB1⟩ hI1
        have hR3 := hR.pf hI2 (k := k.toNat) (f := 0) (by dsimp only; omega) (i0 := (2134 + 3 * k + 2).toNat) (by omega)
        dsimp only at hR3
        have hl3 : (pSet p1 k.toNat 0).length = A.2.2.2.2.2.2.2.2.length := by rw [pSet_len]; exact hl
        have hnv3 : ∀ i, pn (pSet p1 k.toNat 0) i = pn A.2.2.2.2.2.2.2.2 i ∧ pv (pSet p1 k.toNat 0) i = pv A.2.2.2.2.2.2.2.2 i := fun i => by rw [pSet_n, pSet_v]; exact hnv i
        have hI3 : InvS (A.2.2.2.2.1, A.2.2.2.2.2.1, A.2.2.2.2.2.2.1, A.2.2.2.2.2.2.2.1, pSet p1 k.toNat 0) := hIv.pl (skL_ext hl3 hnv3)
        have hB3 : PlB (pSet p1 k.toNat 0) := hB1.set (by omega) (by omega)
        have hp3 := arr_par hB hLv (z := k.toNat) (by omega)
        rw [show ((k.toNat : Nat) : Int) = k by omega] at hp3
        refine x_aload_n dX9_show_57 rfl ?_
        refine x_iload_n dX9_show_58 rfl ?_
        refine p_V dX9_show_59 lX9_84 (c_X9_around sz hM3 hR3.2.1 hB3 hI3.wf.1 (by omega) (by dsimp only; omega)) hM3.1 rfl rfl rfl rfl (by decide) ?_
        rw [pPar_cg (fun i => (hnv3 i).2) k]
        refine x_istore_n dX9_show_62 rfl rfl rfl ?_
        refine x_goto dX9_show_63 ?_
        refine ihq (h3, zU r1 (2134 + 3 * k + 2).toNat (0 : Nat), pSet p1 k.toNat 0, pPar A.2.2.2.2.2.2.2.2 k) ⟨hp3.1.1, by dsimp only; omega, hl3, hnv3, hB3, hR3, ?_, hM3, hG.tr hF3⟩ (by dsimp only; omega)
        dsimp only
        rw [if_neg (by omega), pUn] at hU
        rw [← hp3.2]
        exact hU
    · refine x_bipush dX9_show_25 (by decide) ?_
      refine x_ireturn dX9_show_27 rfl ?_
      obtain ⟨q2, q3⟩ : z = -6 ∧ A' = A := by
        rcases hSp with q | q | q
        · exact absurd q.1 hf
        · exact ⟨q.2.2.1, q.2.2.2⟩
        · exact absurd q.2.1 (by rw [← hgp.1]; exact (sn_arr hB (k := g.toNat) (by omega)).mp qc22q)
      rw [q2, q3]
      exact ⟨_, rfl, rfl, ⟨w, u, hM0, hC0⟩, Fr.rf⟩
  · have hf2 : pFst A.2.2.2.2.2.2.2.2 y = -2 := by
      rcases pFst_r A.2.2.2.2.2.2.2.2 y with q | ⟨q1, q2, q3⟩
      · exact q.1
      · exfalso
        have h9 := hIv.nd q1 q2
        rw [q3] at h9
        exact qc5q ⟨⟨by omega, by omega⟩, by omega⟩
    refine x_bipush dX9_show_8 (by decide) ?_
    refine x_ireturn dX9_show_10 rfl ?_
    obtain ⟨q2, q3⟩ : z = -2 ∧ A' = A := by
      rcases hSp with q | q | q
      · exact ⟨q.2.1, q.2.2⟩
      · exact absurd hf2 q.1
      · exact absurd hf2 q.1
    rw [q2, q3]
    exact ⟨_, rfl, rfl, ⟨w, u, hM0, hC0⟩, Fr.rf⟩
