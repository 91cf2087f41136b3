theorem pl_ext {a b : List PE} (hl : a.length = b.length) (h : ∀ i, i < a.length → pn a i = pn b i ∧ pv a i = pv b i ∧ pf a i = pf b i) : a = b := by
  apply List.ext_getElem hl
  intro i h1 h2
  have h3 := h i h1
  unfold pn pv pf at h3
  rw [List.getD_eq_getElem?_getD, List.getD_eq_getElem?_getD, List.getElem?_eq_getElem h1, List.getElem?_eq_getElem h2] at h3
  exact Prod.ext h3.1 (Prod.ext h3.2.1 h3.2.2)
theorem pFL_id {pl : List PE} {L : Int} (h : ∀ k, k < pl.length → fLv pl L k = pf pl k) : pFL pl L pl.length = pl := by
  refine pl_ext (pFL_len _ _ _) (fun i hi => ?_)
  rw [pFL_len] at hi
  have h1 := pFL_nv pl L i pl.length
  refine ⟨h1.1, h1.2, ?_⟩
  rw [pFL_f pl L i pl.length (Nat.le_refl _), if_pos hi, h i hi]
theorem c_X9_foldLevel (sz : Nat) {h : AH} {m : Nat} {A : AS} (hMo : MoR h m A) (hIn : In2 A) (hIv : InvS A.2.2.2.2) (hSB : StB A.2.2.2.2) {v z : Int} (hv : inR v) {A' : AS} (hSp : SpFLev A v z A') : CC mX9_foldLevel 3 0 0 [.ref m, .int (zI v)] sz h (QI (fun z' h' => z' = z ∧ MoR h' m A' ∧ Fr h h' m (m + 17))) := by
  refine CC.intro [some (.ref m), some (.int (zI v)), none, none, none] pfX9_foldLevel rfl rfl ?_
  obtain ⟨w, u, hM, hC⟩ := hMo
  have hM0 := hM
  unfold MoW at hM
  have hC0 := hC
  have hIn0 := hIn
  obtain ⟨k1, k2, k3, k4, k5, k6⟩ := hC
  obtain ⟨i1, i2, i3, i4, i5, i6⟩ := hIn
  have hB := i4.1
  have hL := hB.1
  have hKB := i4.2.2.1
  unfold SpFLev at hSp
  dsimp only at hSp
  refine x_iload_n dX9_foldLevel_0 rfl ?_
  refine x_iconst dX9_foldLevel_1 ?_
  refine x_bipush dX9_foldLevel_2 (by decide) ?_
  refine p_S dX9_foldLevel_4 lX9_101 (c_X9_in sz h hv (b := 1) (c := 40) ⟨by omega, by omega⟩ ⟨by omega, by omega⟩) rfl rfl rfl (by decide) ?_
  refine x_ifB_ne dX9_foldLevel_7 (fun qc7q => ?_) (fun qc7q => ?_)
  · refine x_aload_n dX9_foldLevel_13 rfl ?_
    refine v_V dX9_foldLevel_14 lX9_105 (c_X9_takeSpare sz hM0) hM.1 rfl rfl rfl rfl (by decide) (fun h1 ⟨ga, hga, hM1, hF1⟩ => ?_)
    refine x_iconst dX9_foldLevel_17 ?_
    refine x_istore_n dX9_foldLevel_18 rfl rfl rfl ?_
    refine x_iconst dX9_foldLevel_19 ?_
    refine x_istore_n dX9_foldLevel_20 rfl rfl rfl ?_
    refine x_loop (fun s : AH × (Nat → Int) × Int × Int => s.1) (fun s => [some (.ref m), some (.int (zI v)), some (.int (zI s.2.2.2)), some (.int (zI s.2.2.1)), none]) (fun s => 0 ≤ s.2.2.1 ∧ s.2.2.1 ≤ A.2.2.2.2.2.2.2.2.length ∧ RmR s.2.1 (A.2.2.2.2.1, A.2.2.2.2.2.1, A.2.2.2.2.2.2.1, A.2.2.2.2.2.2.2.1, pFL A.2.2.2.2.2.2.2.2 v s.2.2.1.toNat) ∧ MoW s.1 m (fU (fU w 3 ga) 0 s.2.1) u ∧ Fr h s.1 m (m + 17) ∧ s.2.2.2 = (if ∃ j, j < s.2.2.1.toNat ∧ fLv A.2.2.2.2.2.2.2.2 v j ≠ pf A.2.2.2.2.2.2.2.2 j then 1 else 0)) (fun s => (A.2.2.2.2.2.2.2.2.length - s.2.2.1).toNat) (h1, w 0, 0, 0) rfl rfl ⟨by dsimp only; omega, by dsimp only; omega, k1, hM1, hF1, by dsimp only; rw [if_neg]; rintro ⟨j, hj, -⟩; simp at hj⟩ ?_
    clear hM hM0 hM1
    rintro ⟨h2, r1, k, c⟩ ⟨hk0, hk1, hR, hM, hG, hc⟩ ihq
    try dsimp only at *
    have hM2 := hM
    unfold MoW at hM
    have hI1 : InvS (A.2.2.2.2.1, A.2.2.2.2.2.1, A.2.2.2.2.2.2.1, A.2.2.2.2.2.2.2.1, pFL A.2.2.2.2.2.2.2.2 v k.toNat) := hIv.pl (skL_ext (pFL_len _ _ _) (fun i => pFL_nv _ _ _ _))
    have hB1 : PlB (pFL A.2.2.2.2.2.2.2.2 v k.toNat) := pFL_B hB _ _ (by omega)
    have hI2 : In1 (A.2.2.2.2.1, A.2.2.2.2.2.1, A.2.2.2.2.2.2.1, A.2.2.2.2.2.2.2.1, pFL A.2.2.2.2.2.2.2.2 v k.toNat) := In1.of ⟨hSB.1, hSB.2.1, hB1⟩ hI1
    have hlen : fU (fU w 3 ga) 0 r1 0 (1 : Int).toNat = (A.2.2.2.2.2.2.2.2.length : Int) := by
      have := hR.2.1.1
      rw [pFL_len] at this
      exact this
    have hc01 : c = 0 ∨ c = 1 := by
      rw [hc]
      split
      · exact Or.inr rfl
      · exact Or.inl rfl
    have hpre : k < A.2.2.2.2.2.2.2.2.length → r1 (2134 + 3 * k + 1).toNat = (pv A.2.2.2.2.2.2.2.2 k.toNat : Int) ∧ r1 (2134 + 3 * k + 2).toNat = (pf A.2.2.2.2.2.2.2.2 k.toNat : Int) ∧ (1 ≤ pv A.2.2.2.2.2.2.2.2 k.toNat ∧ pv A.2.2.2.2.2.2.2.2 k.toNat ≤ 40 ∧ pf A.2.2.2.2.2.2.2.2 k.toNat ≤ 1) ∧ (fLv A.2.2.2.2.2.2.2.2 v k.toNat ≤ 1 ∧ ((fLv A.2.2.2.2.2.2.2.2 v k.toNat : Int) = if (pv A.2.2.2.2.2.2.2.2 k.toNat : Int) < v then 0 else if (pv A.2.2.2.2.2.2.2.2 k.toNat : Int) = v ∧ pv A.2.2.2.2.2.2.2.2 k.toNat < pv A.2.2.2.2.2.2.2.2 (k.toNat + 1) then 1 else (pf A.2.2.2.2.2.2.2.2 k.toNat : Int))) ∧ (0 < (kid A.2.2.2.2.2.2.2.1 (pn (pFL A.2.2.2.2.2.2.2.2 v k.toNat) k.toNat)).length ↔ pv A.2.2.2.2.2.2.2.2 k.toNat < pv A.2.2.2.2.2.2.2.2 (k.toNat + 1)) ∧ pn (pFL A.2.2.2.2.2.2.2.2 v k.toNat) k.toNat ≤ A.2.2.2.2.1 := by
      intro hlt
      have hat := hR.2.1.at hk0 (by rw [pFL_len]; exact hlt)
      have qe5q := pFL_f A.2.2.2.2.2.2.2.2 v k.toNat k.toNat (by omega)
      rw [if_neg (by omega)] at qe5q
      have qe4q := pFL_nv A.2.2.2.2.2.2.2.2 v k.toNat k.toNat
      have qe6q := hB.2 k.toNat (by omega)
      have qe7q := hIv.hk k hk0 hlt
      have qe8q : gV A.2.2.2.2.2.2.2.2 k = (pv A.2.2.2.2.2.2.2.2 k.toNat : Int) := by unfold gV; rw [if_pos hk0]
      have qe9q : gV A.2.2.2.2.2.2.2.2 (k + 1) = (pv A.2.2.2.2.2.2.2.2 (k.toNat + 1) : Int) := by unfold gV; rw [if_pos (by omega), show (k + 1).toNat = k.toNat + 1 by omega]
      rw [qe8q, qe9q] at qe7q
      dsimp only at hat
      refine ⟨hat.2.1.trans (by rw [qe4q.2]), hat.2.2.trans (by rw [qe5q]), ⟨qe6q.2.2.1, qe6q.2.2.2.1, qe6q.2.2.2.2⟩, ⟨fLv_1 hB v _ (by omega), fLv_if hB (by omega)⟩, ?_, ?_⟩
      · rw [qe4q.1, ← qe7q]
        omega
      · rw [qe4q.1]
        exact hIv.wf.2 _ (by omega)
    have K73 : ∀ f : Nat, k < A.2.2.2.2.2.2.2.2.length → (f : Int) = fLv A.2.2.2.2.2.2.2.2 v k.toNat → f ≤ 1 → XM mX9_foldLevel 3 0 0 (QI (fun z' h' => z' = z ∧ MoR h' m A' ∧ Fr h h' m (m + 17))) 0 0 sz h2 73 [some (.ref m), some (.int (zI v)), some (.int (zI c)), some (.int (zI k)), none] [.int (zI (f : Int))] := by
      intro f hlt hf hf1
      obtain ⟨a1, a2, a3, a4, a5, a6⟩ := hpre hlt
      have hE : (∃ j, j < k.toNat + 1 ∧ fLv A.2.2.2.2.2.2.2.2 v j ≠ pf A.2.2.2.2.2.2.2.2 j) ↔ (c = 1 ∨ f ≠ pf A.2.2.2.2.2.2.2.2 k.toNat) := by
        constructor
        · rintro ⟨j, j1, j2⟩
          by_cases q : j = k.toNat
          · right
            subst q
            omega
          · left
            rw [hc, if_pos ⟨j, by omega, j2⟩]
        · rintro (q | q)
          · rw [hc] at q
            by_cases q2 : ∃ j, j < k.toNat ∧ fLv A.2.2.2.2.2.2.2.2 v j ≠ pf A.2.2.2.2.2.2.2.2 j
            · obtain ⟨j, j1, j2⟩ := q2
              exact ⟨j, by omega, j2⟩
            · rw [if_neg q2] at q
              cases q
          · exact ⟨k.toNat, by omega, by omega⟩
      have hnext : ∀ (h3 : AH) (c' : Int), MoW h3 m (fU (fU w 3 ga) 0 (zU r1 (2134 + 3 * k + 2).toNat (f : Int))) u → Fr h2 h3 m (m + 17) → c' = (if ∃ j, j < k.toNat + 1 ∧ fLv A.2.2.2.2.2.2.2.2 v j ≠ pf A.2.2.2.2.2.2.2.2 j then 1 else 0) → XM mX9_foldLevel 3 0 0 (QI (fun z' h' => z' = z ∧ MoR h' m A' ∧ Fr h h' m (m + 17))) 0 0 sz h3 21 [some (.ref m), some (.int (zI v)), some (.int (zI c')), some (.int (zI (k + 1))), none] [] := by
        intro h3 c' hM3 hF3 hc'
        refine ihq (h3, zU r1 (2134 + 3 * k + 2).toNat (f : Int), k + 1, c') ⟨by dsimp only; omega, by dsimp only; omega, ?_, hM3, hG.tr hF3, ?_⟩ (by dsimp only; omega)
        · have qe1q := hR.pf hI2 (k := k.toNat) (f := f) (by dsimp only; rw [pFL_len]; omega) (i0 := (2134 + 3 * k + 2).toNat) (by omega)
          dsimp only at qe1q ⊢
          rw [show (k + 1).toNat = k.toNat + 1 by omega, pFL, show fLv A.2.2.2.2.2.2.2.2 v k.toNat = f by omega]
          exact qe1q
        · dsimp only
          rw [show (k + 1).toNat = k.toNat + 1 by omega]
          exact hc'
      refine x_istore dX9_foldLevel_73 rfl rfl rfl ?_
      refine x_iload_n dX9_foldLevel_75 rfl ?_
      refine x_if_ne dX9_foldLevel_76 ⟨by omega, by omega⟩ (fun qc76q => ?_) (fun qc76q => ?_)
      · refine x_iconst dX9_foldLevel_90 ?_
        refine x_goto dX9_foldLevel_91 ?_
        refine x_istore_n dX9_foldLevel_95 rfl rfl rfl ?_
        refine x_aload_n dX9_foldLevel_96 rfl ?_
        refine s_get dX9_foldLevel_97 fX9_7 hM rfl ?_
        refine x_sipush dX9_foldLevel_100 (by decide) ?_
        refine x_iconst dX9_foldLevel_103 ?_
        refine x_iload_n dX9_foldLevel_104 rfl ?_
        refine x_imul dX9_foldLevel_105 ?_
        refine x_iadd dX9_foldLevel_106 ?_
        refine x_iconst dX9_foldLevel_107 ?_
        refine x_iadd dX9_foldLevel_108 ?_
        refine x_iload dX9_foldLevel_109 rfl ?_
        refine s_iast dX9_foldLevel_111 hM rfl rfl ⟨by omega, by omega⟩ (fun h3 hM hF => ?_)
        have hM3 : MoW h3 m (fU (fU w 3 ga) 0 (zU r1 (2134 + 3 * k + 2).toNat (f : Int))) u := hM.st
        have hF3 := hM.fr
        refine x_iinc dX9_foldLevel_112 rfl rfl rfl ?_
        refine x_goto dX9_foldLevel_115 ?_
        refine x_kill 4 ?_
        refine hnext _ _ hM3 hF3 ?_
        first | exact (if_pos (hE.mpr (Or.inl (by clear hE hc hSp; omega)))).symm | exact (if_pos (hE.mpr (Or.inr (by clear hE hc hSp; omega)))).symm | exact (if_neg (fun q => (hE.mp q).elim (fun q1 => by clear q hE hc hSp; omega) (fun q1 => by clear q hE hc hSp; omega))).symm
      · refine x_iload dX9_foldLevel_79 rfl ?_
        refine x_aload_n dX9_foldLevel_81 rfl ?_
        refine x_iload_n dX9_foldLevel_82 rfl ?_
        refine x_iconst dX9_foldLevel_83 ?_
        refine p_V dX9_foldLevel_84 lX9_77 (c_X9_at sz hM2 (x := k) (v := 2) (by omega)) hM.1 rfl rfl rfl rfl (by decide) ?_
        rw [show fU (fU w 3 ga) 0 r1 0 (2134 + 3 * k + 2).toNat = (pf A.2.2.2.2.2.2.2.2 k.toNat : Int) from a2]
        refine x_icmp_eq dX9_foldLevel_87 ⟨by omega, by omega⟩ ⟨by omega, by omega⟩ (fun qc87q => ?_) (fun qc87q => ?_)
        · refine x_iconst dX9_foldLevel_94 ?_
          refine x_istore_n dX9_foldLevel_95 rfl rfl rfl ?_
          refine x_aload_n dX9_foldLevel_96 rfl ?_
          refine s_get dX9_foldLevel_97 fX9_7 hM rfl ?_
          refine x_sipush dX9_foldLevel_100 (by decide) ?_
          refine x_iconst dX9_foldLevel_103 ?_
          refine x_iload_n dX9_foldLevel_104 rfl ?_
          refine x_imul dX9_foldLevel_105 ?_
          refine x_iadd dX9_foldLevel_106 ?_
          refine x_iconst dX9_foldLevel_107 ?_
          refine x_iadd dX9_foldLevel_108 ?_
          refine x_iload dX9_foldLevel_109 rfl ?_
          refine s_iast dX9_foldLevel_111 hM rfl rfl ⟨by omega, by omega⟩ (fun h3 hM hF => ?_)
          have hM3 : MoW h3 m (fU (fU w 3 ga) 0 (zU r1 (2134 + 3 * k + 2).toNat (f : Int))) u := hM.st
          have hF3 := hM.fr
          refine x_iinc dX9_foldLevel_112 rfl rfl rfl ?_
          refine x_goto dX9_foldLevel_115 ?_
          refine x_kill 4 ?_
          refine hnext _ _ hM3 hF3 ?_
          first | exact (if_pos (hE.mpr (Or.inl (by clear hE hc hSp; omega)))).symm | exact (if_pos (hE.mpr (Or.inr (by clear hE hc hSp; omega)))).symm | exact (if_neg (fun q => (hE.mp q).elim (fun q1 => by clear q hE hc hSp; omega) (fun q1 => by clear q hE hc hSp; omega))).symm
        · refine x_iconst dX9_foldLevel_90 ?_
          refine x_goto dX9_foldLevel_91 ?_
          refine x_istore_n dX9_foldLevel_95 rfl rfl rfl ?_
          refine x_aload_n dX9_foldLevel_96 rfl ?_
          refine s_get dX9_foldLevel_97 fX9_7 hM rfl ?_
          refine x_sipush dX9_foldLevel_100 (by decide) ?_
          refine x_iconst dX9_foldLevel_103 ?_
          refine x_iload_n dX9_foldLevel_104 rfl ?_
          refine x_imul dX9_foldLevel_105 ?_
          refine x_iadd dX9_foldLevel_106 ?_
          refine x_iconst dX9_foldLevel_107 ?_
          refine x_iadd dX9_foldLevel_108 ?_
          refine x_iload dX9_foldLevel_109 rfl ?_
          refine s_iast dX9_foldLevel_111 hM rfl rfl ⟨by omega, by omega⟩ (fun h3 hM hF => ?_)
          have hM3 : MoW h3 m (fU (fU w 3 ga) 0 (zU r1 (2134 + 3 * k + 2).toNat (f : Int))) u := hM.st
          have hF3 := hM.fr
          refine x_iinc dX9_foldLevel_112 rfl rfl rfl ?_
          refine x_goto dX9_foldLevel_115 ?_
          refine x_kill 4 ?_
          refine hnext _ _ hM3 hF3 ?_
          first | exact (if_pos (hE.mpr (Or.inl (by clear hE hc hSp; omega)))).symm | exact (if_pos (hE.mpr (Or.inr (by clear hE hc hSp; omega)))).symm | exact (if_neg (fun q => (hE.mp q).elim (fun q1 => by clear q hE hc hSp; omega) (fun q1 => by clear q hE hc hSp; omega))).symm
    refine x_iload_n dX9_foldLevel_21 rfl ?_
    refine x_aload_n dX9_foldLevel_22 rfl ?_
    refine s_get dX9_foldLevel_23 fX9_7 hM rfl ?_
    refine x_iconst dX9_foldLevel_26 ?_
    refine s_iald dX9_foldLevel_27 hM rfl rfl ⟨by omega, by omega⟩ ?_
    rw [hlen]
    refine x_icmp_ge dX9_foldLevel_28 ⟨by omega, by omega⟩ ⟨by omega, by omega⟩ (fun qc28q => ?_) (fun qc28q => ?_)
    · have hkl : k.toNat = A.2.2.2.2.2.2.2.2.length := by omega
      rw [hkl] at hc hR hB1 hI1 hI2
      refine x_iload_n dX9_foldLevel_118 rfl ?_
      refine x_if_ne dX9_foldLevel_119 ⟨by omega, by omega⟩ (fun qc119q => ?_) (fun qc119q => ?_)
      · have hyes : ∃ j, j < A.2.2.2.2.2.2.2.2.length ∧ fLv A.2.2.2.2.2.2.2.2 v j ≠ pf A.2.2.2.2.2.2.2.2 j := Classical.byContradiction (fun q => by
          rw [if_neg q] at hc
          omega)
        obtain ⟨q2, q3⟩ : A' = Done A (A.2.2.2.2.1, A.2.2.2.2.2.1, A.2.2.2.2.2.2.1, A.2.2.2.2.2.2.2.1, pFL A.2.2.2.2.2.2.2.2 v A.2.2.2.2.2.2.2.2.length) ∧ z = rwN A'.2.2.2.2 := by
          rcases hSp with q | q | q
          · exact absurd ⟨by omega, by omega⟩ q.1
          · exact absurd hyes q.2.1
          · exact q.2.2
        rw [q3, q2]
        refine x_aload_n dX9_foldLevel_125 rfl ?_
        refine v_V dX9_foldLevel_126 lX9_126 (c_X9_record sz hM2 (n := A.2.1.length) k3 i2) hM2.1 rfl rfl rfl rfl (by decide) (fun h4 ⟨g, n1, hn1, hg1, hg2, hM4, hF4⟩ => ?_)
        refine x_aload_n dX9_foldLevel_129 rfl ?_
        refine p_V dX9_foldLevel_130 lX9_154 (c_X9_rows sz hM4 hR.2.1 hB1) hM4.1 rfl rfl rfl rfl (by decide) ?_
        refine x_ireturn dX9_foldLevel_133 rfl ?_
        exact ⟨_, rfl, rfl, ⟨_, _, hM4, MoC.done hC0 hIn0 hn1 hg1 (fun i hi => (hg2 i hi).trans (hga i hi)) hR rfl rfl⟩, hG.tr hF4⟩
      · refine x_bipush dX9_foldLevel_122 (by decide) ?_
        refine x_ireturn dX9_foldLevel_124 rfl ?_
        have hno : ¬ ∃ j, j < A.2.2.2.2.2.2.2.2.length ∧ fLv A.2.2.2.2.2.2.2.2 v j ≠ pf A.2.2.2.2.2.2.2.2 j := fun q => by
          rw [if_pos q] at hc
          omega
        obtain ⟨q2, q3⟩ : z = -6 ∧ A' = A := by
          rcases hSp with q | q | q
          · exact absurd ⟨by omega, by omega⟩ q.1
          · exact q.2.2
          · exact absurd q.2.1 hno
        rw [q2, q3]
        rw [pFL_id (fun j hj => Classical.byContradiction (fun q => hno ⟨j, hj, q⟩))] at hR
        exact ⟨_, rfl, rfl, ⟨_, _, hM2, hR, k2, k3, k4, k5, k6⟩, hG⟩
    · obtain ⟨a1, a2, a3, a4, a5, a6⟩ := hpre (by omega)
      refine x_aload_n dX9_foldLevel_31 rfl ?_
      refine x_iload_n dX9_foldLevel_32 rfl ?_
      refine x_iconst dX9_foldLevel_33 ?_
      refine p_V dX9_foldLevel_34 lX9_77 (c_X9_at sz hM2 (x := k) (v := 1) (by omega)) hM.1 rfl rfl rfl rfl (by decide) ?_
      rw [show fU (fU w 3 ga) 0 r1 0 (2134 + 3 * k + 1).toNat = (pv A.2.2.2.2.2.2.2.2 k.toNat : Int) from a1]
      refine x_iload_n dX9_foldLevel_37 rfl ?_
      refine x_icmp_ge dX9_foldLevel_38 ⟨by omega, by omega⟩ ⟨by omega, by omega⟩ (fun qc38q => ?_) (fun qc38q => ?_)
      · refine x_aload_n dX9_foldLevel_45 rfl ?_
        refine x_iload_n dX9_foldLevel_46 rfl ?_
        refine x_iconst dX9_foldLevel_47 ?_
        refine p_V dX9_foldLevel_48 lX9_77 (c_X9_at sz hM2 (x := k) (v := 1) (by omega)) hM.1 rfl rfl rfl rfl (by decide) ?_
        rw [show fU (fU w 3 ga) 0 r1 0 (2134 + 3 * k + 1).toNat = (pv A.2.2.2.2.2.2.2.2 k.toNat : Int) from a1]
        refine x_iload_n dX9_foldLevel_51 rfl ?_
        refine x_icmp_ne dX9_foldLevel_52 ⟨by omega, by omega⟩ ⟨by omega, by omega⟩ (fun qc52q => ?_) (fun qc52q => ?_)
        · refine x_aload_n dX9_foldLevel_67 rfl ?_
          refine x_iload_n dX9_foldLevel_68 rfl ?_
          refine x_iconst dX9_foldLevel_69 ?_
          refine p_V dX9_foldLevel_70 lX9_77 (c_X9_at sz hM2 (x := k) (v := 2) (by omega)) hM.1 rfl rfl rfl rfl (by decide) ?_
          rw [show fU (fU w 3 ga) 0 r1 0 (2134 + 3 * k + 2).toNat = (pf A.2.2.2.2.2.2.2.2 k.toNat : Int) from a2]
          first | exact K73 0 (by omega) (by omega) (by omega) | exact K73 1 (by omega) (by omega) (by omega) | exact K73 _ (by omega) (by omega) (by omega)
        · refine x_aload_n dX9_foldLevel_55 rfl ?_
          refine x_iload_n dX9_foldLevel_56 rfl ?_
          refine p_V dX9_foldLevel_57 lX9_151 (c_X9_hasKids sz hM2 hR.2.1 hB1 hR.2.2.2.1 hKB (z := k) hk0 (by rw [pFL_len]; omega) a6) hM.1 rfl rfl rfl rfl (by decide) ?_
          refine x_ifB_eq dX9_foldLevel_60 (fun qc60q => ?_) (fun qc60q => ?_)
          · rw [a5] at qc60q
            refine x_aload_n dX9_foldLevel_67 rfl ?_
            refine x_iload_n dX9_foldLevel_68 rfl ?_
            refine x_iconst dX9_foldLevel_69 ?_
            refine p_V dX9_foldLevel_70 lX9_77 (c_X9_at sz hM2 (x := k) (v := 2) (by omega)) hM.1 rfl rfl rfl rfl (by decide) ?_
            rw [show fU (fU w 3 ga) 0 r1 0 (2134 + 3 * k + 2).toNat = (pf A.2.2.2.2.2.2.2.2 k.toNat : Int) from a2]
            first | exact K73 0 (by omega) (by omega) (by omega) | exact K73 1 (by omega) (by omega) (by omega) | exact K73 _ (by omega) (by omega) (by omega)
          · rw [a5] at qc60q
            refine x_iconst dX9_foldLevel_63 ?_
            refine x_goto dX9_foldLevel_64 ?_
            first | exact K73 0 (by omega) (by omega) (by omega) | exact K73 1 (by omega) (by omega) (by omega) | exact K73 _ (by omega) (by omega) (by omega)
      · refine x_iconst dX9_foldLevel_41 ?_
        refine x_goto dX9_foldLevel_42 ?_
        first | exact K73 0 (by omega) (by omega) (by omega) | exact K73 1 (by omega) (by omega) (by omega) | exact K73 _ (by omega) (by omega) (by omega)
  · refine x_bipush dX9_foldLevel_10 (by decide) ?_
    refine x_ireturn dX9_foldLevel_12 rfl ?_
    obtain ⟨q2, q3⟩ : z = -3 ∧ A' = A := by
      rcases hSp with q | q | q
      · exact ⟨q.2.1, q.2.2⟩
      · exact absurd q.1 qc7q
      · exact absurd q.1 qc7q
    rw [q2, q3]
    exact ⟨_, rfl, rfl, ⟨w, u, hM0, hC0⟩, Fr.rf⟩
