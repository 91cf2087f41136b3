def LvP (pl : List PE) : Prop := ∀ i, i < pl.length → pv pl i = 1 ∨ ∃ j, j < i ∧ pv pl j + 1 = pv pl i ∧ ∀ m, j < m → m < i → pv pl i ≤ pv pl m
def Wf (S : CS) : Prop := LvP S.2.2.2.2 ∧ ∀ i, i < S.2.2.2.2.length → pn S.2.2.2.2 i ≤ S.1
theorem LvP.at {pl : List PE} (h : LvP pl) : ∀ (i : Nat), i < pl.length → ∀ L, 1 ≤ L → L ≤ pv pl i → ∃ j, j ≤ i ∧ pv pl j = L := by
  intro i
  induction i using Nat.strongRecOn with
  | ind i ihn =>
    intro hi L h1 h2
    by_cases e : L = pv pl i
    · exact ⟨i, Nat.le_refl _, e.symm⟩
    · rcases h i hi with q | ⟨j, q1, q2, -⟩
      · omega
      · obtain ⟨k, k1, k2⟩ := ihn j q1 (by omega) L h1 (by omega)
        exact ⟨k, by omega, k2⟩
theorem pAt_in {pl : List PE} (h : LvP pl) {z L : Int} (h0 : 0 ≤ z) (h1 : z < pl.length) (h2 : 1 ≤ L) (h3 : L ≤ gV pl z) : 0 ≤ pAt pl z L := by
  obtain ⟨j, j1, j2⟩ := h.at z.toNat (by omega) L.toNat (by omega) (by rw [← (gV_p (pl := pl) h0).1] at h3; omega)
  unfold pAt bZ
  rcases bB_spec (fun k => decide ((pv pl k : Int) = L)) (z + 1).toNat with ⟨q, q2⟩ | ⟨k, q, -⟩
  · have := q2 j (by omega)
    rw [decide_eq_false_iff_not] at this
    omega
  · omega
theorem flt_kid (L : List LK) (x : Nat) : ((L.filter (fun q : LK => decide ((q.1 : Int) = (x : Int)))).length : Int) = (kid L x).length := by
  unfold kid
  rw [List.length_map]
  congr 3
  funext q
  congr 1
  apply propext
  omega
theorem Wf.n {S : CS} (h : Wf S) (hB : PlB S.2.2.2.2) {z : Int} (h0 : 0 ≤ z) (h1 : z < S.2.2.2.2.length) : 1 ≤ gN S.2.2.2.2 z ∧ gN S.2.2.2.2 z ≤ S.1 ∧ gN S.2.2.2.2 z = ((gN S.2.2.2.2 z).toNat : Int) ∧ (gN S.2.2.2.2 z).toNat ≤ 40 := by
  have q1 := h.2 z.toNat (by omega)
  have q2 := hB.2 z.toNat (by omega)
  have q3 := (gV_p (pl := S.2.2.2.2) h0).2.1
  omega

def spRow (S : CS) (r v : Int) : Int := if plZ S.2.2.2.2 r = -2 then -2 else if v = 0 then gN S.2.2.2.2 (plZ S.2.2.2.2 r) else if v = 1 then gV S.2.2.2.2 (plZ S.2.2.2.2 r) else if v = 2 then poA S (plZ S.2.2.2.2 r) else if v = 3 then ((kid S.2.2.2.1 (gN S.2.2.2.2 (plZ S.2.2.2.2 r)).toNat).length : Int) else if v = 4 then gF S.2.2.2.2 (plZ S.2.2.2.2 r) else if v = 5 then (S.2.2.1 (gN S.2.2.2.2 (plZ S.2.2.2.2 r)).toNat : Int) else if v = 6 then pCnt S.2.2.2.2 (gN S.2.2.2.2 (plZ S.2.2.2.2 r)) else if v = 7 then paR S.2.2.2.2 (plZ S.2.2.2.2 r) else if v = 8 then cZ (sn S.2.2.2.2) (pEnd S.2.2.2.2 (gV S.2.2.2.2 (plZ S.2.2.2.2 r)) (plZ S.2.2.2.2 r + 1)) - cZ (sn S.2.2.2.2) (plZ S.2.2.2.2 r + 1) else -3
theorem c_X8_row (sz : Nat) {h : AH} {x b c d : Nat} {t : List Int} {hs : List CS} {sp S D : CS} (hO : OuR h x t hs sp b c d S D) (hWf : Wf S) {r v : Int} (hr : inR r) (hv : inR v) : CC mX8_row 5 0 0 [.ref x, .int (zI r), .int (zI v)] sz h (QR (spRow S r v) h) := by
  refine CC.intro [some (.ref x), some (.int (zI r)), some (.int (zI v)), none, none, none] pfX8_row rfl rfl ?_
  have hO0 := hO
  obtain ⟨hX, hT, hRe, hRo, hHi, hSp, hC, hD, hcd⟩ := hO
  have hC0 := hC.1
  have hD0 := hD.1
  obtain ⟨_, hTs, -, -⟩ := id hT
  obtain ⟨_, _, hRs, -, -⟩ := id hRo
  obtain ⟨_, _, _, hCN, -, -⟩ := id hC.2.1
  obtain ⟨_, _, hCL, -, -⟩ := id hC.2.2.1
  obtain ⟨_, _, _, hCP, -, -⟩ := id hC.2.2.2
  have hpB := hC.2.2.2.B
  have hpl := hpB.1
  unfold spRow
  have hz := plZ_r S.2.2.2.2 r
  generalize hzz : plZ S.2.2.2.2 r = z at *
  have hg := gN_r hpB z
  have hE := fZ_spec (fun k => decide ((pv S.2.2.2.2 k : Int) ≤ gV S.2.2.2.2 z)) S.2.2.2.2.length (i := z + 1)
  refine x_aload_n dX8_row_0 rfl ?_
  refine s_get dX8_row_1 fX8_26 hX rfl ?_
  refine x_iload_n dX8_row_4 rfl ?_
  refine p_V dX8_row_5 lX8_107 (c_X5_placeOf sz hRo hr) hRs.1 rfl rfl rfl rfl (by decide) ?_
  rw [hzz]
  refine x_istore_n dX8_row_8 rfl rfl rfl ?_
  refine x_iload_n dX8_row_9 rfl ?_
  refine x_bipush dX8_row_10 (by decide) ?_
  refine x_icmp_ne dX8_row_12 ⟨by omega, by omega⟩ ⟨by omega, by omega⟩ (fun qc12q => ?_) (fun qc12q => ?_)
  · refine x_aload_n dX8_row_18 rfl ?_
    have hn := hWf.n hpB (z := z) (by omega) (by omega)
    rw [if_neg (by omega)]
    refine s_get dX8_row_19 fX8_48 hX rfl ?_
    refine s_get dX8_row_22 fX8_84 hC0 rfl ?_
    refine x_astore dX8_row_25 rfl rfl rfl ?_
    refine x_aload dX8_row_27 rfl ?_
    refine x_iload_n dX8_row_29 rfl ?_
    refine p_V dX8_row_30 lX8_88 (c_X3_nodeOf sz hC.2.2.2 (z := z) ⟨by omega, by omega⟩) hCP.1 rfl rfl rfl rfl (by decide) ?_
    refine x_istore dX8_row_33 rfl rfl rfl ?_
    refine x_iload_n dX8_row_35 rfl ?_
    by_cases hsw : v < 0 ∨ 8 < v
    · refine x_tableOut 168 dX8_row_36 ⟨by omega, by omega⟩ hsw (by decide) ?_
      refine x_bipush dX8_row_168 (by decide) ?_
      refine x_ireturn dX8_row_170 rfl ?_
      exact ⟨by rw [if_neg (by omega), if_neg (by omega), if_neg (by omega), if_neg (by omega), if_neg (by omega), if_neg (by omega), if_neg (by omega), if_neg (by omega), if_neg (by omega)], rfl⟩
    · rcases (show v = 0 ∨ v = 1 ∨ v = 2 ∨ v = 3 ∨ v = 4 ∨ v = 5 ∨ v = 6 ∨ v = 7 ∨ v = 8 by omega) with rfl | rfl | rfl | rfl | rfl | rfl | rfl | rfl | rfl
      · refine x_tableIn 0 88 dX8_row_36 ⟨by decide, by decide⟩ (by decide) (by decide) rfl (by decide) ?_
        refine x_iload dX8_row_88 rfl ?_
        refine x_ireturn dX8_row_90 rfl ?_
        exact ⟨by simp, rfl⟩
      · refine x_tableIn 1 91 dX8_row_36 ⟨by decide, by decide⟩ (by decide) (by decide) rfl (by decide) ?_
        refine x_aload dX8_row_91 rfl ?_
        refine x_iload_n dX8_row_93 rfl ?_
        refine p_V dX8_row_94 lX8_212 (c_X3_levelOf sz hC.2.2.2 (z := z) ⟨by omega, by omega⟩) hCP.1 rfl rfl rfl rfl (by decide) ?_
        refine x_ireturn dX8_row_97 rfl ?_
        exact ⟨by simp, rfl⟩
      · refine x_tableIn 2 98 dX8_row_36 ⟨by decide, by decide⟩ (by decide) (by decide) rfl (by decide) ?_
        refine x_aload_n dX8_row_98 rfl ?_
        refine x_iload_n dX8_row_99 rfl ?_
        refine p_V dX8_row_100 lX8_215 (c_X8_positionAt sz hO0 (z := z) (by omega) (by omega)) hX.1 rfl rfl rfl rfl (by decide) ?_
        refine x_ireturn dX8_row_103 rfl ?_
        exact ⟨by simp, rfl⟩
      · refine x_tableIn 3 104 dX8_row_36 ⟨by decide, by decide⟩ (by decide) (by decide) rfl (by decide) ?_
        refine x_aload_n dX8_row_104 rfl ?_
        refine s_get dX8_row_105 fX8_48 hX rfl ?_
        refine s_get dX8_row_108 fX8_103 hC0 rfl ?_
        refine x_iload dX8_row_111 rfl ?_
        refine p_V dX8_row_113 lX8_137 (c_X1_childCount sz hC.2.2.1 (z := gN S.2.2.2.2 z) ⟨by omega, by omega⟩) hCL.1 rfl rfl rfl rfl (by decide) ?_
        rw [hn.2.2.1, flt_kid]
        try rw [Int.toNat_natCast]
        refine x_ireturn dX8_row_116 rfl ?_
        exact ⟨by simp, rfl⟩
      · refine x_tableIn 4 117 dX8_row_36 ⟨by decide, by decide⟩ (by decide) (by decide) rfl (by decide) ?_
        refine x_aload dX8_row_117 rfl ?_
        refine x_iload_n dX8_row_119 rfl ?_
        refine p_V dX8_row_120 lX8_164 (c_X3_foldOf sz hC.2.2.2 (z := z) ⟨by omega, by omega⟩) hCP.1 rfl rfl rfl rfl (by decide) ?_
        refine x_ireturn dX8_row_123 rfl ?_
        exact ⟨by simp, rfl⟩
      · refine x_tableIn 5 124 dX8_row_36 ⟨by decide, by decide⟩ (by decide) (by decide) rfl (by decide) ?_
        refine x_aload_n dX8_row_124 rfl ?_
        refine s_get dX8_row_125 fX8_48 hX rfl ?_
        refine s_get dX8_row_128 fX8_62 hC0 rfl ?_
        refine x_iload dX8_row_131 rfl ?_
        refine p_V dX8_row_133 lX8_158 (c_X2_marksOf sz hC.2.1 (i := gN S.2.2.2.2 z) hn.1 hn.2.1) hCN.1 rfl rfl rfl rfl (by decide) ?_
        refine x_ireturn dX8_row_136 rfl ?_
        exact ⟨by simp, rfl⟩
      · refine x_tableIn 6 137 dX8_row_36 ⟨by decide, by decide⟩ (by decide) (by decide) rfl (by decide) ?_
        refine x_aload dX8_row_137 rfl ?_
        refine x_iload dX8_row_139 rfl ?_
        refine p_V dX8_row_141 lX8_148 (c_X3_countOf sz hC.2.2.2 (z := gN S.2.2.2.2 z) ⟨by omega, by omega⟩) hCP.1 rfl rfl rfl rfl (by decide) ?_
        refine x_ireturn dX8_row_144 rfl ?_
        exact ⟨by simp, rfl⟩
      · refine x_tableIn 7 145 dX8_row_36 ⟨by decide, by decide⟩ (by decide) (by decide) rfl (by decide) ?_
        refine x_aload_n dX8_row_145 rfl ?_
        refine x_iload_n dX8_row_146 rfl ?_
        refine p_V dX8_row_147 lX8_218 (c_X8_parentRow sz hO0 (z := z) (by omega) (by omega)) hX.1 rfl rfl rfl rfl (by decide) ?_
        refine x_ireturn dX8_row_150 rfl ?_
        exact ⟨by simp, rfl⟩
      · refine x_tableIn 8 151 dX8_row_36 ⟨by decide, by decide⟩ (by decide) (by decide) rfl (by decide) ?_
        refine x_aload_n dX8_row_151 rfl ?_
        refine s_get dX8_row_152 fX8_26 hX rfl ?_
        refine x_iload_n dX8_row_155 rfl ?_
        refine x_iconst dX8_row_156 ?_
        refine x_iadd dX8_row_157 ?_
        refine x_aload dX8_row_158 rfl ?_
        refine x_iload_n dX8_row_160 rfl ?_
        refine p_V dX8_row_161 lX8_221 (c_X3_endOf sz hC.2.2.2 (z := z) (by omega) (by omega)) hCP.1 rfl rfl rfl rfl (by decide) ?_
        have hE2 := hE (by omega) (by omega)
        refine p_V dX8_row_164 lX8_224 (c_X5_seenBetween sz hRo (u := z + 1) (v := pEnd S.2.2.2.2 (gV S.2.2.2.2 z) (z + 1)) (by omega) hE2.1 hE2.2.1) hRs.1 rfl rfl rfl rfl (by decide) ?_
        refine x_ireturn dX8_row_167 rfl ?_
        exact ⟨by simp, rfl⟩
  · refine x_bipush dX8_row_15 (by decide) ?_
    refine x_ireturn dX8_row_17 rfl ?_
    exact ⟨by rw [if_pos (by omega)], rfl⟩
def spNum (S : CS) (r v : Int) : Int := if plZ S.2.2.2.2 r = -2 then -2 else if v < 1 then -3 else if gV S.2.2.2.2 (plZ S.2.2.2.2 r) < v then -6 else poA S (pAt S.2.2.2.2 (plZ S.2.2.2.2 r) v) + 1
theorem c_X8_number (sz : Nat) {h : AH} {x b c d : Nat} {t : List Int} {hs : List CS} {sp S D : CS} (hO : OuR h x t hs sp b c d S D) (hWf : Wf S) {r v : Int} (hr : inR r) (hv : inR v) : CC mX8_number 5 0 0 [.ref x, .int (zI r), .int (zI v)] sz h (QR (spNum S r v) h) := by
  refine CC.intro [some (.ref x), some (.int (zI r)), some (.int (zI v)), none] pfX8_number rfl rfl ?_
  have hO0 := hO
  obtain ⟨hX, hT, hRe, hRo, hHi, hSp, hC, hD, hcd⟩ := hO
  have hC0 := hC.1
  have hD0 := hD.1
  obtain ⟨_, hTs, -, -⟩ := id hT
  obtain ⟨_, _, hRs, -, -⟩ := id hRo
  obtain ⟨_, _, _, hCN, -, -⟩ := id hC.2.1
  obtain ⟨_, _, hCL, -, -⟩ := id hC.2.2.1
  obtain ⟨_, _, _, hCP, -, -⟩ := id hC.2.2.2
  have hpB := hC.2.2.2.B
  have hpl := hpB.1
  unfold spNum
  have hz := plZ_r S.2.2.2.2 r
  generalize hzz : plZ S.2.2.2.2 r = z at *
  have hg := gV_r hpB z
  refine x_aload_n dX8_number_0 rfl ?_
  refine s_get dX8_number_1 fX8_26 hX rfl ?_
  refine x_iload_n dX8_number_4 rfl ?_
  refine p_V dX8_number_5 lX8_107 (c_X5_placeOf sz hRo hr) hRs.1 rfl rfl rfl rfl (by decide) ?_
  rw [hzz]
  refine x_istore_n dX8_number_8 rfl rfl rfl ?_
  refine x_iload_n dX8_number_9 rfl ?_
  refine x_bipush dX8_number_10 (by decide) ?_
  refine x_icmp_ne dX8_number_12 ⟨by omega, by omega⟩ ⟨by omega, by omega⟩ (fun qc12q => ?_) (fun qc12q => ?_)
  · refine x_iload_n dX8_number_18 rfl ?_
    refine x_iconst dX8_number_19 ?_
    refine x_icmp_ge dX8_number_20 ⟨by omega, by omega⟩ ⟨by omega, by omega⟩ (fun qc20q => ?_) (fun qc20q => ?_)
    · refine x_iload_n dX8_number_26 rfl ?_
      refine x_aload_n dX8_number_27 rfl ?_
      refine s_get dX8_number_28 fX8_48 hX rfl ?_
      refine s_get dX8_number_31 fX8_84 hC0 rfl ?_
      refine x_iload_n dX8_number_34 rfl ?_
      refine p_V dX8_number_35 lX8_212 (c_X3_levelOf sz hC.2.2.2 (z := z) ⟨by omega, by omega⟩) hCP.1 rfl rfl rfl rfl (by decide) ?_
      refine x_icmp_le dX8_number_38 ⟨by omega, by omega⟩ ⟨by omega, by omega⟩ (fun qc38q => ?_) (fun qc38q => ?_)
      · refine x_aload_n dX8_number_44 rfl ?_
        refine x_aload_n dX8_number_45 rfl ?_
        refine s_get dX8_number_46 fX8_48 hX rfl ?_
        refine s_get dX8_number_49 fX8_84 hC0 rfl ?_
        refine x_iload_n dX8_number_52 rfl ?_
        refine x_iload_n dX8_number_53 rfl ?_
        refine p_V dX8_number_54 lX8_227 (c_X3_atLevel sz hC.2.2.2 (z := z) (L := v) (by omega) (by omega) hv) hCP.1 rfl rfl rfl rfl (by decide) ?_
        have ha1 := pAt_in hWf.1 (z := z) (L := v) (by omega) (by omega) (by omega) (by omega)
        have ha2 := pAt_r S.2.2.2.2 z v (by omega)
        refine p_V dX8_number_57 lX8_215 (c_X8_positionAt sz hO0 (z := pAt S.2.2.2.2 z v) ha1 (by omega)) hX.1 rfl rfl rfl rfl (by decide) ?_
        refine x_iconst dX8_number_60 ?_
        refine x_iadd dX8_number_61 ?_
        refine x_ireturn dX8_number_62 rfl ?_
        exact ⟨by rw [if_neg (by omega), if_neg (by omega), if_neg (by omega)], rfl⟩
      · refine x_bipush dX8_number_41 (by decide) ?_
        refine x_ireturn dX8_number_43 rfl ?_
        exact ⟨by rw [if_neg (by omega), if_neg (by omega), if_pos (by omega)], rfl⟩
    · refine x_bipush dX8_number_23 (by decide) ?_
      refine x_ireturn dX8_number_25 rfl ?_
      exact ⟨by rw [if_neg (by omega), if_pos (by omega)], rfl⟩
  · refine x_bipush dX8_number_15 (by decide) ?_
    refine x_ireturn dX8_number_17 rfl ?_
    exact ⟨by rw [if_pos (by omega)], rfl⟩
def spChr (S : CS) (r v : Int) : Int := if plZ S.2.2.2.2 r = -2 then -2 else if v < 0 then -3 else if ((S.2.1 (gN S.2.2.2.2 (plZ S.2.2.2.2 r)).toNat).length : Int) ≤ v then -6 else (S.2.1 (gN S.2.2.2.2 (plZ S.2.2.2.2 r)).toNat).getD v.toNat 0
theorem c_X8_charAt (sz : Nat) {h : AH} {x b c d : Nat} {t : List Int} {hs : List CS} {sp S D : CS} (hO : OuR h x t hs sp b c d S D) (hWf : Wf S) {r v : Int} (hr : inR r) (hv : inR v) : CC mX8_charAt 2 0 0 [.ref x, .int (zI r), .int (zI v)] sz h (QR (spChr S r v) h) := by
  refine CC.intro [some (.ref x), some (.int (zI r)), some (.int (zI v)), none, none] pfX8_charAt rfl rfl ?_
  have hO0 := hO
  obtain ⟨hX, hT, hRe, hRo, hHi, hSp, hC, hD, hcd⟩ := hO
  have hC0 := hC.1
  have hD0 := hD.1
  obtain ⟨_, hTs, -, -⟩ := id hT
  obtain ⟨_, _, hRs, -, -⟩ := id hRo
  obtain ⟨_, _, _, hCN, -, -⟩ := id hC.2.1
  obtain ⟨_, _, hCL, -, -⟩ := id hC.2.2.1
  obtain ⟨_, _, _, hCP, -, -⟩ := id hC.2.2.2
  have hpB := hC.2.2.2.B
  have hpl := hpB.1
  unfold spChr
  have hz := plZ_r S.2.2.2.2 r
  generalize hzz : plZ S.2.2.2.2 r = z at *
  have hNB := hC.2.1.B
  refine x_aload_n dX8_charAt_0 rfl ?_
  refine s_get dX8_charAt_1 fX8_26 hX rfl ?_
  refine x_iload_n dX8_charAt_4 rfl ?_
  refine p_V dX8_charAt_5 lX8_107 (c_X5_placeOf sz hRo hr) hRs.1 rfl rfl rfl rfl (by decide) ?_
  rw [hzz]
  refine x_istore_n dX8_charAt_8 rfl rfl rfl ?_
  refine x_iload_n dX8_charAt_9 rfl ?_
  refine x_bipush dX8_charAt_10 (by decide) ?_
  refine x_icmp_ne dX8_charAt_12 ⟨by omega, by omega⟩ ⟨by omega, by omega⟩ (fun qc12q => ?_) (fun qc12q => ?_)
  · refine x_iload_n dX8_charAt_18 rfl ?_
    refine x_if_ge dX8_charAt_19 ⟨by omega, by omega⟩ (fun qc19q => ?_) (fun qc19q => ?_)
    · refine x_aload_n dX8_charAt_25 rfl ?_
      refine s_get dX8_charAt_26 fX8_48 hX rfl ?_
      have hn := hWf.n hpB (z := z) (by omega) (by omega)
      have h8 := (hNB.2 (gN S.2.2.2.2 z).toNat (by omega) (by omega)).1
      refine s_get dX8_charAt_29 fX8_84 hC0 rfl ?_
      refine x_iload_n dX8_charAt_32 rfl ?_
      refine p_V dX8_charAt_33 lX8_88 (c_X3_nodeOf sz hC.2.2.2 (z := z) ⟨by omega, by omega⟩) hCP.1 rfl rfl rfl rfl (by decide) ?_
      refine x_istore dX8_charAt_36 rfl rfl rfl ?_
      refine x_iload_n dX8_charAt_38 rfl ?_
      refine x_aload_n dX8_charAt_39 rfl ?_
      refine s_get dX8_charAt_40 fX8_48 hX rfl ?_
      refine s_get dX8_charAt_43 fX8_62 hC0 rfl ?_
      refine x_iload dX8_charAt_46 rfl ?_
      refine p_V dX8_charAt_48 lX8_230 (c_X2_lengthOf sz hC.2.1 (i := gN S.2.2.2.2 z) hn.1 hn.2.1) hCN.1 rfl rfl rfl rfl (by decide) ?_
      refine x_icmp_lt dX8_charAt_51 ⟨by omega, by omega⟩ ⟨by omega, by omega⟩ (fun qc51q => ?_) (fun qc51q => ?_)
      · refine x_aload_n dX8_charAt_57 rfl ?_
        refine s_get dX8_charAt_58 fX8_48 hX rfl ?_
        refine s_get dX8_charAt_61 fX8_62 hC0 rfl ?_
        refine x_iload dX8_charAt_64 rfl ?_
        refine x_iload_n dX8_charAt_66 rfl ?_
        refine p_V dX8_charAt_67 lX8_233 (c_X2_codeAt sz hC.2.1 (i := gN S.2.2.2.2 z) (j := v) hn.1 hn.2.1 (by omega) (by omega)) hCN.1 rfl rfl rfl rfl (by decide) ?_
        refine x_ireturn dX8_charAt_70 rfl ?_
        exact ⟨by rw [if_neg (by omega), if_neg (by omega), if_neg (by omega)], rfl⟩
      · refine x_bipush dX8_charAt_54 (by decide) ?_
        refine x_ireturn dX8_charAt_56 rfl ?_
        exact ⟨by rw [if_neg (by omega), if_neg (by omega), if_pos (by omega)], rfl⟩
    · refine x_bipush dX8_charAt_22 (by decide) ?_
      refine x_ireturn dX8_charAt_24 rfl ?_
      exact ⟨by rw [if_neg (by omega), if_pos (by omega)], rfl⟩
  · refine x_bipush dX8_charAt_15 (by decide) ?_
    refine x_ireturn dX8_charAt_17 rfl ?_
    exact ⟨by rw [if_pos (by omega)], rfl⟩
def spNod (S : CS) (y v : Int) : Int := if pFst S.2.2.2.2 y = -2 then -2 else if v = 0 then ((S.2.2.2.1.filter (fun q : LK => decide ((q.2 : Int) = y))).length : Int) else if v = 1 then pCnt S.2.2.2.2 y else if v = 2 then cZ (snN S.2.2.2.2 y) S.2.2.2.2.length else if v = 3 then ((kid S.2.2.2.1 y.toNat).length : Int) else if v = 4 then (S.2.2.1 y.toNat : Int) else if v = 5 then rwF S.2.2.2.2 y else if v = 6 then ((S.2.1 y.toNat).length : Int) else if v = 7 then (popN (nbs (pWit S.2.2.2.2 (pFst S.2.2.2.2 y))) : Int) else -3
theorem pFst_r (pl : List PE) (y : Int) : (pFst pl y = -2 ∧ ∀ k, k < pl.length → (pn pl k : Int) ≠ y) ∨ (0 ≤ pFst pl y ∧ pFst pl y < pl.length ∧ gN pl (pFst pl y) = y) := by
  have h := fZ_spec (fun k => decide ((pn pl k : Int) = y)) pl.length (i := 0) (by omega) (by omega)
  unfold pFst
  by_cases q : fZ (fun k => decide ((pn pl k : Int) = y)) pl.length 0 < pl.length
  · rw [if_pos q]
    refine Or.inr ⟨h.1, q, ?_⟩
    have h4 := h.2.2.2 q
    rw [decide_eq_true_iff] at h4
    unfold gN
    rw [if_pos h.1]
    exact h4
  · rw [if_neg q]
    refine Or.inl ⟨rfl, fun k hk => ?_⟩
    have h3 := h.2.2.1 k (by omega) (by omega)
    simpa using h3
theorem c_X8_node (sz : Nat) {h : AH} {x b c d : Nat} {t : List Int} {hs : List CS} {sp S D : CS} (hO : OuR h x t hs sp b c d S D) (hWf : Wf S) {y v : Int} (hy : inR y) (hv : inR v) : CC mX8_node 4 0 0 [.ref x, .int (zI y), .int (zI v)] sz h (QR (spNod S y v) h) := by
  refine CC.intro [some (.ref x), some (.int (zI y)), some (.int (zI v)), none, none] pfX8_node rfl rfl ?_
  have hO0 := hO
  obtain ⟨hX, hT, hRe, hRo, hHi, hSp, hC, hD, hcd⟩ := hO
  have hC0 := hC.1
  have hD0 := hD.1
  obtain ⟨_, hTs, -, -⟩ := id hT
  obtain ⟨_, _, hRs, -, -⟩ := id hRo
  obtain ⟨_, _, _, hCN, -, -⟩ := id hC.2.1
  obtain ⟨_, _, hCL, -, -⟩ := id hC.2.2.1
  obtain ⟨_, _, _, hCP, -, -⟩ := id hC.2.2.2
  have hpB := hC.2.2.2.B
  have hpl := hpB.1
  unfold spNod
  have hz := pFst_r S.2.2.2.2 y
  generalize hzz : pFst S.2.2.2.2 y = z at *
  refine x_aload_n dX8_node_0 rfl ?_
  refine s_get dX8_node_1 fX8_48 hX rfl ?_
  refine s_get dX8_node_4 fX8_84 hC0 rfl ?_
  refine x_astore_n dX8_node_7 rfl rfl rfl ?_
  refine x_aload_n dX8_node_8 rfl ?_
  refine x_iload_n dX8_node_9 rfl ?_
  refine p_V dX8_node_10 lX8_176 (c_X3_firstOf sz hC.2.2.2 hy) hCP.1 rfl rfl rfl rfl (by decide) ?_
  rw [hzz]
  refine x_istore dX8_node_13 rfl rfl rfl ?_
  refine x_iload dX8_node_15 rfl ?_
  refine x_bipush dX8_node_17 (by decide) ?_
  refine x_icmp_ne dX8_node_19 ⟨by omega, by omega⟩ ⟨by omega, by omega⟩ (fun qc19q => ?_) (fun qc19q => ?_)
  · obtain ⟨hz0, hz1, hz2⟩ : 0 ≤ z ∧ z < S.2.2.2.2.length ∧ gN S.2.2.2.2 z = y := by
      rcases hz with q | q
      · omega
      · exact q
    have hn := hWf.n hpB (z := z) (by omega) (by omega)
    rw [hz2] at hn
    rw [if_neg (by omega)]
    refine x_iload_n dX8_node_25 rfl ?_
    by_cases hsw : v < 0 ∨ 7 < v
    · refine x_tableOut 156 dX8_node_26 ⟨by omega, by omega⟩ hsw (by decide) ?_
      refine x_bipush dX8_node_156 (by decide) ?_
      refine x_ireturn dX8_node_158 rfl ?_
      exact ⟨by rw [if_neg (by omega), if_neg (by omega), if_neg (by omega), if_neg (by omega), if_neg (by omega), if_neg (by omega), if_neg (by omega), if_neg (by omega)], rfl⟩
    · rcases (show v = 0 ∨ v = 1 ∨ v = 2 ∨ v = 3 ∨ v = 4 ∨ v = 5 ∨ v = 6 ∨ v = 7 by omega) with rfl | rfl | rfl | rfl | rfl | rfl | rfl | rfl
      · refine x_tableIn 0 72 dX8_node_26 ⟨by decide, by decide⟩ (by decide) (by decide) rfl (by decide) ?_
        refine x_aload_n dX8_node_72 rfl ?_
        refine s_get dX8_node_73 fX8_48 hX rfl ?_
        refine s_get dX8_node_76 fX8_103 hC0 rfl ?_
        refine x_iload_n dX8_node_79 rfl ?_
        refine p_V dX8_node_80 lX8_236 (c_X1_parentCount sz hC.2.2.1 hy) hCL.1 rfl rfl rfl rfl (by decide) ?_
        refine x_ireturn dX8_node_83 rfl ?_
        exact ⟨by simp, rfl⟩
      · refine x_tableIn 1 84 dX8_node_26 ⟨by decide, by decide⟩ (by decide) (by decide) rfl (by decide) ?_
        refine x_aload_n dX8_node_84 rfl ?_
        refine x_iload_n dX8_node_85 rfl ?_
        refine p_V dX8_node_86 lX8_148 (c_X3_countOf sz hC.2.2.2 hy) hCP.1 rfl rfl rfl rfl (by decide) ?_
        refine x_ireturn dX8_node_89 rfl ?_
        exact ⟨by simp, rfl⟩
      · refine x_tableIn 2 90 dX8_node_26 ⟨by decide, by decide⟩ (by decide) (by decide) rfl (by decide) ?_
        refine x_aload_n dX8_node_90 rfl ?_
        refine s_get dX8_node_91 fX8_26 hX rfl ?_
        refine x_aload_n dX8_node_94 rfl ?_
        refine x_iload_n dX8_node_95 rfl ?_
        refine p_V dX8_node_96 lX8_239 (c_X5_seenOf sz hRo hC.2.2.2 hy) hRs.1 rfl rfl rfl rfl (by decide) ?_
        refine x_ireturn dX8_node_99 rfl ?_
        exact ⟨by simp, rfl⟩
      · refine x_tableIn 3 100 dX8_node_26 ⟨by decide, by decide⟩ (by decide) (by decide) rfl (by decide) ?_
        refine x_aload_n dX8_node_100 rfl ?_
        refine s_get dX8_node_101 fX8_48 hX rfl ?_
        refine s_get dX8_node_104 fX8_103 hC0 rfl ?_
        refine x_iload_n dX8_node_107 rfl ?_
        refine p_V dX8_node_108 lX8_137 (c_X1_childCount sz hC.2.2.1 hy) hCL.1 rfl rfl rfl rfl (by decide) ?_
        rw [show y = ((y.toNat : Nat) : Int) by omega, flt_kid]
        try rw [Int.toNat_natCast]
        refine x_ireturn dX8_node_111 rfl ?_
        exact ⟨by simp, rfl⟩
      · refine x_tableIn 4 112 dX8_node_26 ⟨by decide, by decide⟩ (by decide) (by decide) rfl (by decide) ?_
        refine x_aload_n dX8_node_112 rfl ?_
        refine s_get dX8_node_113 fX8_48 hX rfl ?_
        refine s_get dX8_node_116 fX8_62 hC0 rfl ?_
        refine x_iload_n dX8_node_119 rfl ?_
        refine p_V dX8_node_120 lX8_158 (c_X2_marksOf sz hC.2.1 (i := y) hn.1 hn.2.1) hCN.1 rfl rfl rfl rfl (by decide) ?_
        refine x_ireturn dX8_node_123 rfl ?_
        exact ⟨by simp, rfl⟩
      · refine x_tableIn 5 124 dX8_node_26 ⟨by decide, by decide⟩ (by decide) (by decide) rfl (by decide) ?_
        refine x_aload_n dX8_node_124 rfl ?_
        refine s_get dX8_node_125 fX8_26 hX rfl ?_
        refine x_aload_n dX8_node_128 rfl ?_
        refine x_iload_n dX8_node_129 rfl ?_
        refine p_V dX8_node_130 lX8_243 (c_X5_firstOf sz hRo hC.2.2.2 hy) hRs.1 rfl rfl rfl rfl (by decide) ?_
        refine x_ireturn dX8_node_133 rfl ?_
        exact ⟨by simp, rfl⟩
      · refine x_tableIn 6 134 dX8_node_26 ⟨by decide, by decide⟩ (by decide) (by decide) rfl (by decide) ?_
        refine x_aload_n dX8_node_134 rfl ?_
        refine s_get dX8_node_135 fX8_48 hX rfl ?_
        refine s_get dX8_node_138 fX8_62 hC0 rfl ?_
        refine x_iload_n dX8_node_141 rfl ?_
        refine p_V dX8_node_142 lX8_230 (c_X2_lengthOf sz hC.2.1 (i := y) hn.1 hn.2.1) hCN.1 rfl rfl rfl rfl (by decide) ?_
        refine x_ireturn dX8_node_145 rfl ?_
        exact ⟨by simp, rfl⟩
      · refine x_tableIn 7 146 dX8_node_26 ⟨by decide, by decide⟩ (by decide) (by decide) rfl (by decide) ?_
        refine x_aload_n dX8_node_146 rfl ?_
        refine x_iload dX8_node_147 rfl ?_
        refine l_V dX8_node_149 lX8_245 (c_X3_nodesWithin sz hC.2.2.2 (z := z) (by omega) hz1) hCP.1 rfl rfl rfl rfl (by decide) ?_
        refine p_S dX8_node_152 lX8_249 (c_J13_bitCount_95d88 sz h (n := nbs (pWit S.2.2.2.2 z)) (nbs_lt _ (nds_40 hpB _ _))) rfl rfl rfl (by decide) ?_
        refine x_ireturn dX8_node_155 rfl ?_
        exact ⟨by simp, rfl⟩
  · refine x_bipush dX8_node_22 (by decide) ?_
    refine x_ireturn dX8_node_24 rfl ?_
    exact ⟨by rw [if_pos (by omega)], rfl⟩
def spCnt (t : List Int) (hs : List CS) (S : CS) (v : Int) : Int := if v = 0 then (popN (nbs (pWit S.2.2.2.2 (-1))) : Int) else if v = 1 then (S.1 : Int) else if v = 2 then (S.2.2.2.2.length : Int) else if v = 3 then (cB (sn S.2.2.2.2) S.2.2.2.2.length : Int) else if v = 4 then pFld S.2.2.2.2 else if v = 5 then cZ (shC S.2.2.2.1) 40 else if v = 6 then pTop S.2.2.2.2 else if v = 7 then (hs.length : Int) else if v = 8 then (t.length : Int) else -3
theorem c_X8_count (sz : Nat) {h : AH} {x b c d : Nat} {t : List Int} {hs : List CS} {sp S D : CS} (hO : OuR h x t hs sp b c d S D) {v : Int} (hv : inR v) : CC mX8_count 5 0 0 [.ref x, .int (zI v)] sz h (QR (spCnt t hs S v) h) := by
  refine CC.intro [some (.ref x), some (.int (zI v))] pfX8_count rfl rfl ?_
  have hO0 := hO
  obtain ⟨hX, hT, hRe, hRo, hHi, hSp, hC, hD, hcd⟩ := hO
  have hC0 := hC.1
  have hD0 := hD.1
  obtain ⟨_, hTs, -, -⟩ := id hT
  obtain ⟨_, _, hRs, -, -⟩ := id hRo
  obtain ⟨_, _, _, hCN, -, -⟩ := id hC.2.1
  obtain ⟨_, _, hCL, -, -⟩ := id hC.2.2.1
  obtain ⟨_, _, _, hCP, -, -⟩ := id hC.2.2.2
  have hpB := hC.2.2.2.B
  have hpl := hpB.1
  obtain ⟨_, _, _, ⟨hHs, -⟩, -⟩ := id hHi
  unfold spCnt
  refine x_iload_n dX8_count_0 rfl ?_
  by_cases hsw : v < 0 ∨ 8 < v
  · refine x_tableOut 145 dX8_count_1 ⟨by omega, by omega⟩ hsw (by decide) ?_
    refine x_bipush dX8_count_145 (by decide) ?_
    refine x_ireturn dX8_count_147 rfl ?_
    exact ⟨by rw [if_neg (by omega), if_neg (by omega), if_neg (by omega), if_neg (by omega), if_neg (by omega), if_neg (by omega), if_neg (by omega), if_neg (by omega), if_neg (by omega)], rfl⟩
  · rcases (show v = 0 ∨ v = 1 ∨ v = 2 ∨ v = 3 ∨ v = 4 ∨ v = 5 ∨ v = 6 ∨ v = 7 ∨ v = 8 by omega) with rfl | rfl | rfl | rfl | rfl | rfl | rfl | rfl | rfl
    · refine x_tableIn 0 52 dX8_count_1 ⟨by decide, by decide⟩ (by decide) (by decide) rfl (by decide) ?_
      refine x_aload_n dX8_count_52 rfl ?_
      refine s_get dX8_count_53 fX8_48 hX rfl ?_
      refine s_get dX8_count_56 fX8_84 hC0 rfl ?_
      refine l_V dX8_count_59 lX8_123 (c_X3_nodeSet sz hC.2.2.2) hCP.1 rfl rfl rfl rfl (by decide) ?_
      refine p_S dX8_count_62 lX8_249 (c_J13_bitCount_95d88 sz h (n := nbs (pWit S.2.2.2.2 (-1))) (nbs_lt _ (nds_40 hpB _ _))) rfl rfl rfl (by decide) ?_
      refine x_ireturn dX8_count_65 rfl ?_
      exact ⟨by simp, rfl⟩
    · refine x_tableIn 1 66 dX8_count_1 ⟨by decide, by decide⟩ (by decide) (by decide) rfl (by decide) ?_
      refine x_aload_n dX8_count_66 rfl ?_
      refine s_get dX8_count_67 fX8_48 hX rfl ?_
      refine s_get dX8_count_70 fX8_62 hC0 rfl ?_
      refine s_get dX8_count_73 fX8_66 hCN rfl ?_
      refine x_ireturn dX8_count_76 rfl ?_
      exact ⟨by simp, rfl⟩
    · refine x_tableIn 2 77 dX8_count_1 ⟨by decide, by decide⟩ (by decide) (by decide) rfl (by decide) ?_
      refine x_aload_n dX8_count_77 rfl ?_
      refine s_get dX8_count_78 fX8_48 hX rfl ?_
      refine s_get dX8_count_81 fX8_84 hC0 rfl ?_
      refine s_get dX8_count_84 fX8_202 hCP rfl ?_
      refine x_ireturn dX8_count_87 rfl ?_
      exact ⟨by simp, rfl⟩
    · refine x_tableIn 3 88 dX8_count_1 ⟨by decide, by decide⟩ (by decide) (by decide) rfl (by decide) ?_
      refine x_aload_n dX8_count_88 rfl ?_
      refine s_get dX8_count_89 fX8_26 hX rfl ?_
      refine s_get dX8_count_92 fX8_170 hRs rfl ?_
      refine x_ireturn dX8_count_95 rfl ?_
      exact ⟨by simp, rfl⟩
    · refine x_tableIn 4 96 dX8_count_1 ⟨by decide, by decide⟩ (by decide) (by decide) rfl (by decide) ?_
      refine x_aload_n dX8_count_96 rfl ?_
      refine s_get dX8_count_97 fX8_48 hX rfl ?_
      refine s_get dX8_count_100 fX8_84 hC0 rfl ?_
      refine p_V dX8_count_103 lX8_254 (c_X3_foldedCount sz hC.2.2.2) hCP.1 rfl rfl rfl rfl (by decide) ?_
      refine x_ireturn dX8_count_106 rfl ?_
      exact ⟨by simp, rfl⟩
    · refine x_tableIn 5 107 dX8_count_1 ⟨by decide, by decide⟩ (by decide) (by decide) rfl (by decide) ?_
      refine x_aload_n dX8_count_107 rfl ?_
      refine s_get dX8_count_108 fX8_48 hX rfl ?_
      refine s_get dX8_count_111 fX8_103 hC0 rfl ?_
      refine p_V dX8_count_114 lX8_257 (c_X1_sharedCount sz hC.2.2.1) hCL.1 rfl rfl rfl rfl (by decide) ?_
      refine x_ireturn dX8_count_117 rfl ?_
      exact ⟨by simp, rfl⟩
    · refine x_tableIn 6 118 dX8_count_1 ⟨by decide, by decide⟩ (by decide) (by decide) rfl (by decide) ?_
      refine x_aload_n dX8_count_118 rfl ?_
      refine s_get dX8_count_119 fX8_48 hX rfl ?_
      refine s_get dX8_count_122 fX8_84 hC0 rfl ?_
      refine p_V dX8_count_125 lX8_260 (c_X3_greatestLevel sz hC.2.2.2) hCP.1 rfl rfl rfl rfl (by decide) ?_
      refine x_ireturn dX8_count_128 rfl ?_
      exact ⟨by simp, rfl⟩
    · refine x_tableIn 7 129 dX8_count_1 ⟨by decide, by decide⟩ (by decide) (by decide) rfl (by decide) ?_
      refine x_aload_n dX8_count_129 rfl ?_
      refine s_get dX8_count_130 fX8_33 hX rfl ?_
      refine s_get dX8_count_133 fX8_211 hHs rfl ?_
      refine x_ireturn dX8_count_136 rfl ?_
      exact ⟨by simp, rfl⟩
    · refine x_tableIn 8 137 dX8_count_1 ⟨by decide, by decide⟩ (by decide) (by decide) rfl (by decide) ?_
      refine x_aload_n dX8_count_137 rfl ?_
      refine s_get dX8_count_138 fX8_10 hX rfl ?_
      refine s_get dX8_count_141 fX8_189 hTs rfl ?_
      refine x_ireturn dX8_count_144 rfl ?_
      exact ⟨by simp, rfl⟩
theorem mk_bit {m : Nat} (hm : m < 32) {k : Int} (h0 : 0 ≤ k) (h1 : k < 5) : zI (m : Int) >>> (zI k &&& 31) = zI ((m / 2 ^ k.toNat : Nat) : Int) ∧ zI ((m / 2 ^ k.toNat : Nat) : Int) &&& zI 1 = zI ((m / 2 ^ k.toNat % 2 : Nat) : Int) ∧ m / 2 ^ k.toNat % 2 < 2 := by
  have key : ∀ m : Nat, m < 32 → ∀ k : Nat, k < 5 → zI (m : Int) >>> (zI (k : Int) &&& 31) = zI ((m / 2 ^ k : Nat) : Int) ∧ zI ((m / 2 ^ k : Nat) : Int) &&& zI 1 = zI ((m / 2 ^ k % 2 : Nat) : Int) := by decide +kernel
  have h := key m hm k.toNat (by omega)
  rw [show ((k.toNat : Nat) : Int) = k by omega] at h
  exact ⟨h.1, h.2, Nat.mod_lt _ (by omega)⟩
/-- the first row from r on that has a property of its node, or -6 -/
def spNx (S : CS) (P : Nat → Bool) (r : Int) : Int := if fZ (fun k => P (gN S.2.2.2.2 (plZ S.2.2.2.2 k)).toNat) (cB (sn S.2.2.2.2) S.2.2.2.2.length) r < (cB (sn S.2.2.2.2) S.2.2.2.2.length : Int) then fZ (fun k => P (gN S.2.2.2.2 (plZ S.2.2.2.2 k)).toNat) (cB (sn S.2.2.2.2) S.2.2.2.2.length) r else -6
def spMkd (S : CS) (r v : Int) : Int := if plR S.2.2.2.2 r = -2 then -2 else if ¬ (0 ≤ v ∧ v < 5) then -3 else spNx S (fun y => decide (S.2.2.1 y / 2 ^ v.toNat % 2 = 1)) (r + 1)
def spFnd (t : List Int) (S : CS) (r : Int) : Int := if plR S.2.2.2.2 r = -2 then -2 else spNx S (fun y => decide (S.2.1 y = t)) (r + 1)
theorem row_pl {pl : List PE} {i : Int} (h0 : 0 ≤ i) (h1 : i < cB (sn pl) pl.length) : 0 ≤ plZ pl i ∧ plZ pl i < pl.length := by
  obtain ⟨k, k1, k2, k3⟩ := cB_kth (sn pl) pl.length i.toNat (by omega)
  rw [plZ_hit k1 k2 (by omega)]
  omega
theorem row_lt {pl : List PE} {r : Int} (h : plR pl r ≠ -2) : -1 ≤ r ∧ r < (cB (sn pl) pl.length : Int) := by
  unfold plR at h
  by_cases q : r = -1
  · omega
  · rw [if_neg q] at h
    refine ⟨?_, ?_⟩
    · rcases Int.lt_or_le r 0 with q2 | q2
      · exact absurd (plZ_no (Or.inl q2)) h
      · omega
    · rcases Int.lt_or_le r (cB (sn pl) pl.length : Int) with q2 | q2
      · exact q2
      · exact absurd (plZ_no (Or.inr q2)) h
theorem c_X8_nextMarked (sz : Nat) {h : AH} {x b c d : Nat} {t : List Int} {hs : List CS} {sp S D : CS} (hO : OuR h x t hs sp b c d S D) (hWf : Wf S) {r v : Int} (hr : inR r) (hv : inR v) : CC mX8_nextMarked 3 0 0 [.ref x, .int (zI r), .int (zI v)] sz h (QR (spMkd S r v) h) := by
  refine CC.intro [some (.ref x), some (.int (zI r)), some (.int (zI v)), none] pfX8_nextMarked rfl rfl ?_
  have hO0 := hO
  obtain ⟨hX, hT, hRe, hRo, hHi, hSp, hC, hD, hcd⟩ := hO
  have hC0 := hC.1
  have hD0 := hD.1
  obtain ⟨_, hTs, -, -⟩ := id hT
  obtain ⟨_, _, hRs, -, -⟩ := id hRo
  obtain ⟨_, _, _, hCN, -, -⟩ := id hC.2.1
  obtain ⟨_, _, hCL, -, -⟩ := id hC.2.2.1
  obtain ⟨_, _, _, hCP, -, -⟩ := id hC.2.2.2
  have hpB := hC.2.2.2.B
  have hpl := hpB.1
  unfold spMkd
  refine x_aload_n dX8_nextMarked_0 rfl ?_
  refine x_iload_n dX8_nextMarked_1 rfl ?_
  refine p_V dX8_nextMarked_2 lX8_54 (c_X8_placeOrRoot sz hO0 hr) hX.1 rfl rfl rfl rfl (by decide) ?_
  refine x_bipush dX8_nextMarked_5 (by decide) ?_
  refine x_icmp_ne dX8_nextMarked_7 ⟨by have := plZ_r S.2.2.2.2 r; unfold plR; split <;> omega, by have := plZ_r S.2.2.2.2 r; unfold plR; split <;> omega⟩ ⟨by omega, by omega⟩ (fun qc7q => ?_) (fun qc7q => ?_)
  · refine x_iload_n dX8_nextMarked_13 rfl ?_
    refine p_S dX8_nextMarked_14 lX8_151 (c_X8_isMark sz h hv) rfl rfl rfl (by decide) ?_
    refine x_ifB_ne dX8_nextMarked_17 (fun qc17q => ?_) (fun qc17q => ?_)
    · refine x_iload_n dX8_nextMarked_23 rfl ?_
      refine x_iconst dX8_nextMarked_24 ?_
      refine x_iadd dX8_nextMarked_25 ?_
      refine x_istore_n dX8_nextMarked_26 rfl rfl rfl ?_
      have hrr := row_lt qc7q
      have hcl := cB_le (sn S.2.2.2.2) S.2.2.2.2.length
      refine x_loop (fun _ => h) (fun i : Int => [some (.ref x), some (.int (zI r)), some (.int (zI v)), some (.int (zI i))]) (fun i => 0 ≤ i ∧ i ≤ cB (sn S.2.2.2.2) S.2.2.2.2.length ∧ fZ (fun k => (fun y => decide (S.2.2.1 y / 2 ^ v.toNat % 2 = 1)) (gN S.2.2.2.2 (plZ S.2.2.2.2 k)).toNat) (cB (sn S.2.2.2.2) S.2.2.2.2.length) (r + 1) = fZ (fun k => (fun y => decide (S.2.2.1 y / 2 ^ v.toNat % 2 = 1)) (gN S.2.2.2.2 (plZ S.2.2.2.2 k)).toNat) (cB (sn S.2.2.2.2) S.2.2.2.2.length) i) (fun i => (cB (sn S.2.2.2.2) S.2.2.2.2.length - i).toNat) (r + 1) rfl rfl ⟨by omega, by omega, rfl⟩ ?_
      rintro i ⟨hi0, hi1, hI⟩ ihq
      try dsimp only at *
      refine x_iload_n dX8_nextMarked_27 rfl ?_
      refine x_aload_n dX8_nextMarked_28 rfl ?_
      refine s_get dX8_nextMarked_29 fX8_26 hX rfl ?_
      refine s_get dX8_nextMarked_32 fX8_170 hRs rfl ?_
      refine x_icmp_ge dX8_nextMarked_35 ⟨by omega, by omega⟩ ⟨by omega, by omega⟩ (fun qc35q => ?_) (fun qc35q => ?_)
      · refine x_bipush dX8_nextMarked_69 (by decide) ?_
        refine x_ireturn dX8_nextMarked_71 rfl ?_
        refine ⟨?_, rfl⟩
        rw [if_neg (by omega), if_neg (fun q => q qc17q)]
        unfold spNx
        rw [hI, fZ_end hi0 (by omega), if_neg (by omega)]
      · refine x_aload_n dX8_nextMarked_38 rfl ?_
        have hp := row_pl (pl := S.2.2.2.2) hi0 (by omega)
        have hn := hWf.n hpB (z := plZ S.2.2.2.2 i) hp.1 hp.2
        have hii : ((i.toNat : Nat) : Int) = i := by omega
        have h8 := (hC.2.1.B.2 (gN S.2.2.2.2 (plZ S.2.2.2.2 i)).toNat (by omega) (by omega)).2.2
        have hb := mk_bit (m := S.2.2.1 (gN S.2.2.2.2 (plZ S.2.2.2.2 i)).toNat) h8 qc17q.1 qc17q.2
        refine s_get dX8_nextMarked_39 fX8_48 hX rfl ?_
        refine s_get dX8_nextMarked_42 fX8_62 hC0 rfl ?_
        refine x_aload_n dX8_nextMarked_45 rfl ?_
        refine x_iload_n dX8_nextMarked_46 rfl ?_
        refine p_V dX8_nextMarked_47 lX8_100 (c_X8_nodeOfRow sz hO0 (r := i) ⟨by omega, by omega⟩) hX.1 rfl rfl rfl rfl (by decide) ?_
        refine p_V dX8_nextMarked_50 lX8_158 (c_X2_marksOf sz hC.2.1 (i := gN S.2.2.2.2 (plZ S.2.2.2.2 i)) hn.1 hn.2.1) hCN.1 rfl rfl rfl rfl (by decide) ?_
        refine x_iload_n dX8_nextMarked_53 rfl ?_
        refine x_ishr dX8_nextMarked_54 hb.1 ?_
        refine x_iconst dX8_nextMarked_55 ?_
        refine x_iand dX8_nextMarked_56 hb.2.1 ?_
        refine x_iconst dX8_nextMarked_57 ?_
        refine x_icmp_ne dX8_nextMarked_58 ⟨by omega, by omega⟩ ⟨by omega, by omega⟩ (fun qc58q => ?_) (fun qc58q => ?_)
        · refine x_iinc dX8_nextMarked_63 rfl rfl rfl ?_
          refine x_goto dX8_nextMarked_66 ?_
          refine ihq (i + 1) ⟨by omega, by omega, ?_⟩ (by omega)
          rw [hI]
          exact fZ_skip hi0 (by omega) (by rw [hii]; simp; omega)
        · refine x_iload_n dX8_nextMarked_61 rfl ?_
          refine x_ireturn dX8_nextMarked_62 rfl ?_
          refine ⟨?_, rfl⟩
          rw [if_neg (by omega), if_neg (fun q => q qc17q)]
          unfold spNx
          rw [hI, fZ_hit hi0 (by omega) (by rw [hii]; simp; omega), if_pos (by omega)]
    · refine x_bipush dX8_nextMarked_20 (by decide) ?_
      refine x_ireturn dX8_nextMarked_22 rfl ?_
      exact ⟨by rw [if_neg (by omega), if_pos qc17q], rfl⟩
  · refine x_bipush dX8_nextMarked_10 (by decide) ?_
    refine x_ireturn dX8_nextMarked_12 rfl ?_
    exact ⟨by rw [if_pos (by omega)], rfl⟩
theorem c_X8_find (sz : Nat) {h : AH} {x b c d : Nat} {t : List Int} {hs : List CS} {sp S D : CS} (hO : OuR h x t hs sp b c d S D) (hWf : Wf S) {r : Int} (hr : inR r) : CC mX8_find 3 0 0 [.ref x, .int (zI r)] sz h (QR (spFnd t S r) h) := by
  refine CC.intro [some (.ref x), some (.int (zI r)), none] pfX8_find rfl rfl ?_
  have hO0 := hO
  obtain ⟨hX, hT, hRe, hRo, hHi, hSp, hC, hD, hcd⟩ := hO
  have hC0 := hC.1
  have hD0 := hD.1
  obtain ⟨_, hTs, -, -⟩ := id hT
  obtain ⟨_, _, hRs, -, -⟩ := id hRo
  obtain ⟨_, _, _, hCN, -, -⟩ := id hC.2.1
  obtain ⟨_, _, hCL, -, -⟩ := id hC.2.2.1
  obtain ⟨_, _, _, hCP, -, -⟩ := id hC.2.2.2
  have hpB := hC.2.2.2.B
  have hpl := hpB.1
  unfold spFnd
  refine x_aload_n dX8_find_0 rfl ?_
  refine x_iload_n dX8_find_1 rfl ?_
  refine p_V dX8_find_2 lX8_54 (c_X8_placeOrRoot sz hO0 hr) hX.1 rfl rfl rfl rfl (by decide) ?_
  refine x_bipush dX8_find_5 (by decide) ?_
  refine x_icmp_ne dX8_find_7 ⟨by have := plZ_r S.2.2.2.2 r; unfold plR; split <;> omega, by have := plZ_r S.2.2.2.2 r; unfold plR; split <;> omega⟩ ⟨by omega, by omega⟩ (fun qc7q => ?_) (fun qc7q => ?_)
  · refine x_iload_n dX8_find_13 rfl ?_
    refine x_iconst dX8_find_14 ?_
    refine x_iadd dX8_find_15 ?_
    refine x_istore_n dX8_find_16 rfl rfl rfl ?_
    have hrr := row_lt qc7q
    have hcl := cB_le (sn S.2.2.2.2) S.2.2.2.2.length
    refine x_loop (fun _ => h) (fun i : Int => [some (.ref x), some (.int (zI r)), some (.int (zI i))]) (fun i => 0 ≤ i ∧ i ≤ cB (sn S.2.2.2.2) S.2.2.2.2.length ∧ fZ (fun k => (fun y => decide (S.2.1 y = t)) (gN S.2.2.2.2 (plZ S.2.2.2.2 k)).toNat) (cB (sn S.2.2.2.2) S.2.2.2.2.length) (r + 1) = fZ (fun k => (fun y => decide (S.2.1 y = t)) (gN S.2.2.2.2 (plZ S.2.2.2.2 k)).toNat) (cB (sn S.2.2.2.2) S.2.2.2.2.length) i) (fun i => (cB (sn S.2.2.2.2) S.2.2.2.2.length - i).toNat) (r + 1) rfl rfl ⟨by omega, by omega, rfl⟩ ?_
    rintro i ⟨hi0, hi1, hI⟩ ihq
    try dsimp only at *
    refine x_iload_n dX8_find_17 rfl ?_
    refine x_aload_n dX8_find_18 rfl ?_
    refine s_get dX8_find_19 fX8_26 hX rfl ?_
    refine s_get dX8_find_22 fX8_170 hRs rfl ?_
    refine x_icmp_ge dX8_find_25 ⟨by omega, by omega⟩ ⟨by omega, by omega⟩ (fun qc25q => ?_) (fun qc25q => ?_)
    · refine x_bipush dX8_find_58 (by decide) ?_
      refine x_ireturn dX8_find_60 rfl ?_
      refine ⟨?_, rfl⟩
      rw [if_neg (by omega)]
      unfold spNx
      rw [hI, fZ_end hi0 (by omega), if_neg (by omega)]
    · refine x_aload_n dX8_find_28 rfl ?_
      have hp := row_pl (pl := S.2.2.2.2) hi0 (by omega)
      have hn := hWf.n hpB (z := plZ S.2.2.2.2 i) hp.1 hp.2
      have hii : ((i.toNat : Nat) : Int) = i := by omega
      
      refine s_get dX8_find_29 fX8_48 hX rfl ?_
      refine s_get dX8_find_32 fX8_62 hC0 rfl ?_
      refine x_aload_n dX8_find_35 rfl ?_
      refine x_iload_n dX8_find_36 rfl ?_
      refine p_V dX8_find_37 lX8_100 (c_X8_nodeOfRow sz hO0 (r := i) ⟨by omega, by omega⟩) hX.1 rfl rfl rfl rfl (by decide) ?_
      refine x_aload_n dX8_find_40 rfl ?_
      refine s_get dX8_find_41 fX8_10 hX rfl ?_
      refine p_V dX8_find_44 lX8_144 (c_X2_hasText sz hC.2.1 hT (i := gN S.2.2.2.2 (plZ S.2.2.2.2 i)) hn.1 hn.2.1) hCN.1 rfl rfl rfl rfl (by decide) ?_
      refine x_ifB_eq dX8_find_47 (fun qc47q => ?_) (fun qc47q => ?_)
      · refine x_iinc dX8_find_52 rfl rfl rfl ?_
        refine x_goto dX8_find_55 ?_
        refine ihq (i + 1) ⟨by omega, by omega, ?_⟩ (by omega)
        rw [hI]
        exact fZ_skip hi0 (by omega) (by rw [hii]; simpa using qc47q)
      · refine x_iload_n dX8_find_50 rfl ?_
        refine x_ireturn dX8_find_51 rfl ?_
        refine ⟨?_, rfl⟩
        rw [if_neg (by omega)]
        unfold spNx
        rw [hI, fZ_hit hi0 (by omega) (by rw [hii]; simpa using qc47q), if_pos (by omega)]
  · refine x_bipush dX8_find_10 (by decide) ?_
    refine x_ireturn dX8_find_12 rfl ?_
    exact ⟨by rw [if_pos (by omega)], rfl⟩
