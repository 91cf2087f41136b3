/-! texts and digest. -/
set_option maxHeartbeats 1000000 in
theorem c_L_texts (sz : Nat) {h : AH} {x b c d : Nat} {t : List Int} {hs : List CS} {sp S D : CS} (hO : OuR h x t hs sp b c d S D) {g n : Int} (hn : 0 ≤ n ∧ n ≤ 8) : CC mL_texts 2 0 0 [.ref x, .int (zI (g)), .int (zI (n))] sz h (QI (fun z h' => z = 1 ∧ OuA h' x (ltx g n.toNat, hs, sp, b, S) ∧ Fr h h' x (x + 107))) := by
  refine CC.intro [some (.ref x), some (.int (zI (g))), some (.int (zI (n))), none] pfL_texts rfl rfl ?_
  refine x_aload_n dL_texts_0 rfl ?_
  refine i_V dL_texts_1 lL_36 (c_X8_clearText sz hO) hO.1.1 rfl rfl rfl rfl (by decide) (fun z0 h1 ⟨A1, hSp, hOu1, hF1⟩ => ?_)
  obtain ⟨hz0, rfl⟩ := hSp
  refine x_pop dL_texts_4 rfl ?_
  refine x_iconst dL_texts_5 ?_
  refine x_istore_n dL_texts_6 rfl rfl rfl ?_
  refine x_loop (fun s : AH × Int => s.1) (fun s => [some (.ref x), some (.int (zI (g))), some (.int (zI (n))), some (.int (zI (s.2)))]) (fun s => (0 ≤ s.2 ∧ s.2 ≤ n) ∧ OuA s.1 x (ltx g s.2.toNat, hs, sp, b, S) ∧ Fr h s.1 x (x + 107)) (fun s => (n - s.2).toNat) (h1, 0) rfl rfl ⟨by dsimp only; omega, hOu1, hF1⟩ ?_
  clear hOu1 hF1 hO
  rintro ⟨h1, k⟩ ⟨k1, hOu1, hF1⟩ ihq
  dsimp only at k1 hOu1 hF1 ihq ⊢
  obtain ⟨qc1q, d1, D1, hO⟩ := id hOu1
  have hlw := lwZ_r (shZ g (2 * k)) (n := 4) (by decide)
  refine x_iload_n dL_texts_7 rfl ?_
  refine x_iload_n dL_texts_8 rfl ?_
  refine x_icmp_ge dL_texts_9 ⟨by omega, by omega⟩ ⟨by omega, by omega⟩ (fun qc9q => ?_) (fun qc9q => ?_)
  · refine x_iconst dL_texts_43 ?_
    refine x_zreturn dL_texts_44 rfl (by omega) ?_
    exact ⟨1, rfl, rfl, by rw [show n = k by omega]; exact hOu1, hF1⟩
  · refine x_aload_n dL_texts_12 rfl ?_
    refine x_bipush dL_texts_13 (by decide) ?_
    refine x_iload_n dL_texts_15 rfl ?_
    refine x_iconst dL_texts_16 ?_
    refine x_iload_n dL_texts_17 rfl ?_
    refine x_imul dL_texts_18 ?_
    refine x_ishr dL_texts_19 (show zI g >>> (zI (2 * k) &&& 31) = zI (shZ g (2 * k)) from (zI_sI _).symm) ?_
    refine x_iconst dL_texts_20 ?_
    refine p_S dL_texts_21 lL_40 (c_L_low sz _ ⟨by omega, by omega⟩) rfl rfl rfl (by decide) ?_
    refine x_iadd dL_texts_24 ?_
    refine x_i2c dL_texts_25 (i2c_z (by omega) (by omega)) ?_
    refine i_V dL_texts_26 lL_45 (c_X8_type sz hO ⟨by omega, by omega⟩) hO.1.1 rfl rfl rfl rfl (by decide) (fun z2 h2 ⟨A2, hSp2, hOu2, hF2⟩ => ?_)
    have hlen : (ltx g k.toNat).length = k.toNat := ltx_len g k.toNat
    obtain ⟨hz2, rfl⟩ : z2 = k + 1 ∧ A2 = (ltx g (k + 1).toNat, hs, sp, b, S) := by
      rcases hSp2 with ⟨q1, q2, q3⟩ | ⟨q1, q2, q3⟩
      · dsimp only at q2 q3
        refine ⟨by omega, q3.trans ?_⟩
        have qe1q : ltx g (k + 1).toNat = ltx g k.toNat ++ [97 + lwZ (shZ g (2 * k)) 4] := by
          rw [show (k + 1).toNat = k.toNat + 1 by omega, ltx_s]
          unfold ltr
          rw [show ((k.toNat : Nat) : Int) = k by omega]
        rw [qe1q]
      · dsimp only at q1
        omega
    refine x_iload_n dL_texts_29 rfl ?_
    refine x_iconst dL_texts_30 ?_
    refine x_iadd dL_texts_31 ?_
    refine x_icmp_eq dL_texts_32 ⟨by omega, by omega⟩ ⟨by omega, by omega⟩ (fun qc32q => ?_) (fun qc32q => ?_)
    · refine x_iinc dL_texts_37 rfl rfl rfl ?_
      refine x_goto dL_texts_40 ?_
      exact ihq (h2, k + 1) ⟨by dsimp only; omega, hOu2, hF1.tr hF2⟩ (by dsimp only; omega)
    · exfalso; omega

set_option maxHeartbeats 2000000 in
theorem c_L_digest (sz : Nat) {h : AH} {x b c d : Nat} {t : List Int} {hs : List CS} {sp S D : CS} (hO : OuR h x t hs sp b c d S D) (hI : InvS S) : CC mL_digest 6 0 0 [.ref x] sz h (QL (dgM S S.1) h) := by
  refine CC.intro [some (.ref x), none, none, none, none, none, none] pfL_digest rfl rfl ?_
  have hB : StB S := hO.AB.2.2.1
  have hWf := hI.wf
  have hcr := cnt_rows hI hB t hs
  have hc3 : spCnt t hs S 3 = rwN S := rfl
  have hc1 : spCnt t hs S 1 = S.1 := rfl
  have hd40 := hI.1.1
  have J100 : ∀ r : Int, r = rwN S → XM mL_digest 6 0 0 (QL (dgM S S.1) h) 0 0 sz h 100 [some (.ref x), some (.long (dgR S r.toNat)), none, some (.int (zI (spCnt t hs S 3))), some (.int (zI (spCnt t hs S 1))), some (.int (zI (r))), none] [] := by
    intro r hr
    refine x_iconst dL_digest_100 ?_
    refine x_istore dL_digest_101 rfl rfl rfl ?_
    refine x_loop (fun _ : Int => h) (fun y => [some (.ref x), some (.long (dgM S (y - 1).toNat)), none, some (.int (zI (spCnt t hs S 3))), some (.int (zI (spCnt t hs S 1))), some (.int (zI (y))), none]) (fun y => 1 ≤ y ∧ y ≤ (S.1 : Int) + 1) (fun y => ((S.1 : Int) + 1 - y).toNat) 1 rfl (by rw [hr]; rfl) (by omega) ?_
    intro y ⟨y1, y2⟩ ihq
    try dsimp only at y1 y2 ihq ⊢
    refine x_iload dL_digest_103 rfl ?_
    refine x_iload dL_digest_105 rfl ?_
    refine x_icmp_gt dL_digest_107 ⟨by omega, by omega⟩ ⟨by omega, by omega⟩ (fun qc107q => ?_) (fun qc107q => ?_)
    · refine x_lload_n dL_digest_148 rfl ?_
      refine x_lreturn dL_digest_149 rfl ?_
      exact ⟨by rw [show (y - 1).toNat = S.1 by omega], rfl⟩
    · refine x_iconst dL_digest_110 ?_
      refine x_istore dL_digest_111 rfl rfl rfl ?_
      refine x_loop (fun _ : Int => h) (fun i => [some (.ref x), some (.long (dgW S y (dgM S (y - 1).toNat) i.toNat)), none, some (.int (zI (spCnt t hs S 3))), some (.int (zI (spCnt t hs S 1))), some (.int (zI (y))), some (.int (zI (i)))]) (fun i => 0 ≤ i ∧ i ≤ 8) (fun i => (8 - i).toNat) 0 rfl rfl (by omega) ?_
      intro i ⟨i1, i2⟩ ihr
      try dsimp only at i1 i2 ihr ⊢
      refine x_iload dL_digest_113 rfl ?_
      refine x_bipush dL_digest_115 (by decide) ?_
      refine x_icmp_ge dL_digest_117 ⟨by omega, by omega⟩ ⟨by omega, by omega⟩ (fun qc117q => ?_) (fun qc117q => ?_)
      · refine x_iinc dL_digest_142 rfl rfl rfl ?_
        refine x_goto dL_digest_145 ?_
        refine x_kill 6 ?_
        have qe1q : dgW S y (dgM S (y - 1).toNat) i.toNat = dgM S (y + 1 - 1).toNat := by
          rw [show i.toNat = 8 by omega, ← dgM_s S y1, show y + 1 - 1 = y by omega]
        rw [qe1q]
        exact ihq (y + 1) ⟨by omega, by omega⟩ (by omega)
      · refine x_ldc2 dL_digest_120 clL_11 ?_
        refine x_lload_n dL_digest_123 rfl ?_
        refine x_lmul dL_digest_124 ?_
        refine x_aload_n dL_digest_125 rfl ?_
        refine x_iload dL_digest_126 rfl ?_
        refine x_iload dL_digest_128 rfl ?_
        refine p_V dL_digest_130 lL_27 (c_X8_node sz hO hWf ⟨by omega, by omega⟩ ⟨by omega, by omega⟩) hO.1.1 rfl rfl rfl rfl (by decide) ?_
        refine x_i2l dL_digest_133 ?_
        refine x_ladd dL_digest_134 ((dgW_s S y _ i1).symm) ?_
        refine x_lstore_n dL_digest_135 rfl rfl rfl ?_
        refine x_iinc dL_digest_136 rfl rfl rfl ?_
        refine x_goto dL_digest_139 ?_
        exact ihr (i + 1) ⟨by omega, by omega⟩ (by omega)
  refine x_ldc2 dL_digest_0 clL_9 ?_
  refine x_lstore_n dL_digest_3 rfl rfl rfl ?_
  refine x_iconst dL_digest_4 ?_
  refine x_istore_n dL_digest_5 rfl rfl rfl ?_
  refine x_loop (fun _ : Int => h) (fun i => [some (.ref x), some (.long (dgC S i.toNat)), none, some (.int (zI (i))), none, none, none]) (fun i => 0 ≤ i ∧ i ≤ 7) (fun i => (7 - i).toNat) 0 rfl rfl (by omega) ?_
  intro i ⟨i1, i2⟩ ihq
  try dsimp only at i1 i2 ihq ⊢
  refine x_iload_n dL_digest_6 rfl ?_
  refine x_bipush dL_digest_7 (by decide) ?_
  refine x_icmp_ge dL_digest_9 ⟨by omega, by omega⟩ ⟨by omega, by omega⟩ (fun qc9q => ?_) (fun qc9q => ?_)
  · have hi7 : i = 7 := by omega
    subst hi7
    refine x_aload_n dL_digest_31 rfl ?_
    refine x_iconst dL_digest_32 ?_
    refine p_V dL_digest_33 lL_13 (c_X8_count sz hO ⟨by omega, by omega⟩) hO.1.1 rfl rfl rfl rfl (by decide) ?_
    refine x_istore_n dL_digest_36 rfl rfl rfl ?_
    refine x_aload_n dL_digest_37 rfl ?_
    refine x_iconst dL_digest_38 ?_
    refine p_V dL_digest_39 lL_13 (c_X8_count sz hO ⟨by omega, by omega⟩) hO.1.1 rfl rfl rfl rfl (by decide) ?_
    refine x_istore dL_digest_42 rfl rfl rfl ?_
    refine x_iconst dL_digest_44 ?_
    refine x_istore dL_digest_45 rfl rfl rfl ?_
    refine x_loop (fun _ : Int => h) (fun r => [some (.ref x), some (.long (dgR S r.toNat)), none, some (.int (zI (spCnt t hs S 3))), some (.int (zI (spCnt t hs S 1))), some (.int (zI (r))), none]) (fun r => 0 ≤ r ∧ r ≤ rwN S) (fun r => (rwN S - r).toNat) 0 rfl rfl (by omega) ?_
    intro r ⟨r1, r2⟩ ihs
    try dsimp only at r1 r2 ihs ⊢
    refine x_iload dL_digest_47 rfl ?_
    refine x_iload_n dL_digest_49 rfl ?_
    refine x_icmp_ge dL_digest_50 ⟨by omega, by omega⟩ ⟨by omega, by omega⟩ (fun qc50q => ?_) (fun qc50q => ?_)
    · exact J100 r (by omega)
    · refine x_ldc2 dL_digest_53 clL_11 ?_
      refine x_lload_n dL_digest_56 rfl ?_
      refine x_lmul dL_digest_57 ?_
      refine x_ldc2 dL_digest_58 clL_19 ?_
      refine x_aload_n dL_digest_61 rfl ?_
      refine x_iload dL_digest_62 rfl ?_
      refine x_iconst dL_digest_64 ?_
      refine p_V dL_digest_65 lL_21 (c_X8_row sz hO hWf ⟨by omega, by omega⟩ ⟨by omega, by omega⟩) hO.1.1 rfl rfl rfl rfl (by decide) ?_
      refine x_i2l dL_digest_68 ?_
      refine x_lmul dL_digest_69 ?_
      refine x_ladd dL_digest_70 rfl ?_
      refine x_ldc2 dL_digest_71 clL_25 ?_
      refine x_aload_n dL_digest_74 rfl ?_
      refine x_iload dL_digest_75 rfl ?_
      refine x_iconst dL_digest_77 ?_
      refine p_V dL_digest_78 lL_21 (c_X8_row sz hO hWf ⟨by omega, by omega⟩ ⟨by omega, by omega⟩) hO.1.1 rfl rfl rfl rfl (by decide) ?_
      refine x_i2l dL_digest_81 ?_
      refine x_lmul dL_digest_82 ?_
      refine x_ladd dL_digest_83 rfl ?_
      refine x_aload_n dL_digest_84 rfl ?_
      refine x_iload dL_digest_85 rfl ?_
      refine x_iconst dL_digest_87 ?_
      refine p_V dL_digest_88 lL_21 (c_X8_row sz hO hWf ⟨by omega, by omega⟩ ⟨by omega, by omega⟩) hO.1.1 rfl rfl rfl rfl (by decide) ?_
      refine x_i2l dL_digest_91 ?_
      refine x_ladd dL_digest_92 (dgR_s S r1).symm ?_
      refine x_lstore_n dL_digest_93 rfl rfl rfl ?_
      refine x_iinc dL_digest_94 rfl rfl rfl ?_
      refine x_goto dL_digest_97 ?_
      exact ihs (r + 1) ⟨by omega, by omega⟩ (by omega)
  · refine x_ldc2 dL_digest_12 clL_11 ?_
    refine x_lload_n dL_digest_15 rfl ?_
    refine x_lmul dL_digest_16 ?_
    refine x_aload_n dL_digest_17 rfl ?_
    refine x_iload_n dL_digest_18 rfl ?_
    refine p_V dL_digest_19 lL_13 (c_X8_count sz hO ⟨by omega, by omega⟩) hO.1.1 rfl rfl rfl rfl (by decide) ?_
    refine x_i2l dL_digest_22 ?_
    refine x_ladd dL_digest_23 (show 31 * dgC S i.toNat + (zI (spCnt t hs S i)).toInt64 = dgC S (i + 1).toNat by rw [dgC_s S i1, cnt_free t hs S i1 (by omega)]) ?_
    refine x_lstore_n dL_digest_24 rfl rfl rfl ?_
    refine x_iinc dL_digest_25 rfl rfl rfl ?_
    refine x_goto dL_digest_28 ?_
    exact ihq (i + 1) ⟨by omega, by omega⟩ (by omega)

