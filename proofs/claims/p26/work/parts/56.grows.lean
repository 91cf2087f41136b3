/-! grows: add, cloneTo, move, cut. -/
theorem nod1_r {S : CS} (hI : InvS S) (hB : StB S) {z : Int} (hz : 0 ≤ z) : -2 ≤ spNod S z 1 ∧ spNod S z 1 ≤ 120 := by
  by_cases h : spNod S z 0 = -2
  · obtain ⟨y, rfl⟩ : ∃ y : Nat, z = y := ⟨z.toNat, by omega⟩
    by_cases q : pFst S.2.2.2.2 (y : Int) = -2
    · rw [sp_nod0 1 q]
      omega
    · have := nod_at hI hB q
      omega
  · have := nod_atZ hI hB hz h
    omega
theorem cnt0_r (t : List Int) (hs : List CS) (S : CS) : 0 ≤ spCnt t hs S 0 ∧ spCnt t hs S 0 ≤ 48 := by
  show 0 ≤ (popN (nbs (pWit S.2.2.2.2 (-1))) : Int) ∧ (popN (nbs (pWit S.2.2.2.2 (-1))) : Int) ≤ 48
  have : popN (nbs (pWit S.2.2.2.2 (-1))) ≤ 48 := cB_le _ _
  omega
theorem plZ_in {S : CS} {r : Int} (h0 : 0 ≤ r) (h1 : r < rwN S) : plZ S.2.2.2.2 r ≠ -2 := by
  obtain ⟨p, p1, p2, p3, p4⟩ := row_ex h0 h1
  omega
theorem plR_in {S : CS} {r : Int} (h0 : -1 ≤ r) (h1 : r < rwN S) : plR S.2.2.2.2 r ≠ -2 := by
  by_cases e : r = -1
  · rw [e]
    unfold plR
    rw [if_pos rfl]
    omega
  · rw [plR_eq e]
    exact plZ_in (by omega) h1
theorem add_no {A : AS} {z : Int} {A' : AS} {r : Int} (h : SpAdd A r z A') (hr : plR A.2.2.2.2.2.2.2.2 r = -2) : z = -2 ∧ A' = A := by
  unfold SpAdd at h
  dsimp only at h
  rcases h with q | q | q | q
  · exact q.2
  · exact absurd hr q.1
  · exact absurd hr q.1
  · exact absurd hr q.1
theorem plR_non {S : CS} {r : Int} (h : r < -1 ∨ rwN S ≤ r) (h1 : r ≠ -1) : plR S.2.2.2.2 r = -2 := by
  rw [plR_eq h1]
  exact plZ_no (by unfold rwN at h; omega)
theorem and31s (k : Int) (m : Nat) (hm : m < 2147483648 := by decide) : ∃ n : Int, 0 ≤ n ∧ n ≤ m ∧ zI k &&& zI (m : Int) = zI n := by
  have qe2q : (zI k).toBitVec.toNat &&& m ≤ m := Nat.and_le_right
  refine ⟨(((zI k).toBitVec.toNat &&& m : Nat) : Int), by omega, by omega, ?_⟩
  rw [zI_nat, zI_nat]
  apply Int32.toBitVec_inj.mp
  apply BitVec.eq_of_toNat_eq
  rw [Int32.toBitVec_and, BitVec.toNat_and]
  have qe1q : (Int32.ofNat m).toBitVec.toNat = m := by
    show (BitVec.ofNat 32 m).toNat = m
    rw [BitVec.toNat_ofNat, Nat.mod_eq_of_lt (by omega)]
  have qe3q : (Int32.ofNat ((zI k).toBitVec.toNat &&& m)).toBitVec.toNat = (zI k).toBitVec.toNat &&& m := by
    show (BitVec.ofNat 32 ((zI k).toBitVec.toNat &&& m)).toNat = _
    rw [BitVec.toNat_ofNat, Nat.mod_eq_of_lt (by omega)]
  rw [qe1q, qe3q]
theorem and_1 (k : Int) : ∃ b1 : Int, (0 ≤ b1 ∧ b1 ≤ 1) ∧ zI k &&& zI 1 = zI b1 := by
  obtain ⟨n, h0, h1, h2⟩ := and31s k 1
  exact ⟨n, ⟨h0, h1⟩, h2⟩
set_option maxHeartbeats 4000000 in
theorem c_L_grows (sz : Nat) {h : AH} {x b c d : Nat} {t : List Int} {hs : List CS} {sp S D : CS} (hO : OuR h x t hs sp b c d S D) (hI : InvA (t, hs, sp, b, S)) (hT : InvT (t, hs, sp, b, S)) {so g k : Int} (hso : 0 ≤ so ∧ so ≤ 8) : CC mL_grows 64 0 0 [.ref x, .int (zI (so)), .int (zI (g)), .int (zI (k))] sz h (QI (fun z h' => z = 1 ∧ ∃ A', OuA h' x A' ∧ InvA A' ∧ InvT A' ∧ Stpd (t, hs, sp, b, S) A' ∧ Fr h h' x (x + 107))) := by
  refine CC.intro [some (.ref x), some (.int (zI (so))), some (.int (zI (g))), some (.int (zI (k))), none, none, none, none, none, none, none, none, none] pfL_grows rfl rfl ?_
  have hS : InvS S := hI.2.1
  have hAB := hO.AB
  have hB : StB S := hAB.2.2.1
  have hWf := hS.wf
  have hLk := hS.lk hB.2.2
  have hcr := cnt_rows hS hB t hs
  have hc3 : spCnt t hs S 3 = rwN S := rfl
  have hc1 : spCnt t hs S 1 = S.1 := rfl
  have hd40 := hS.1.1
  have hc0r := cnt0_r t hs S
  have hgr := lwZ_r g (n := spCnt t hs S 3 + 1) (by omega)
  have hpr : plR S.2.2.2.2 (lwZ g (spCnt t hs S 3 + 1) - 1) ≠ -2 := plR_in (by omega) (by omega)
  obtain ⟨b1, hb1, hbe⟩ := and_1 k
  have J36 : XM mL_grows 64 0 0 (QI (fun z h' => z = 1 ∧ ∃ A', OuA h' x A' ∧ InvA A' ∧ InvT A' ∧ Stpd (t, hs, sp, b, S) A' ∧ Fr h h' x (x + 107))) 0 0 sz h 36 [some (.ref x), some (.int (zI (so))), some (.int (zI (g))), some (.int (zI (k))), some (.int (zI (spCnt t hs S 3))), some (.int (zI (spCnt t hs S 1))), some (.int (zI (lwZ g (spCnt t hs S 3 + 1) - 1))), none, none, none, none, none, none] [] := by
    refine x_aload_n dL_grows_36 rfl ?_
    refine x_iload_n dL_grows_37 rfl ?_
    refine x_iconst dL_grows_38 ?_
    refine x_iload_n dL_grows_39 rfl ?_
    refine x_iconst dL_grows_40 ?_
    refine x_iand dL_grows_41 hbe ?_
    refine x_iadd dL_grows_42 ?_
    refine i_S dL_grows_43 lL_49 (c_L_texts sz hO (by omega)) rfl rfl rfl (by decide) (fun z1 h1 ⟨hz1, hOu1, hF1⟩ => ?_)
    subst hz1
    have hI1 : InvA (ltx k (1 + b1).toNat, hs, sp, b, S) := hI
    have hT1 : InvT (ltx k (1 + b1).toNat, hs, sp, b, S) := hT
    have hlen := ltx_len k (1 + b1).toNat
    obtain ⟨qc1q, d1, D1, hO⟩ := id hOu1
    have hO : OuR h1 x (ltx k (1 + b1).toNat) hs sp b qc1q d1 S D1 := hO
    have J65 : ∀ v : Int, v = (if lwZ g (spCnt t hs S 3 + 1) - 1 = -1 then 1 else spRow S (lwZ g (spCnt t hs S 3 + 1) - 1) 6) → (0 ≤ v ∧ v ≤ 120) → XM mL_grows 64 0 0 (QI (fun z h' => z = 1 ∧ ∃ A', OuA h' x A' ∧ InvA A' ∧ InvT A' ∧ Stpd (t, hs, sp, b, S) A' ∧ Fr h h' x (x + 107))) 0 0 sz h1 65 [some (.ref x), some (.int (zI (so))), some (.int (zI (g))), some (.int (zI (k))), some (.int (zI (spCnt t hs S 3))), some (.int (zI (spCnt t hs S 1))), some (.int (zI (lwZ g (spCnt t hs S 3 + 1) - 1))), some (.int (zI (1))), none, none, none, none, none] [.int (zI v)] := by
      intro v hv hvr
      refine x_istore dL_grows_65 rfl rfl rfl ?_
      refine x_aload_n dL_grows_67 rfl ?_
      refine x_iload dL_grows_68 rfl ?_
      refine i_V dL_grows_70 lL_53 (c_X8_add sz hO ⟨by omega, by omega⟩ (fun a b => (kd_add hS a b).dp)) hO.1.1 rfl rfl rfl rfl (by decide) (fun z2 h2 ⟨A2, hSp2, hOu2, hF2⟩ => ?_)
      have hAF := add_fact hI1 hSp2 hpr (by dsimp only; omega)
      have hI2 := inv_add hI1 hSp2
      obtain ⟨hT2, hSt2⟩ := stp_add hT1 hSp2
      have hF2 := hF1.tr hF2
      obtain ⟨t2, hs2, sp2, b2, S2⟩ := A2
      dsimp only at hAF
      obtain ⟨qc2q, d2, D2, hO⟩ := id hOu2
      have hO : OuR h2 x t2 hs2 sp2 b2 qc2q d2 S2 D2 := hO
      have hAB2 := hO.AB
      have hS2 : InvS S2 := hI2.2.1
      have hB2 : StB S2 := hAB2.2.2.1
      have hWf := hS2.wf
      have hcr2 := cnt_rows hS2 hB2 t2 hs2
      have hc32 : spCnt t2 hs2 S2 3 = rwN S2 := rfl
      have hc12 : spCnt t2 hs2 S2 1 = S2.1 := rfl
      have hd402 := hS2.1.1
      have hc0r2 := cnt0_r t2 hs2 S2
      rw [← hv] at hAF
      have J118 : XM mL_grows 64 0 0 (QI (fun z h' => z = 1 ∧ ∃ A', OuA h' x A' ∧ InvA A' ∧ InvT A' ∧ Stpd (t, hs, sp, b, S) A' ∧ Fr h h' x (x + 107))) 0 0 sz h2 118 [some (.ref x), some (.int (zI (so))), some (.int (zI (g))), some (.int (zI (k))), some (.int (zI (spCnt t hs S 3))), some (.int (zI (spCnt t hs S 1))), some (.int (zI (lwZ g (spCnt t hs S 3 + 1) - 1))), some (.int (zI (1))), some (.int (zI (v))), some (.int (zI (z2))), none, none, none] [] := by
        refine x_aload_n dL_grows_118 rfl ?_
        refine x_aload_n dL_grows_119 rfl ?_
        refine x_iconst dL_grows_120 ?_
        refine p_V dL_grows_121 lL_13 (c_X8_count sz hO ⟨by omega, by omega⟩) hO.1.1 rfl rfl rfl rfl (by decide) ?_
        refine i_V dL_grows_124 lL_53 (c_X8_add sz hO ⟨by omega, by omega⟩ (fun a b => (kd_add hS2 a b).dp)) hO.1.1 rfl rfl rfl rfl (by decide) (fun z3 h3 ⟨A3, hSp3, hOu3, hF3⟩ => ?_)
        obtain ⟨hz3, rfl⟩ := add_no hSp3 (plR_non (S := S2) (by omega) (by omega))
        subst hz3
        refine x_bipush dL_grows_127 (by decide) ?_
        refine x_icmp_ne dL_grows_129 ⟨by omega, by omega⟩ ⟨by omega, by omega⟩ (fun qc129q => ?_) (fun qc129q => ?_)
        · exfalso; omega
        · refine x_iconst dL_grows_132 ?_
          refine x_goto dL_grows_133 ?_
          refine x_zreturn dL_grows_137 rfl (by omega) ?_
          exact ⟨1, rfl, rfl, _, hOu3, hI2, hT2, hSt2, hF2.tr hF3⟩
      refine x_istore dL_grows_73 rfl rfl rfl ?_
      refine x_iload dL_grows_75 rfl ?_
      refine x_if_eq dL_grows_77 ⟨by omega, by omega⟩ (fun qc77q => ?_) (fun qc77q => ?_)
      · exfalso; omega
      · refine x_iload dL_grows_80 rfl ?_
        refine x_bipush dL_grows_82 (by decide) ?_
        refine x_icmp_eq dL_grows_84 ⟨by omega, by omega⟩ ⟨by omega, by omega⟩ (fun qc84q => ?_) (fun qc84q => ?_)
        · exact J118
        · refine x_iload dL_grows_87 rfl ?_
          refine x_iload dL_grows_89 rfl ?_
          refine x_iconst dL_grows_91 ?_
          refine x_iadd dL_grows_92 ?_
          refine x_icmp_ne dL_grows_93 ⟨by omega, by omega⟩ ⟨by omega, by omega⟩ (fun qc93q => ?_) (fun qc93q => ?_)
          · exfalso; omega
          · have hAF2 := hAF.resolve_left (fun q => by omega)
            refine x_aload_n dL_grows_96 rfl ?_
            refine x_iconst dL_grows_97 ?_
            refine p_V dL_grows_98 lL_13 (c_X8_count sz hO ⟨by omega, by omega⟩) hO.1.1 rfl rfl rfl rfl (by decide) ?_
            refine x_iload dL_grows_101 rfl ?_
            refine x_icmp_ne dL_grows_103 ⟨by omega, by omega⟩ ⟨by omega, by omega⟩ (fun qc103q => ?_) (fun qc103q => ?_)
            · exfalso; omega
            · refine x_aload_n dL_grows_106 rfl ?_
              refine x_iload dL_grows_107 rfl ?_
              refine x_iconst dL_grows_109 ?_
              refine p_V dL_grows_110 lL_27 (c_X8_node sz hO hWf ⟨by omega, by omega⟩ ⟨by omega, by omega⟩) hO.1.1 rfl rfl rfl rfl (by decide) ?_
              refine x_iload dL_grows_113 rfl ?_
              refine x_icmp_ne dL_grows_115 ⟨by omega, by omega⟩ ⟨by omega, by omega⟩ (fun qc115q => ?_) (fun qc115q => ?_)
              · exfalso; omega
              · exact J118
    refine x_istore dL_grows_46 rfl rfl rfl ?_
    refine x_iload dL_grows_48 rfl ?_
    refine x_if_ge dL_grows_50 ⟨by omega, by omega⟩ (fun qc50q => ?_) (fun qc50q => ?_)
    · have hn6 := snd_nod hS hB hT.1 (r := lwZ g (spCnt t hs S 3 + 1) - 1) (by omega) (by omega)
      refine x_aload_n dL_grows_57 rfl ?_
      refine x_iload dL_grows_58 rfl ?_
      refine x_bipush dL_grows_60 (by decide) ?_
      refine p_V dL_grows_62 lL_21 (c_X8_row sz hO hWf ⟨by omega, by omega⟩ ⟨by omega, by omega⟩) hO.1.1 rfl rfl rfl rfl (by decide) ?_
      first | exact J65 _ (by rw [if_pos (by omega)]) (by omega) | exact J65 _ (by rw [if_neg (by omega)]) (by omega)
    · refine x_iconst dL_grows_53 ?_
      refine x_goto dL_grows_54 ?_
      first | exact J65 _ (by rw [if_pos (by omega)]) (by omega) | exact J65 _ (by rw [if_neg (by omega)]) (by omega)
  have J138 : 0 < rwN S → XM mL_grows 64 0 0 (QI (fun z h' => z = 1 ∧ ∃ A', OuA h' x A' ∧ InvA A' ∧ InvT A' ∧ Stpd (t, hs, sp, b, S) A' ∧ Fr h h' x (x + 107))) 0 0 sz h 138 [some (.ref x), some (.int (zI (so))), some (.int (zI (g))), some (.int (zI (k))), some (.int (zI (spCnt t hs S 3))), some (.int (zI (spCnt t hs S 1))), some (.int (zI (lwZ g (spCnt t hs S 3 + 1) - 1))), none, none, none, none, none, none] [] := by
    intro hn0
    have hkr := lwZ_r k (n := spCnt t hs S 3) (by omega)
    have hpz : plZ S.2.2.2.2 (lwZ k (spCnt t hs S 3)) ≠ -2 := plZ_in (by omega) (by omega)
    have hsa := snd_at hS hB (r := lwZ k (spCnt t hs S 3)) (by omega) (by omega)
    have hsa0 := hsa.1
    clear hsa
    have hno := nod0_r hS hB (z := spRow S (lwZ k (spCnt t hs S 3)) 0) (by omega)
    have J171 : ∀ v : Int, v = (if lwZ g (spCnt t hs S 3 + 1) - 1 = -1 then 0 else spRow S (lwZ g (spCnt t hs S 3 + 1) - 1) 0) → (0 ≤ v ∧ v ≤ 40) → XM mL_grows 64 0 0 (QI (fun z h' => z = 1 ∧ ∃ A', OuA h' x A' ∧ InvA A' ∧ InvT A' ∧ Stpd (t, hs, sp, b, S) A' ∧ Fr h h' x (x + 107))) 0 0 sz h 171 [some (.ref x), some (.int (zI (so))), some (.int (zI (g))), some (.int (zI (k))), some (.int (zI (spCnt t hs S 3))), some (.int (zI (spCnt t hs S 1))), some (.int (zI (lwZ g (spCnt t hs S 3 + 1) - 1))), some (.int (zI (lwZ k (spCnt t hs S 3)))), some (.int (zI (spRow S (lwZ k (spCnt t hs S 3)) 0))), none, none, none, none] [.int (zI v)] := by
      intro v hv hvr
      refine x_istore dL_grows_171 rfl rfl rfl ?_
      refine x_aload_n dL_grows_173 rfl ?_
      refine x_iload dL_grows_174 rfl ?_
      refine x_iconst dL_grows_176 ?_
      refine p_V dL_grows_177 lL_27 (c_X8_node sz hO hWf ⟨by omega, by omega⟩ ⟨by omega, by omega⟩) hO.1.1 rfl rfl rfl rfl (by decide) ?_
      refine x_istore dL_grows_180 rfl rfl rfl ?_
      refine x_aload_n dL_grows_182 rfl ?_
      refine x_iconst dL_grows_183 ?_
      refine p_V dL_grows_184 lL_13 (c_X8_count sz hO ⟨by omega, by omega⟩) hO.1.1 rfl rfl rfl rfl (by decide) ?_
      refine x_istore dL_grows_187 rfl rfl rfl ?_
      refine x_iload_n dL_grows_189 rfl ?_
      refine x_bipush dL_grows_190 (by decide) ?_
      refine x_icmp_ge dL_grows_192 ⟨by omega, by omega⟩ ⟨by omega, by omega⟩ (fun qc192q => ?_) (fun qc192q => ?_)
      · refine x_iload_n dL_grows_273 rfl ?_
        refine x_bipush dL_grows_274 (by decide) ?_
        refine x_icmp_ne dL_grows_276 ⟨by omega, by omega⟩ ⟨by omega, by omega⟩ (fun qc276q => ?_) (fun qc276q => ?_)
        · refine x_aload_n dL_grows_365 rfl ?_
          refine x_iload dL_grows_366 rfl ?_
          refine i_V dL_grows_368 lL_62 (c_X8_cut sz hO hWf hLk ⟨by omega, by omega⟩ (fun a => ⟨(kd_ct hS hB.2.2 (plZ_ok a).1 (plZ_ok a).2).1, Nat.le_trans (kd_ct hS hB.2.2 (plZ_ok a).1 (plZ_ok a).2).2.1 hB.2.2.1⟩)) hO.1.1 rfl rfl rfl rfl (by decide) (fun z2 h2 ⟨A2, hSp2, hOu2, hF2⟩ => ?_)
          have hAF := cut_fact hAB hI hSp2 hpz
          have hI2 := inv_cut hAB hI hSp2
          obtain ⟨hT2, hSt2⟩ := stp_cut hT hSp2
          obtain ⟨t2, hs2, sp2, b2, S2⟩ := A2
          dsimp only at hAF
          obtain ⟨qc2q, d2, D2, hO⟩ := id hOu2
          have hO : OuR h2 x t2 hs2 sp2 b2 qc2q d2 S2 D2 := hO
          have hAB2 := hO.AB
          have hS2 : InvS S2 := hI2.2.1
          have hB2 : StB S2 := hAB2.2.2.1
          have hWf := hS2.wf
          have hcr2 := cnt_rows hS2 hB2 t2 hs2
          have hc32 : spCnt t2 hs2 S2 3 = rwN S2 := rfl
          have hc12 : spCnt t2 hs2 S2 1 = S2.1 := rfl
          have hd402 := hS2.1.1
          have hc0r2 := cnt0_r t2 hs2 S2
          have hA1 := hAF.1
          have hA2 : spNod S (spRow S (lwZ k (spCnt t hs S 3)) 0) 0 ≤ 1 → (1 ≤ z2 ∧ z2 ≤ 48) ∧ spNod S2 (spRow S (lwZ k (spCnt t hs S 3)) 0) 0 = -2 ∧ spCnt t2 hs2 S2 0 = spCnt t hs S 0 - z2 := fun q => ⟨(hAF.2 q).1, (hAF.2 q).2.1, (hAF.2 q).2.2 t hs t2 hs2⟩
          clear hAF
          have hzr : 0 ≤ z2 ∧ z2 ≤ 48 := by
            by_cases q : spNod S (spRow S (lwZ k (spCnt t hs S 3)) 0) 0 ≤ 1
            · have := (hA2 q).1; omega
            · have := (hA1 (by omega)).1; omega
          have hr0 := nod0_r hS2 hB2 (z := spRow S (lwZ k (spCnt t hs S 3)) 0) (by omega)
          have hr1 := nod1_r hS2 hB2 (z := spRow S (lwZ k (spCnt t hs S 3)) 0) (by omega)
          refine x_istore dL_grows_371 rfl rfl rfl ?_
          refine x_iload dL_grows_373 rfl ?_
          refine x_iconst dL_grows_375 ?_
          refine x_icmp_le dL_grows_376 ⟨by omega, by omega⟩ ⟨by omega, by omega⟩ (fun qc376q => ?_) (fun qc376q => ?_)
          · refine x_iload dL_grows_406 rfl ?_
            refine x_iconst dL_grows_408 ?_
            refine x_icmp_lt dL_grows_409 ⟨by omega, by omega⟩ ⟨by omega, by omega⟩ (fun qc409q => ?_) (fun qc409q => ?_)
            · exfalso; omega
            · refine x_aload_n dL_grows_412 rfl ?_
              refine x_iload dL_grows_413 rfl ?_
              refine x_iconst dL_grows_415 ?_
              refine p_V dL_grows_416 lL_27 (c_X8_node sz hO hWf ⟨by omega, by omega⟩ ⟨by omega, by omega⟩) hO.1.1 rfl rfl rfl rfl (by decide) ?_
              refine x_bipush dL_grows_419 (by decide) ?_
              refine x_icmp_ne dL_grows_421 ⟨by omega, by omega⟩ ⟨by omega, by omega⟩ (fun qc421q => ?_) (fun qc421q => ?_)
              · exfalso; omega
              · refine x_aload_n dL_grows_424 rfl ?_
                refine x_iconst dL_grows_425 ?_
                refine p_V dL_grows_426 lL_13 (c_X8_count sz hO ⟨by omega, by omega⟩) hO.1.1 rfl rfl rfl rfl (by decide) ?_
                refine x_iload dL_grows_429 rfl ?_
                refine x_iload dL_grows_431 rfl ?_
                refine x_isub dL_grows_433 ?_
                refine x_icmp_ne dL_grows_434 ⟨by omega, by omega⟩ ⟨by omega, by omega⟩ (fun qc434q => ?_) (fun qc434q => ?_)
                · exfalso; omega
                · refine x_iconst dL_grows_437 ?_
                  refine x_goto dL_grows_438 ?_
                  refine x_zreturn dL_grows_442 rfl (by omega) ?_
                  exact ⟨1, rfl, rfl, _, hOu2, hI2, hT2, hSt2, hF2⟩
          · refine x_iload dL_grows_379 rfl ?_
            refine x_if_ne dL_grows_381 ⟨by omega, by omega⟩ (fun qc381q => ?_) (fun qc381q => ?_)
            · exfalso; omega
            · refine x_aload_n dL_grows_384 rfl ?_
              refine x_iload dL_grows_385 rfl ?_
              refine x_iconst dL_grows_387 ?_
              refine p_V dL_grows_388 lL_27 (c_X8_node sz hO hWf ⟨by omega, by omega⟩ ⟨by omega, by omega⟩) hO.1.1 rfl rfl rfl rfl (by decide) ?_
              refine x_iload dL_grows_391 rfl ?_
              refine x_iconst dL_grows_393 ?_
              refine x_isub dL_grows_394 ?_
              refine x_icmp_ne dL_grows_395 ⟨by omega, by omega⟩ ⟨by omega, by omega⟩ (fun qc395q => ?_) (fun qc395q => ?_)
              · exfalso; omega
              · refine x_iconst dL_grows_398 ?_
                refine x_goto dL_grows_399 ?_
                refine x_zreturn dL_grows_442 rfl (by omega) ?_
                exact ⟨1, rfl, rfl, _, hOu2, hI2, hT2, hSt2, hF2⟩
        · refine x_aload_n dL_grows_279 rfl ?_
          refine x_iload dL_grows_280 rfl ?_
          refine x_iload dL_grows_282 rfl ?_
          refine i_V dL_grows_284 lL_59 (c_X8_move sz hO hWf hLk ⟨by omega, by omega⟩ ⟨by omega, by omega⟩ (fun a b n => (kd_mv hS hB.2.2 a b n).dp)) hO.1.1 rfl rfl rfl rfl (by decide) (fun z2 h2 ⟨A2, hSp2, hOu2, hF2⟩ => ?_)
          have hAF := move_fact hAB hI hSp2 hpz hpr
          have hI2 := inv_move hAB hI hSp2
          obtain ⟨hT2, hSt2⟩ := stp_move hT hSp2
          obtain ⟨t2, hs2, sp2, b2, S2⟩ := A2
          dsimp only at hAF
          obtain ⟨qc2q, d2, D2, hO⟩ := id hOu2
          have hO : OuR h2 x t2 hs2 sp2 b2 qc2q d2 S2 D2 := hO
          have hAB2 := hO.AB
          have hS2 : InvS S2 := hI2.2.1
          have hB2 : StB S2 := hAB2.2.2.1
          have hWf := hS2.wf
          have hcr2 := cnt_rows hS2 hB2 t2 hs2
          have hc32 : spCnt t2 hs2 S2 3 = rwN S2 := rfl
          have hc12 : spCnt t2 hs2 S2 1 = S2.1 := rfl
          have hd402 := hS2.1.1
          have hc0r2 := cnt0_r t2 hs2 S2
          rw [← hv] at hAF
          have hA1 := hAF.1
          have hA2 : z2 = -5 ∨ z2 = -4 ∨ (spNod S2 (spRow S (lwZ k (spCnt t hs S 3)) 0) 0 = spNod S (spRow S (lwZ k (spCnt t hs S 3)) 0) 0 ∧ spCnt t2 hs2 S2 0 = spCnt t hs S 0 ∧ z2 = spNod S2 (spRow S (lwZ k (spCnt t hs S 3)) 0) 1 ∧ 1 ≤ z2) := hAF.2.imp id (fun q => q.imp id (fun q => ⟨q.1, q.2.1 t hs t2 hs2, q.2.2⟩))
          clear hAF
          have hr0 := nod0_r hS2 hB2 (z := spRow S (lwZ k (spCnt t hs S 3)) 0) (by omega)
          have hr1 := nod1_r hS2 hB2 (z := spRow S (lwZ k (spCnt t hs S 3)) 0) (by omega)
          refine x_istore dL_grows_287 rfl rfl rfl ?_
          refine x_iload dL_grows_289 rfl ?_
          refine x_iload dL_grows_291 rfl ?_
          refine x_icmp_ne dL_grows_293 ⟨by omega, by omega⟩ ⟨by omega, by omega⟩ (fun qc293q => ?_) (fun qc293q => ?_)
          · refine x_iload dL_grows_311 rfl ?_
            refine x_bipush dL_grows_313 (by decide) ?_
            refine x_icmp_eq dL_grows_315 ⟨by omega, by omega⟩ ⟨by omega, by omega⟩ (fun qc315q => ?_) (fun qc315q => ?_)
            · refine x_iconst dL_grows_359 ?_
              refine x_goto dL_grows_360 ?_
              refine x_zreturn dL_grows_364 rfl (by omega) ?_
              exact ⟨1, rfl, rfl, _, hOu2, hI2, hT2, hSt2, hF2⟩
            · refine x_iload dL_grows_318 rfl ?_
              refine x_bipush dL_grows_320 (by decide) ?_
              refine x_icmp_eq dL_grows_322 ⟨by omega, by omega⟩ ⟨by omega, by omega⟩ (fun qc322q => ?_) (fun qc322q => ?_)
              · refine x_iconst dL_grows_359 ?_
                refine x_goto dL_grows_360 ?_
                refine x_zreturn dL_grows_364 rfl (by omega) ?_
                exact ⟨1, rfl, rfl, _, hOu2, hI2, hT2, hSt2, hF2⟩
              · refine x_aload_n dL_grows_325 rfl ?_
                refine x_iload dL_grows_326 rfl ?_
                refine x_iconst dL_grows_328 ?_
                refine p_V dL_grows_329 lL_27 (c_X8_node sz hO hWf ⟨by omega, by omega⟩ ⟨by omega, by omega⟩) hO.1.1 rfl rfl rfl rfl (by decide) ?_
                refine x_iload dL_grows_332 rfl ?_
                refine x_icmp_ne dL_grows_334 ⟨by omega, by omega⟩ ⟨by omega, by omega⟩ (fun qc334q => ?_) (fun qc334q => ?_)
                · exfalso; omega
                · refine x_aload_n dL_grows_337 rfl ?_
                  refine x_iconst dL_grows_338 ?_
                  refine p_V dL_grows_339 lL_13 (c_X8_count sz hO ⟨by omega, by omega⟩) hO.1.1 rfl rfl rfl rfl (by decide) ?_
                  refine x_iload dL_grows_342 rfl ?_
                  refine x_icmp_ne dL_grows_344 ⟨by omega, by omega⟩ ⟨by omega, by omega⟩ (fun qc344q => ?_) (fun qc344q => ?_)
                  · exfalso; omega
                  · refine x_iload dL_grows_347 rfl ?_
                    refine x_aload_n dL_grows_349 rfl ?_
                    refine x_iload dL_grows_350 rfl ?_
                    refine x_iconst dL_grows_352 ?_
                    refine p_V dL_grows_353 lL_27 (c_X8_node sz hO hWf ⟨by omega, by omega⟩ ⟨by omega, by omega⟩) hO.1.1 rfl rfl rfl rfl (by decide) ?_
                    refine x_icmp_ne dL_grows_356 ⟨by omega, by omega⟩ ⟨by omega, by omega⟩ (fun qc356q => ?_) (fun qc356q => ?_)
                    · exfalso; omega
                    · refine x_iconst dL_grows_359 ?_
                      refine x_goto dL_grows_360 ?_
                      refine x_zreturn dL_grows_364 rfl (by omega) ?_
                      exact ⟨1, rfl, rfl, _, hOu2, hI2, hT2, hSt2, hF2⟩
          · refine x_iload dL_grows_296 rfl ?_
            refine x_bipush dL_grows_298 (by decide) ?_
            refine x_icmp_ne dL_grows_300 ⟨by omega, by omega⟩ ⟨by omega, by omega⟩ (fun qc300q => ?_) (fun qc300q => ?_)
            · exfalso; omega
            · refine x_iconst dL_grows_303 ?_
              refine x_goto dL_grows_304 ?_
              refine x_zreturn dL_grows_364 rfl (by omega) ?_
              exact ⟨1, rfl, rfl, _, hOu2, hI2, hT2, hSt2, hF2⟩
      · refine x_aload_n dL_grows_195 rfl ?_
        refine x_iload dL_grows_196 rfl ?_
        refine x_iload dL_grows_198 rfl ?_
        refine i_V dL_grows_200 lL_56 (c_X8_cloneTo sz hO hWf ⟨by omega, by omega⟩ ⟨by omega, by omega⟩ (fun a b n => (kd_cl hS a b n).dp)) hO.1.1 rfl rfl rfl rfl (by decide) (fun z2 h2 ⟨A2, hSp2, hOu2, hF2⟩ => ?_)
        have hAF := clone_fact hI hSp2 hpz hpr
        have hI2 := inv_clone hI hSp2
        obtain ⟨hT2, hSt2⟩ := stp_clone hT hSp2
        obtain ⟨t2, hs2, sp2, b2, S2⟩ := A2
        dsimp only at hAF
        obtain ⟨qc2q, d2, D2, hO⟩ := id hOu2
        have hO : OuR h2 x t2 hs2 sp2 b2 qc2q d2 S2 D2 := hO
        have hAB2 := hO.AB
        have hS2 : InvS S2 := hI2.2.1
        have hB2 : StB S2 := hAB2.2.2.1
        have hWf := hS2.wf
        have hcr2 := cnt_rows hS2 hB2 t2 hs2
        have hc32 : spCnt t2 hs2 S2 3 = rwN S2 := rfl
        have hc12 : spCnt t2 hs2 S2 1 = S2.1 := rfl
        have hd402 := hS2.1.1
        have hc0r2 := cnt0_r t2 hs2 S2
        rw [← hv] at hAF
        have hr0 := nod0_r hS2 hB2 (z := spRow S (lwZ k (spCnt t hs S 3)) 0) (by omega)
        have hr1 := nod1_r hS2 hB2 (z := spRow S (lwZ k (spCnt t hs S 3)) 0) (by omega)
        refine x_istore dL_grows_203 rfl rfl rfl ?_
        refine x_iload dL_grows_205 rfl ?_
        refine x_iload dL_grows_207 rfl ?_
        refine x_icmp_ne dL_grows_209 ⟨by omega, by omega⟩ ⟨by omega, by omega⟩ (fun qc209q => ?_) (fun qc209q => ?_)
        · refine x_iload dL_grows_227 rfl ?_
          refine x_bipush dL_grows_229 (by decide) ?_
          refine x_icmp_eq dL_grows_231 ⟨by omega, by omega⟩ ⟨by omega, by omega⟩ (fun qc231q => ?_) (fun qc231q => ?_)
          · refine x_iconst dL_grows_267 ?_
            refine x_goto dL_grows_268 ?_
            refine x_zreturn dL_grows_272 rfl (by omega) ?_
            exact ⟨1, rfl, rfl, _, hOu2, hI2, hT2, hSt2, hF2⟩
          · refine x_iload dL_grows_234 rfl ?_
            refine x_bipush dL_grows_236 (by decide) ?_
            refine x_icmp_eq dL_grows_238 ⟨by omega, by omega⟩ ⟨by omega, by omega⟩ (fun qc238q => ?_) (fun qc238q => ?_)
            · refine x_iconst dL_grows_267 ?_
              refine x_goto dL_grows_268 ?_
              refine x_zreturn dL_grows_272 rfl (by omega) ?_
              exact ⟨1, rfl, rfl, _, hOu2, hI2, hT2, hSt2, hF2⟩
            · refine x_aload_n dL_grows_241 rfl ?_
              refine x_iload dL_grows_242 rfl ?_
              refine x_iconst dL_grows_244 ?_
              refine p_V dL_grows_245 lL_27 (c_X8_node sz hO hWf ⟨by omega, by omega⟩ ⟨by omega, by omega⟩) hO.1.1 rfl rfl rfl rfl (by decide) ?_
              refine x_iload dL_grows_248 rfl ?_
              refine x_iconst dL_grows_250 ?_
              refine x_iadd dL_grows_251 ?_
              refine x_icmp_ne dL_grows_252 ⟨by omega, by omega⟩ ⟨by omega, by omega⟩ (fun qc252q => ?_) (fun qc252q => ?_)
              · exfalso; omega
              · refine x_iload dL_grows_255 rfl ?_
                refine x_aload_n dL_grows_257 rfl ?_
                refine x_iload dL_grows_258 rfl ?_
                refine x_iconst dL_grows_260 ?_
                refine p_V dL_grows_261 lL_27 (c_X8_node sz hO hWf ⟨by omega, by omega⟩ ⟨by omega, by omega⟩) hO.1.1 rfl rfl rfl rfl (by decide) ?_
                refine x_icmp_ne dL_grows_264 ⟨by omega, by omega⟩ ⟨by omega, by omega⟩ (fun qc264q => ?_) (fun qc264q => ?_)
                · exfalso; omega
                · refine x_iconst dL_grows_267 ?_
                  refine x_goto dL_grows_268 ?_
                  refine x_zreturn dL_grows_272 rfl (by omega) ?_
                  exact ⟨1, rfl, rfl, _, hOu2, hI2, hT2, hSt2, hF2⟩
        · refine x_iload dL_grows_212 rfl ?_
          refine x_bipush dL_grows_214 (by decide) ?_
          refine x_icmp_ne dL_grows_216 ⟨by omega, by omega⟩ ⟨by omega, by omega⟩ (fun qc216q => ?_) (fun qc216q => ?_)
          · exfalso; omega
          · refine x_iconst dL_grows_219 ?_
            refine x_goto dL_grows_220 ?_
            refine x_zreturn dL_grows_272 rfl (by omega) ?_
            exact ⟨1, rfl, rfl, _, hOu2, hI2, hT2, hSt2, hF2⟩
    refine x_iload_n dL_grows_138 rfl ?_
    refine x_iload dL_grows_139 rfl ?_
    refine p_S dL_grows_141 lL_40 (c_L_low sz _ ⟨by omega, by omega⟩) rfl rfl rfl (by decide) ?_
    refine x_istore dL_grows_144 rfl rfl rfl ?_
    refine x_aload_n dL_grows_146 rfl ?_
    refine x_iload dL_grows_147 rfl ?_
    refine x_iconst dL_grows_149 ?_
    refine p_V dL_grows_150 lL_21 (c_X8_row sz hO hWf ⟨by omega, by omega⟩ ⟨by omega, by omega⟩) hO.1.1 rfl rfl rfl rfl (by decide) ?_
    refine x_istore dL_grows_153 rfl rfl rfl ?_
    refine x_iload dL_grows_155 rfl ?_
    refine x_if_ge dL_grows_157 ⟨by omega, by omega⟩ (fun qc157q => ?_) (fun qc157q => ?_)
    · have hn6 := snd_at hS hB (r := lwZ g (spCnt t hs S 3 + 1) - 1) (by omega) (by omega)
      have hn60 := hn6.1
      clear hn6
      refine x_aload_n dL_grows_164 rfl ?_
      refine x_iload dL_grows_165 rfl ?_
      refine x_iconst dL_grows_167 ?_
      refine p_V dL_grows_168 lL_21 (c_X8_row sz hO hWf ⟨by omega, by omega⟩ ⟨by omega, by omega⟩) hO.1.1 rfl rfl rfl rfl (by decide) ?_
      first | exact J171 _ (by rw [if_pos (by omega)]) (by omega) | exact J171 _ (by rw [if_neg (by omega)]) (by omega)
    · refine x_iconst dL_grows_160 ?_
      refine x_goto dL_grows_161 ?_
      first | exact J171 _ (by rw [if_pos (by omega)]) (by omega) | exact J171 _ (by rw [if_neg (by omega)]) (by omega)
  refine x_aload_n dL_grows_0 rfl ?_
  refine x_iconst dL_grows_1 ?_
  refine p_V dL_grows_2 lL_13 (c_X8_count sz hO ⟨by omega, by omega⟩) hO.1.1 rfl rfl rfl rfl (by decide) ?_
  refine x_istore dL_grows_5 rfl rfl rfl ?_
  refine x_aload_n dL_grows_7 rfl ?_
  refine x_iconst dL_grows_8 ?_
  refine p_V dL_grows_9 lL_13 (c_X8_count sz hO ⟨by omega, by omega⟩) hO.1.1 rfl rfl rfl rfl (by decide) ?_
  refine x_istore dL_grows_12 rfl rfl rfl ?_
  refine x_iload_n dL_grows_14 rfl ?_
  refine x_iload dL_grows_15 rfl ?_
  refine x_iconst dL_grows_17 ?_
  refine x_iadd dL_grows_18 ?_
  refine p_S dL_grows_19 lL_40 (c_L_low sz _ ⟨by omega, by omega⟩) rfl rfl rfl (by decide) ?_
  refine x_iconst dL_grows_22 ?_
  refine x_isub dL_grows_23 ?_
  refine x_istore dL_grows_24 rfl rfl rfl ?_
  refine x_iload dL_grows_26 rfl ?_
  refine x_if_eq dL_grows_28 ⟨by omega, by omega⟩ (fun qc28q => ?_) (fun qc28q => ?_)
  · exact J36
  · refine x_iload_n dL_grows_31 rfl ?_
    refine x_iconst dL_grows_32 ?_
    refine x_icmp_ge dL_grows_33 ⟨by omega, by omega⟩ ⟨by omega, by omega⟩ (fun qc33q => ?_) (fun qc33q => ?_)
    · exact J138 (by omega)
    · exact J36

