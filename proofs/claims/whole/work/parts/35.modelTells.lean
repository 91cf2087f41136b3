/-- the row now, of a state -/
def RmR (r : Nat → Int) (S : CS) : Prop := r 0 = (S.1 : Int) ∧ RmP r S.2.2.2.2 ∧ RmI r S.1 S.2.2.2.2 ∧ RmK r S.1 (kid S.2.2.2.1) ∧ RmT r S.1 S.2.1 S.2.2.1
/-- what telling needs -/
def In1 (S : CS) : Prop := PlB S.2.2.2.2 ∧ NoB S.1 S.2.1 S.2.2.1 ∧ KB S.1 (kid S.2.2.2.1) ∧ Wf S ∧ LkP S
theorem plM_z (pl : List PE) (r : Int) : (plM pl r = -6 ∧ plZ pl r = -2) ∨ (plM pl r = plZ pl r ∧ 0 ≤ plZ pl r ∧ plZ pl r < pl.length ∧ sn pl (plZ pl r).toNat = true) := by
  have hz := plZ_r pl r
  unfold plM
  by_cases q : plZ pl r = -2
  · rw [if_pos q]
    exact Or.inl ⟨rfl, q⟩
  · rw [if_neg q]
    refine Or.inr ⟨rfl, by omega, by omega, ?_⟩
    have h1 := fZ_spec (rwQ pl r) pl.length (i := 0) (by omega) (by omega)
    unfold plZ at q ⊢
    split
    · rename_i q2
      have h2 := h1.2.2.2 q2
      unfold rwQ at h2
      rw [Bool.and_eq_true] at h2
      exact h2.1
    · rename_i q2
      rw [if_neg q2] at q
      exact absurd rfl q
theorem sn_par {pl : List PE} (hB : PlB pl) (hLv : LvP pl) {z : Nat} (hz : z < pl.length) (hs : sn pl z = true) (hp : 0 ≤ pPar pl z) : sn pl (pPar pl z).toNat = true := by
  rcases pPar_at hB hLv hz with ⟨q1, q2⟩ | ⟨j, q1, q2, q3, q4⟩
  · omega
  · rw [q2, Int.toNat_natCast]
    refine (sn_iff hB (by omega)).mpr fun i hi => (sn_iff hB hz).mp hs i ⟨by have := hi.1; omega, fun m m1 m2 => ?_⟩
    by_cases qe1q : m ≤ j
    · exact hi.2 m m1 qe1q
    · have qe2q := hi.2 j hi.1 (Nat.le_refl _)
      by_cases qe3q : m = z
      · rw [qe3q]; omega
      · have := q4 m (by omega) (by omega)
        omega
theorem lfi_in {α : Type} [DecidableEq α] {l : List α} {y : α} (h : y ∈ l) : 0 ≤ lfi l y := by
  have h1 := lfi_iff l y
  have h2 := lfi_r l y
  by_cases q : lfi l y = -1
  · exact absurd h (h1.mp q)
  · omega

theorem c_X9_row (sz : Nat) {h : AH} {m : Nat} {w : Nat → Nat → Int} {u : Nat → Int} (hM : MoW h m w u) {S : CS} (hR : RmR (w 0) S) (hIn : In1 S) {r v : Int} (hr : inR r) (hv : inR v) : CC mX9_row 3 0 0 [.ref m, .int (zI r), .int (zI v)] sz h (QR (spRow S r v) h) := by
  refine CC.intro [some (.ref m), some (.int (zI r)), some (.int (zI v)), none, none] pfX9_row rfl rfl ?_
  have hM0 := hM
  unfold MoW at hM
  obtain ⟨hR0, hRP, hRI, hRK, hRT⟩ := hR
  obtain ⟨hB, hN, hKB, hWf, hLk⟩ := hIn
  have hL := hB.1
  have hd40 := hKB.1
  have hLv := hWf.1
  have hz9 := plM_z S.2.2.2.2 r
  have hzr := plZ_r S.2.2.2.2 r
  unfold spRow
  generalize hzz : plZ S.2.2.2.2 r = z at *
  generalize hyy : plM S.2.2.2.2 r = y at *
  refine x_aload_n dX9_row_0 rfl ?_
  refine x_iload_n dX9_row_1 rfl ?_
  refine p_V dX9_row_2 lX9_88 (c_X9_placeOf sz hM0 hRP hB hr) hM.1 rfl rfl rfl rfl (by decide) ?_
  rw [hyy]
  refine x_istore_n dX9_row_5 rfl rfl rfl ?_
  refine x_iload_n dX9_row_6 rfl ?_
  refine x_bipush dX9_row_7 (by decide) ?_
  refine x_icmp_ne dX9_row_9 ⟨by omega, by omega⟩ ⟨by omega, by omega⟩ (fun qc9q => ?_) (fun qc9q => ?_)
  · obtain ⟨hyz, hz0, hz1, hzs⟩ : y = z ∧ 0 ≤ z ∧ z < S.2.2.2.2.length ∧ sn S.2.2.2.2 z.toNat = true := by
      rcases hz9 with q | q
      · omega
      · exact q
    subst hyz
    have hn := hWf.n hB hz0 hz1
    have hat := hRP.at hz0 hz1
    have hgp := gV_p (pl := S.2.2.2.2) hz0
    have hpp : -1 ≤ pPar S.2.2.2.2 y ∧ pPar S.2.2.2.2 y ≤ y := pAt_r _ _ _ (by omega)
    have hgx : gN S.2.2.2.2 (pPar S.2.2.2.2 y) = (((gN S.2.2.2.2 (pPar S.2.2.2.2 y)).toNat : Nat) : Int) ∧ (gN S.2.2.2.2 (pPar S.2.2.2.2 y)).toNat ≤ S.1 := by
      have h9 := gN_r hB (pPar S.2.2.2.2 y)
      refine ⟨by omega, ?_⟩
      by_cases q : 0 ≤ pPar S.2.2.2.2 y
      · have := (hWf.n hB q (by omega)).2.1
        omega
      · unfold gN
        rw [if_neg q]
        omega
    have hmem := lfi_in (kid_mem.mpr (hLk y hz0 hz1))
    have hkx := hRK.at (x := gN S.2.2.2.2 y) (by omega) (by omega)
    have hmx := (hRT (gN S.2.2.2.2 y).toNat (by omega) (by omega)).2.2
    rw [if_neg (show ¬ y = -2 by omega)]
    refine x_aload_n dX9_row_15 rfl ?_
    refine x_iload_n dX9_row_16 rfl ?_
    refine x_iconst dX9_row_17 ?_
    refine p_V dX9_row_18 lX9_77 (c_X9_at sz hM0 (x := y) (v := 0) (by omega)) hM.1 rfl rfl rfl rfl (by decide) ?_
    rw [hat.1, hgp.2.1]
    refine x_istore dX9_row_21 rfl rfl rfl ?_
    refine x_iload_n dX9_row_23 rfl ?_
    by_cases hsw : v < 0 ∨ 8 < v
    · refine x_tableOut 158 dX9_row_24 ⟨by omega, by omega⟩ hsw (by decide) ?_
      refine x_bipush dX9_row_158 (by decide) ?_
      refine x_ireturn dX9_row_160 rfl ?_
      exact ⟨by rw [if_neg (by omega), if_neg (by omega), if_neg (by omega), if_neg (by omega), if_neg (by omega), if_neg (by omega), if_neg (by omega), if_neg (by omega), if_neg (by omega)], rfl⟩
    · rcases (show v = 0 ∨ v = 1 ∨ v = 2 ∨ v = 3 ∨ v = 4 ∨ v = 5 ∨ v = 6 ∨ v = 7 ∨ v = 8 by omega) with rfl | rfl | rfl | rfl | rfl | rfl | rfl | rfl | rfl
      · refine x_tableIn 0 76 dX9_row_24 ⟨by decide, by decide⟩ (by decide) (by decide) rfl (by decide) ?_
        refine x_iload dX9_row_76 rfl ?_
        refine x_ireturn dX9_row_78 rfl ?_
        exact ⟨by simp, rfl⟩
      · refine x_tableIn 1 79 dX9_row_24 ⟨by decide, by decide⟩ (by decide) (by decide) rfl (by decide) ?_
        refine x_aload_n dX9_row_79 rfl ?_
        refine x_iload_n dX9_row_80 rfl ?_
        refine x_iconst dX9_row_81 ?_
        refine p_V dX9_row_82 lX9_77 (c_X9_at sz hM0 (x := y) (v := 1) (by omega)) hM.1 rfl rfl rfl rfl (by decide) ?_
        rw [hat.2.1, hgp.1]
        refine x_ireturn dX9_row_85 rfl ?_
        exact ⟨by simp, rfl⟩
      · refine x_tableIn 2 86 dX9_row_24 ⟨by decide, by decide⟩ (by decide) (by decide) rfl (by decide) ?_
        refine x_aload_n dX9_row_86 rfl ?_
        refine x_aload_n dX9_row_87 rfl ?_
        refine x_iload_n dX9_row_88 rfl ?_
        refine p_V dX9_row_89 lX9_142 (c_X9_parent sz hM0 hRP hB hLv hz0 hz1) hM.1 rfl rfl rfl rfl (by decide) ?_
        refine x_iload dX9_row_92 rfl ?_
        rw [hgx.1, hn.2.2.1]
        refine p_V dX9_row_94 lX9_132 (c_X9_position sz hM0 hRK hKB (x := (gN S.2.2.2.2 (pPar S.2.2.2.2 y)).toNat) (y := (gN S.2.2.2.2 y).toNat) hgx.2 (by omega)) hM.1 rfl rfl rfl rfl (by decide) ?_
        rw [show poM (kid S.2.2.2.1 (gN S.2.2.2.2 (pPar S.2.2.2.2 y)).toNat) (gN S.2.2.2.2 y).toNat = poA S y by unfold poM; rw [if_neg (by omega)]; rfl]
        refine x_ireturn dX9_row_97 rfl ?_
        exact ⟨by simp, rfl⟩
      · refine x_tableIn 3 98 dX9_row_24 ⟨by decide, by decide⟩ (by decide) (by decide) rfl (by decide) ?_
        refine x_aload_n dX9_row_98 rfl ?_
        refine x_iload dX9_row_99 rfl ?_
        refine x_bipush dX9_row_101 (by decide) ?_
        refine p_V dX9_row_103 lX9_64 (c_X9_of sz hM0 (x := gN S.2.2.2.2 y) (v := 11) (by omega)) hM.1 rfl rfl rfl rfl (by decide) ?_
        rw [hkx]
        refine x_ireturn dX9_row_106 rfl ?_
        exact ⟨by simp, rfl⟩
      · refine x_tableIn 4 107 dX9_row_24 ⟨by decide, by decide⟩ (by decide) (by decide) rfl (by decide) ?_
        refine x_aload_n dX9_row_107 rfl ?_
        refine x_iload_n dX9_row_108 rfl ?_
        refine x_iconst dX9_row_109 ?_
        refine p_V dX9_row_110 lX9_77 (c_X9_at sz hM0 (x := y) (v := 2) (by omega)) hM.1 rfl rfl rfl rfl (by decide) ?_
        rw [hat.2.2, hgp.2.2]
        refine x_ireturn dX9_row_113 rfl ?_
        exact ⟨by simp, rfl⟩
      · refine x_tableIn 5 114 dX9_row_24 ⟨by decide, by decide⟩ (by decide) (by decide) rfl (by decide) ?_
        refine x_aload_n dX9_row_114 rfl ?_
        refine x_iload dX9_row_115 rfl ?_
        refine x_bipush dX9_row_117 (by decide) ?_
        refine p_V dX9_row_119 lX9_64 (c_X9_of sz hM0 (x := gN S.2.2.2.2 y) (v := 10) (by omega)) hM.1 rfl rfl rfl rfl (by decide) ?_
        rw [show (2 + 52 * gN S.2.2.2.2 y + 10).toNat = 2 + 52 * (gN S.2.2.2.2 y).toNat + 10 by omega, hmx]
        refine x_ireturn dX9_row_122 rfl ?_
        exact ⟨by simp, rfl⟩
      · refine x_tableIn 6 123 dX9_row_24 ⟨by decide, by decide⟩ (by decide) (by decide) rfl (by decide) ?_
        refine x_aload_n dX9_row_123 rfl ?_
        refine x_iload dX9_row_124 rfl ?_
        refine p_V dX9_row_126 lX9_139 (c_X9_placesOf sz hM0 hRP hB (y := gN S.2.2.2.2 y) ⟨by omega, by omega⟩) hM.1 rfl rfl rfl rfl (by decide) ?_
        refine x_ireturn dX9_row_129 rfl ?_
        exact ⟨by simp, rfl⟩
      · refine x_tableIn 7 130 dX9_row_24 ⟨by decide, by decide⟩ (by decide) (by decide) rfl (by decide) ?_
        refine x_aload_n dX9_row_130 rfl ?_
        refine x_iload_n dX9_row_131 rfl ?_
        refine p_V dX9_row_132 lX9_84 (c_X9_around sz hM0 hRP hB hLv hz0 hz1) hM.1 rfl rfl rfl rfl (by decide) ?_
        refine x_if_ge dX9_row_135 ⟨by omega, by omega⟩ (fun qc135q => ?_) (fun qc135q => ?_)
        · refine x_aload_n dX9_row_142 rfl ?_
          refine x_aload_n dX9_row_143 rfl ?_
          refine x_iload_n dX9_row_144 rfl ?_
          refine p_V dX9_row_145 lX9_84 (c_X9_around sz hM0 hRP hB hLv hz0 hz1) hM.1 rfl rfl rfl rfl (by decide) ?_
          refine p_V dX9_row_148 lX9_164 (c_X9_rowOf sz hM0 hRP hB (z := pPar S.2.2.2.2 y) (by omega) (by omega)) hM.1 rfl rfl rfl rfl (by decide) ?_
          have hsp := sn_par hB hLv (z := y.toNat) (by omega) hzs (by rw [show ((y.toNat : Nat) : Int) = y by omega]; omega)
          rw [show ((y.toNat : Nat) : Int) = y by omega] at hsp
          rw [show cZ (sn S.2.2.2.2) (pPar S.2.2.2.2 y) = paR S.2.2.2.2 y by unfold paR rwZ; rw [if_neg (by omega), if_pos hsp]; rfl]
          try rw [show (-1 : Int) = paR S.2.2.2.2 y by unfold paR; rw [if_pos (by omega)]]
          refine x_ireturn dX9_row_151 rfl ?_
          exact ⟨by simp, rfl⟩
        · refine x_iconst dX9_row_138 ?_
          refine x_goto dX9_row_139 ?_
          try rw [show (-1 : Int) = paR S.2.2.2.2 y by unfold paR; rw [if_pos (by omega)]]
          refine x_ireturn dX9_row_151 rfl ?_
          exact ⟨by simp, rfl⟩
      · refine x_tableIn 8 152 dX9_row_24 ⟨by decide, by decide⟩ (by decide) (by decide) rfl (by decide) ?_
        refine x_aload_n dX9_row_152 rfl ?_
        refine x_iload_n dX9_row_153 rfl ?_
        refine p_V dX9_row_154 lX9_183 (c_X9_rowsWithin sz hM0 hRP hB hz0 hz1) hM.1 rfl rfl rfl rfl (by decide) ?_
        refine x_ireturn dX9_row_157 rfl ?_
        exact ⟨by simp, rfl⟩
  · refine x_bipush dX9_row_12 (by decide) ?_
    refine x_ireturn dX9_row_14 rfl ?_
    exact ⟨by rw [if_pos (show z = -2 by omega)], rfl⟩
theorem c_X9_charAt (sz : Nat) {h : AH} {m : Nat} {w : Nat → Nat → Int} {u : Nat → Int} (hM : MoW h m w u) {S : CS} (hR : RmR (w 0) S) (hIn : In1 S) {r v : Int} (hr : inR r) (hv : inR v) : CC mX9_charAt 3 0 0 [.ref m, .int (zI r), .int (zI v)] sz h (QR (spChr S r v) h) := by
  refine CC.intro [some (.ref m), some (.int (zI r)), some (.int (zI v)), none, none] pfX9_charAt rfl rfl ?_
  have hM0 := hM
  unfold MoW at hM
  obtain ⟨hR0, hRP, hRI, hRK, hRT⟩ := hR
  obtain ⟨hB, hN, hKB, hWf, hLk⟩ := hIn
  have hL := hB.1
  have hd40 := hKB.1
  have hLv := hWf.1
  have hz9 := plM_z S.2.2.2.2 r
  have hzr := plZ_r S.2.2.2.2 r
  unfold spChr
  generalize hzz : plZ S.2.2.2.2 r = z at *
  generalize hyy : plM S.2.2.2.2 r = y at *
  refine x_aload_n dX9_charAt_0 rfl ?_
  refine x_iload_n dX9_charAt_1 rfl ?_
  refine p_V dX9_charAt_2 lX9_88 (c_X9_placeOf sz hM0 hRP hB hr) hM.1 rfl rfl rfl rfl (by decide) ?_
  rw [hyy]
  refine x_istore_n dX9_charAt_5 rfl rfl rfl ?_
  refine x_iload_n dX9_charAt_6 rfl ?_
  refine x_bipush dX9_charAt_7 (by decide) ?_
  refine x_icmp_ne dX9_charAt_9 ⟨by omega, by omega⟩ ⟨by omega, by omega⟩ (fun qc9q => ?_) (fun qc9q => ?_)
  · obtain ⟨hyz, hz0, hz1, hzs⟩ : y = z ∧ 0 ≤ z ∧ z < S.2.2.2.2.length ∧ sn S.2.2.2.2 z.toNat = true := by
      rcases hz9 with q | q
      · omega
      · exact q
    subst hyz
    have hn := hWf.n hB hz0 hz1
    have hat := hRP.at hz0 hz1
    have hgp := gV_p (pl := S.2.2.2.2) hz0
    have htx := hRT (gN S.2.2.2.2 y).toNat (by omega) (by omega)
    have hNx := (hN.2 (gN S.2.2.2.2 y).toNat (by omega) (by omega)).1
    have hlk : w 0 (2 + 52 * gN S.2.2.2.2 y + 1).toNat = ((S.2.1 (gN S.2.2.2.2 y).toNat).length : Int) := by
      rw [show (2 + 52 * gN S.2.2.2.2 y + 1).toNat = 2 + 52 * (gN S.2.2.2.2 y).toNat + 1 by omega]
      exact htx.1
    rw [if_neg (show ¬ y = -2 by omega)]
    refine x_iload_n dX9_charAt_15 rfl ?_
    refine x_if_ge dX9_charAt_16 ⟨by omega, by omega⟩ (fun qc16q => ?_) (fun qc16q => ?_)
    · refine x_aload_n dX9_charAt_22 rfl ?_
      refine x_iload_n dX9_charAt_23 rfl ?_
      refine x_iconst dX9_charAt_24 ?_
      refine p_V dX9_charAt_25 lX9_77 (c_X9_at sz hM0 (x := y) (v := 0) (by omega)) hM.1 rfl rfl rfl rfl (by decide) ?_
      rw [hat.1, hgp.2.1]
      refine x_istore dX9_charAt_28 rfl rfl rfl ?_
      refine x_iload_n dX9_charAt_30 rfl ?_
      refine x_aload_n dX9_charAt_31 rfl ?_
      refine x_iload dX9_charAt_32 rfl ?_
      refine x_iconst dX9_charAt_34 ?_
      refine p_V dX9_charAt_35 lX9_64 (c_X9_of sz hM0 (x := gN S.2.2.2.2 y) (v := 1) (by omega)) hM.1 rfl rfl rfl rfl (by decide) ?_
      rw [hlk]
      refine x_icmp_ge dX9_charAt_38 ⟨by omega, by omega⟩ ⟨by omega, by omega⟩ (fun qc38q => ?_) (fun qc38q => ?_)
      · refine x_bipush dX9_charAt_53 (by decide) ?_
        refine x_ireturn dX9_charAt_55 rfl ?_
        refine ⟨?_, rfl⟩
        rw [if_neg (show ¬ v < 0 by omega)]
        first | (rw [if_pos (by omega)]; done) | (rw [if_neg (by omega)]; done)
      · refine x_aload_n dX9_charAt_41 rfl ?_
        refine x_iload dX9_charAt_42 rfl ?_
        refine x_iconst dX9_charAt_44 ?_
        refine x_iload_n dX9_charAt_45 rfl ?_
        refine x_iadd dX9_charAt_46 ?_
        refine p_V dX9_charAt_47 lX9_64 (c_X9_of sz hM0 (x := gN S.2.2.2.2 y) (v := 2 + v) (by omega)) hM.1 rfl rfl rfl rfl (by decide) ?_
        rw [show (2 + 52 * gN S.2.2.2.2 y + (2 + v)).toNat = 2 + 52 * (gN S.2.2.2.2 y).toNat + (2 + v.toNat) by omega, htx.2.1 v.toNat (by omega)]
        refine x_goto dX9_charAt_50 ?_
        refine x_ireturn dX9_charAt_55 rfl ?_
        refine ⟨?_, rfl⟩
        rw [if_neg (show ¬ v < 0 by omega)]
        first | (rw [if_pos (by omega)]; done) | (rw [if_neg (by omega)]; done)
    · refine x_bipush dX9_charAt_19 (by decide) ?_
      refine x_ireturn dX9_charAt_21 rfl ?_
      exact ⟨by rw [if_pos (by omega)], rfl⟩
  · refine x_bipush dX9_charAt_12 (by decide) ?_
    refine x_ireturn dX9_charAt_14 rfl ?_
    exact ⟨by rw [if_pos (show z = -2 by omega)], rfl⟩
