theorem pAt_up {pl : List PE} (hB : PlB pl) (hLv : LvP pl) {k v : Int} (h0 : 0 ≤ k) (h1 : k < pl.length) (hv : 1 ≤ v) (h2 : v < gV pl k) : 0 ≤ pPar pl k ∧ pPar pl k < k ∧ gV pl (pPar pl k) + 1 = gV pl k ∧ pAt pl k v = pAt pl (pPar pl k) v := by
  have hgk := (gV_p (pl := pl) h0).1
  rcases pPar_at hB hLv (z := k.toNat) (by omega) with ⟨q1, q2⟩ | ⟨j, q1, q2, q3, q4⟩
  · omega
  · rw [show ((k.toNat : Nat) : Int) = k by omega] at q2
    have hgj : gV pl j = pv pl j := by
      unfold gV
      rw [if_pos (by omega), Int.toNat_natCast]
    rw [q2]
    refine ⟨by omega, by omega, by omega, ?_⟩
    unfold pAt bZ
    have key : ∀ n, j + 1 + n ≤ k.toNat + 1 → bB (fun i => decide ((pv pl i : Int) = v)) (j + 1 + n) = bB (fun i => decide ((pv pl i : Int) = v)) (j + 1) := by
      intro n
      induction n with
      | zero => intro _; rfl
      | succ n ihn =>
        intro hn
        have qe1q : ¬ decide ((pv pl (j + 1 + n) : Int) = v) = true := by
          rw [decide_eq_true_iff]
          by_cases q : j + 1 + n = k.toNat
          · rw [q]; omega
          · have := q4 (j + 1 + n) (by omega) (by omega)
            omega
        rw [← Nat.add_assoc, bB, if_neg qe1q]
        exact ihn (by omega)
    have h9 := key (k.toNat - j) (by omega)
    rw [show j + 1 + (k.toNat - j) = (k + 1).toNat by omega] at h9
    rw [h9, show ((j : Int) + 1).toNat = j + 1 by omega]
theorem noM_row {pl : List PE} {i : Int} (h0 : 0 ≤ i) (h1 : i < cB (sn pl) pl.length) : noM pl i = gN pl (plZ pl i) := by
  have := row_pl h0 h1
  unfold noM plR
  rw [if_neg (show ¬ i = -1 by omega), if_neg (show ¬ plZ pl i = -2 by omega)]
theorem noM_no {pl : List PE} (hB : PlB pl) {r : Int} : (noM pl r = -6 ∧ plR pl r = -2) ∨ (0 ≤ noM pl r ∧ noM pl r ≤ 40 ∧ plR pl r ≠ -2) := by
  have h1 := gN_r hB (plR pl r)
  unfold noM
  split
  · exact Or.inl ⟨rfl, by assumption⟩
  · exact Or.inr ⟨h1.1, h1.2, by assumption⟩

theorem c_X9_number (sz : Nat) {h : AH} {m : Nat} {w : Nat → Nat → Int} {u : Nat → Int} (hM : MoW h m w u) {S : CS} (hR : RmR (w 0) S) (hIn : In1 S) {r v : Int} (hr : inR r) (hv : inR v) : CC mX9_number 3 0 0 [.ref m, .int (zI r), .int (zI v)] sz h (QR (spNum S r v) h) := by
  refine CC.intro [some (.ref m), some (.int (zI r)), some (.int (zI v)), none] pfX9_number rfl rfl ?_
  have hM0 := hM
  unfold MoW at hM
  obtain ⟨hR0, hRP, hRI, hRK, hRT⟩ := hR
  obtain ⟨hB, hN, hKB, hWf, hLk⟩ := hIn
  have hL := hB.1
  have hd40 := hKB.1
  have hLv := hWf.1
  have hz9 := plM_z S.2.2.2.2 r
  have hzr := plZ_r S.2.2.2.2 r
  unfold spNum
  generalize hzz : plZ S.2.2.2.2 r = z at *
  generalize hyy : plM S.2.2.2.2 r = y at *
  refine x_aload_n dX9_number_0 rfl ?_
  refine x_iload_n dX9_number_1 rfl ?_
  refine p_V dX9_number_2 lX9_88 (c_X9_placeOf sz hM0 hRP hB hr) hM.1 rfl rfl rfl rfl (by decide) ?_
  rw [hyy]
  refine x_istore_n dX9_number_5 rfl rfl rfl ?_
  refine x_iload_n dX9_number_6 rfl ?_
  refine x_bipush dX9_number_7 (by decide) ?_
  refine x_icmp_ne dX9_number_9 ⟨by omega, by omega⟩ ⟨by omega, by omega⟩ (fun qc9q => ?_) (fun qc9q => ?_)
  · obtain ⟨hyz, hz0, hz1, hzs⟩ : y = z ∧ 0 ≤ z ∧ z < S.2.2.2.2.length ∧ sn S.2.2.2.2 z.toNat = true := by
      rcases hz9 with q | q
      · omega
      · exact q
    clear hzz hyy hz9 hzr hzs
    subst hyz
    have hat := hRP.at hz0 hz1
    have hgp := gV_p (pl := S.2.2.2.2) hz0
    have hvr := gV_r hB y
    rw [if_neg (show ¬ y = -2 by omega)]
    refine x_iload_n dX9_number_15 rfl ?_
    refine x_iconst dX9_number_16 ?_
    refine x_icmp_ge dX9_number_17 ⟨by omega, by omega⟩ ⟨by omega, by omega⟩ (fun qc17q => ?_) (fun qc17q => ?_)
    · refine x_iload_n dX9_number_23 rfl ?_
      refine x_aload_n dX9_number_24 rfl ?_
      refine x_iload_n dX9_number_25 rfl ?_
      refine x_iconst dX9_number_26 ?_
      refine p_V dX9_number_27 lX9_77 (c_X9_at sz hM0 (x := y) (v := 1) (by omega)) hM.1 rfl rfl rfl rfl (by decide) ?_
      rw [hat.2.1, hgp.1]
      refine x_icmp_le dX9_number_30 ⟨by omega, by omega⟩ ⟨by omega, by omega⟩ (fun qc30q => ?_) (fun qc30q => ?_)
      · rw [if_neg (show ¬ v < 1 by omega), if_neg (show ¬ gV S.2.2.2.2 y < v by omega)]
        refine x_loop (fun _ => h) (fun k : Int => [some (.ref m), some (.int (zI r)), some (.int (zI v)), some (.int (zI k))]) (fun k => 0 ≤ k ∧ k < S.2.2.2.2.length ∧ v ≤ gV S.2.2.2.2 k ∧ pAt S.2.2.2.2 y v = pAt S.2.2.2.2 k v) (fun k => k.toNat) y rfl rfl ⟨hz0, hz1, by omega, rfl⟩ ?_
        clear hat hgp hvr
        rintro k ⟨hk0, hk1, hkv, hkp⟩ ihq
        have hat := hRP.at hk0 hk1
        have hgp := gV_p (pl := S.2.2.2.2) hk0
        have hvr := gV_r hB k
        have hn := hWf.n hB hk0 hk1
        have hpp : -1 ≤ pPar S.2.2.2.2 k ∧ pPar S.2.2.2.2 k ≤ k := pAt_r _ _ _ (by omega)
        have hgx : gN S.2.2.2.2 (pPar S.2.2.2.2 k) = (((gN S.2.2.2.2 (pPar S.2.2.2.2 k)).toNat : Nat) : Int) ∧ (gN S.2.2.2.2 (pPar S.2.2.2.2 k)).toNat ≤ S.1 := by
          have h9 := gN_r hB (pPar S.2.2.2.2 k)
          refine ⟨by omega, ?_⟩
          by_cases q : 0 ≤ pPar S.2.2.2.2 k
          · have := (hWf.n hB q (by omega)).2.1
            omega
          · unfold gN
            rw [if_neg q]
            omega
        have hmem := lfi_in (kid_mem.mpr (hLk k hk0 hk1))
        refine x_aload_n dX9_number_36 rfl ?_
        refine x_iload_n dX9_number_37 rfl ?_
        refine x_iconst dX9_number_38 ?_
        refine p_V dX9_number_39 lX9_77 (c_X9_at sz hM0 (x := k) (v := 1) (by omega)) hM.1 rfl rfl rfl rfl (by decide) ?_
        rw [hat.2.1, hgp.1]
        refine x_iload_n dX9_number_42 rfl ?_
        refine x_icmp_le dX9_number_43 ⟨by omega, by omega⟩ ⟨by omega, by omega⟩ (fun qc43q => ?_) (fun qc43q => ?_)
        · refine x_aload_n dX9_number_55 rfl ?_
          refine x_aload_n dX9_number_56 rfl ?_
          refine x_iload_n dX9_number_57 rfl ?_
          refine p_V dX9_number_58 lX9_142 (c_X9_parent sz hM0 hRP hB hLv hk0 hk1) hM.1 rfl rfl rfl rfl (by decide) ?_
          refine x_aload_n dX9_number_61 rfl ?_
          refine x_iload_n dX9_number_62 rfl ?_
          refine x_iconst dX9_number_63 ?_
          refine p_V dX9_number_64 lX9_77 (c_X9_at sz hM0 (x := k) (v := 0) (by omega)) hM.1 rfl rfl rfl rfl (by decide) ?_
          rw [hat.1, hgp.2.1, hgx.1, hn.2.2.1]
          refine p_V dX9_number_67 lX9_132 (c_X9_position sz hM0 hRK hKB (x := (gN S.2.2.2.2 (pPar S.2.2.2.2 k)).toNat) (y := (gN S.2.2.2.2 k).toNat) hgx.2 (by omega)) hM.1 rfl rfl rfl rfl (by decide) ?_
          rw [show poM (kid S.2.2.2.1 (gN S.2.2.2.2 (pPar S.2.2.2.2 k)).toNat) (gN S.2.2.2.2 k).toNat = poA S k by unfold poM; rw [if_neg (by omega)]; rfl]
          refine x_iconst dX9_number_70 ?_
          refine x_iadd dX9_number_71 ?_
          refine x_ireturn dX9_number_72 rfl ?_
          have qe9q : pAt S.2.2.2.2 k v = k := by
            unfold pAt
            exact bZ_hit hk0 (decide_eq_true (by omega))
          exact ⟨by rw [hkp, qe9q], rfl⟩
        · refine x_aload_n dX9_number_46 rfl ?_
          refine x_iload_n dX9_number_47 rfl ?_
          refine p_V dX9_number_48 lX9_84 (c_X9_around sz hM0 hRP hB hLv hk0 hk1) hM.1 rfl rfl rfl rfl (by decide) ?_
          refine x_istore_n dX9_number_51 rfl rfl rfl ?_
          refine x_goto dX9_number_52 ?_
          have hup := pAt_up hB hLv hk0 hk1 (by omega) (show v < gV S.2.2.2.2 k by omega)
          exact ihq (pPar S.2.2.2.2 k) ⟨hup.1, by omega, by omega, hkp.trans hup.2.2.2⟩ (by omega)
      · refine x_bipush dX9_number_33 (by decide) ?_
        refine x_ireturn dX9_number_35 rfl ?_
        exact ⟨by rw [if_neg (show ¬ v < 1 by omega), if_pos (by omega)], rfl⟩
    · refine x_bipush dX9_number_20 (by decide) ?_
      refine x_ireturn dX9_number_22 rfl ?_
      exact ⟨by rw [if_pos (by omega)], rfl⟩
  · refine x_bipush dX9_number_12 (by decide) ?_
    refine x_ireturn dX9_number_14 rfl ?_
    exact ⟨by rw [if_pos (show z = -2 by omega)], rfl⟩
theorem c_X9_nextMarked (sz : Nat) {h : AH} {m : Nat} {w : Nat → Nat → Int} {u : Nat → Int} (hM : MoW h m w u) {S : CS} (hR : RmR (w 0) S) (hIn : In1 S) {r v : Int} (hr : inR r) (hv : inR v) : CC mX9_nextMarked 4 0 0 [.ref m, .int (zI r), .int (zI v)] sz h (QR (spMkd S r v) h) := by
  refine CC.intro [some (.ref m), some (.int (zI r)), some (.int (zI v)), none, none] pfX9_nextMarked rfl rfl ?_
  have hM0 := hM
  unfold MoW at hM
  obtain ⟨hR0, hRP, hRI, hRK, hRT⟩ := hR
  obtain ⟨hB, hN, hKB, hWf, hLk⟩ := hIn
  have hL := hB.1
  have hd40 := hKB.1
  have hLv := hWf.1
  have hno := noM_no (r := r) hB
  unfold spMkd
  refine x_aload_n dX9_nextMarked_0 rfl ?_
  refine x_iload_n dX9_nextMarked_1 rfl ?_
  refine p_V dX9_nextMarked_2 lX9_98 (c_X9_nodeOf sz hM0 hRP hB hr) hM.1 rfl rfl rfl rfl (by decide) ?_
  refine x_bipush dX9_nextMarked_5 (by decide) ?_
  refine x_icmp_ne dX9_nextMarked_7 ⟨by omega, by omega⟩ ⟨by omega, by omega⟩ (fun qc7q => ?_) (fun qc7q => ?_)
  · have hnr : plR S.2.2.2.2 r ≠ -2 := by
      rcases hno with q | q
      · omega
      · exact q.2.2
    refine x_iload_n dX9_nextMarked_13 rfl ?_
    refine x_iconst dX9_nextMarked_14 ?_
    refine x_iconst dX9_nextMarked_15 ?_
    refine p_S dX9_nextMarked_16 lX9_101 (c_X9_in sz h hv (b := 0) (c := 4) ⟨by omega, by omega⟩ ⟨by omega, by omega⟩) rfl rfl rfl (by decide) ?_
    refine x_ifB_ne dX9_nextMarked_19 (fun qc19q => ?_) (fun qc19q => ?_)
    · refine x_aload_n dX9_nextMarked_25 rfl ?_
      refine p_V dX9_nextMarked_26 lX9_154 (c_X9_rows sz hM0 hRP hB) hM.1 rfl rfl rfl rfl (by decide) ?_
      rw [show cZ (sn S.2.2.2.2) (S.2.2.2.2.length : Int) = (cB (sn S.2.2.2.2) S.2.2.2.2.length : Int) from rfl]
      refine x_istore_n dX9_nextMarked_29 rfl rfl rfl ?_
      refine x_iload_n dX9_nextMarked_30 rfl ?_
      refine x_iconst dX9_nextMarked_31 ?_
      refine x_iadd dX9_nextMarked_32 ?_
      refine x_istore dX9_nextMarked_33 rfl rfl rfl ?_
      have hrr := row_lt hnr
      have hcl := cB_le (sn S.2.2.2.2) S.2.2.2.2.length
      refine x_loop (fun _ => h) (fun i : Int => [some (.ref m), some (.int (zI r)), some (.int (zI v)), some (.int (zI (cB (sn S.2.2.2.2) S.2.2.2.2.length : Int))), some (.int (zI i))]) (fun i => 0 ≤ i ∧ i ≤ cB (sn S.2.2.2.2) S.2.2.2.2.length ∧ fZ (fun k => (fun y => decide (S.2.2.1 y / 2 ^ v.toNat % 2 = 1)) (gN S.2.2.2.2 (plZ S.2.2.2.2 k)).toNat) (cB (sn S.2.2.2.2) S.2.2.2.2.length) (r + 1) = fZ (fun k => (fun y => decide (S.2.2.1 y / 2 ^ v.toNat % 2 = 1)) (gN S.2.2.2.2 (plZ S.2.2.2.2 k)).toNat) (cB (sn S.2.2.2.2) S.2.2.2.2.length) i) (fun i => (cB (sn S.2.2.2.2) S.2.2.2.2.length - i).toNat) (r + 1) rfl rfl ⟨by omega, by omega, rfl⟩ ?_
      rintro i ⟨hi0, hi1, hI⟩ ihq
      try dsimp only at *
      refine x_iload dX9_nextMarked_35 rfl ?_
      refine x_iload_n dX9_nextMarked_37 rfl ?_
      refine x_icmp_ge dX9_nextMarked_38 ⟨by omega, by omega⟩ ⟨by omega, by omega⟩ (fun qc38q => ?_) (fun qc38q => ?_)
      · refine x_bipush dX9_nextMarked_70 (by decide) ?_
        refine x_ireturn dX9_nextMarked_72 rfl ?_
        refine ⟨?_, rfl⟩
        rw [if_neg (by omega), if_neg (fun q => q ⟨by omega, by omega⟩)]
        unfold spNx
        rw [hI, fZ_end hi0 (by omega), if_neg (by omega)]
      · have hp := row_pl (pl := S.2.2.2.2) hi0 (by omega)
        have hn := hWf.n hB (z := plZ S.2.2.2.2 i) hp.1 hp.2
        have hii : ((i.toNat : Nat) : Int) = i := by omega
        have hnm := noM_row (pl := S.2.2.2.2) hi0 (by omega)
        have h8 := (hN.2 (gN S.2.2.2.2 (plZ S.2.2.2.2 i)).toNat (by omega) (by omega)).2.2
        have hbt := mk_bit (m := S.2.2.1 (gN S.2.2.2.2 (plZ S.2.2.2.2 i)).toNat) h8 qc19q.1 (show v < 5 by omega)
        have hmk := (hRT (gN S.2.2.2.2 (plZ S.2.2.2.2 i)).toNat (by omega) (by omega)).2.2
        refine x_aload_n dX9_nextMarked_41 rfl ?_
        refine x_aload_n dX9_nextMarked_42 rfl ?_
        refine x_iload dX9_nextMarked_43 rfl ?_
        refine p_V dX9_nextMarked_45 lX9_98 (c_X9_nodeOf sz hM0 hRP hB (r := i) ⟨by omega, by omega⟩) hM.1 rfl rfl rfl rfl (by decide) ?_
        rw [hnm]
        refine x_bipush dX9_nextMarked_48 (by decide) ?_
        refine p_V dX9_nextMarked_50 lX9_64 (c_X9_of sz hM0 (x := gN S.2.2.2.2 (plZ S.2.2.2.2 i)) (v := 10) (by omega)) hM.1 rfl rfl rfl rfl (by decide) ?_
        rw [show (2 + 52 * gN S.2.2.2.2 (plZ S.2.2.2.2 i) + 10).toNat = 2 + 52 * (gN S.2.2.2.2 (plZ S.2.2.2.2 i)).toNat + 10 by omega, hmk]
        refine x_iload_n dX9_nextMarked_53 rfl ?_
        refine x_ishr dX9_nextMarked_54 hbt.1 ?_
        refine x_iconst dX9_nextMarked_55 ?_
        refine x_iand dX9_nextMarked_56 hbt.2.1 ?_
        refine x_iconst dX9_nextMarked_57 ?_
        refine x_icmp_ne dX9_nextMarked_58 ⟨by omega, by omega⟩ ⟨by omega, by omega⟩ (fun qc58q => ?_) (fun qc58q => ?_)
        · refine x_iinc dX9_nextMarked_64 rfl rfl rfl ?_
          refine x_goto dX9_nextMarked_67 ?_
          refine ihq (i + 1) ⟨by omega, by omega, ?_⟩ (by omega)
          rw [hI]
          exact fZ_skip hi0 (by omega) (by rw [hii]; simp; omega)
        · refine x_iload dX9_nextMarked_61 rfl ?_
          refine x_ireturn dX9_nextMarked_63 rfl ?_
          refine ⟨?_, rfl⟩
          rw [if_neg (by omega), if_neg (fun q => q ⟨by omega, by omega⟩)]
          unfold spNx
          rw [hI, fZ_hit hi0 (by omega) (by rw [hii]; simp; omega), if_pos (by omega)]
    · refine x_bipush dX9_nextMarked_22 (by decide) ?_
      refine x_ireturn dX9_nextMarked_24 rfl ?_
      exact ⟨by rw [if_neg (by omega), if_pos (fun q => qc19q ⟨q.1, by omega⟩)], rfl⟩
  · refine x_bipush dX9_nextMarked_10 (by decide) ?_
    refine x_ireturn dX9_nextMarked_12 rfl ?_
    exact ⟨by rw [if_pos (by omega)], rfl⟩
theorem c_X9_find (sz : Nat) {h : AH} {m : Nat} {w : Nat → Nat → Int} {u : Nat → Int} (hM : MoW h m w u) {S : CS} (hR : RmR (w 0) S) (hIn : In1 S) {t : List Int} (hT : TxR w u t) (hTB : TyB t) {r : Int} (hr : inR r) : CC mX9_find 4 0 0 [.ref m, .int (zI r)] sz h (QR (spFnd t S r) h) := by
  refine CC.intro [some (.ref m), some (.int (zI r)), none, none] pfX9_find rfl rfl ?_
  have hM0 := hM
  unfold MoW at hM
  obtain ⟨hR0, hRP, hRI, hRK, hRT⟩ := hR
  obtain ⟨hB, hN, hKB, hWf, hLk⟩ := hIn
  have hL := hB.1
  have hd40 := hKB.1
  have hLv := hWf.1
  have hno := noM_no (r := r) hB
  unfold spFnd
  refine x_aload_n dX9_find_0 rfl ?_
  refine x_iload_n dX9_find_1 rfl ?_
  refine p_V dX9_find_2 lX9_98 (c_X9_nodeOf sz hM0 hRP hB hr) hM.1 rfl rfl rfl rfl (by decide) ?_
  refine x_bipush dX9_find_5 (by decide) ?_
  refine x_icmp_ne dX9_find_7 ⟨by omega, by omega⟩ ⟨by omega, by omega⟩ (fun qc7q => ?_) (fun qc7q => ?_)
  · have hnr : plR S.2.2.2.2 r ≠ -2 := by
      rcases hno with q | q
      · omega
      · exact q.2.2
    refine x_aload_n dX9_find_13 rfl ?_
    refine p_V dX9_find_14 lX9_154 (c_X9_rows sz hM0 hRP hB) hM.1 rfl rfl rfl rfl (by decide) ?_
    rw [show cZ (sn S.2.2.2.2) (S.2.2.2.2.length : Int) = (cB (sn S.2.2.2.2) S.2.2.2.2.length : Int) from rfl]
    refine x_istore_n dX9_find_17 rfl rfl rfl ?_
    refine x_iload_n dX9_find_18 rfl ?_
    refine x_iconst dX9_find_19 ?_
    refine x_iadd dX9_find_20 ?_
    refine x_istore_n dX9_find_21 rfl rfl rfl ?_
    have hrr := row_lt hnr
    have hcl := cB_le (sn S.2.2.2.2) S.2.2.2.2.length
    refine x_loop (fun _ => h) (fun i : Int => [some (.ref m), some (.int (zI r)), some (.int (zI (cB (sn S.2.2.2.2) S.2.2.2.2.length : Int))), some (.int (zI i))]) (fun i => 0 ≤ i ∧ i ≤ cB (sn S.2.2.2.2) S.2.2.2.2.length ∧ fZ (fun k => (fun y => decide (S.2.1 y = t)) (gN S.2.2.2.2 (plZ S.2.2.2.2 k)).toNat) (cB (sn S.2.2.2.2) S.2.2.2.2.length) (r + 1) = fZ (fun k => (fun y => decide (S.2.1 y = t)) (gN S.2.2.2.2 (plZ S.2.2.2.2 k)).toNat) (cB (sn S.2.2.2.2) S.2.2.2.2.length) i) (fun i => (cB (sn S.2.2.2.2) S.2.2.2.2.length - i).toNat) (r + 1) rfl rfl ⟨by omega, by omega, rfl⟩ ?_
    rintro i ⟨hi0, hi1, hI⟩ ihq
    try dsimp only at *
    refine x_iload_n dX9_find_22 rfl ?_
    refine x_iload_n dX9_find_23 rfl ?_
    refine x_icmp_ge dX9_find_24 ⟨by omega, by omega⟩ ⟨by omega, by omega⟩ (fun qc24q => ?_) (fun qc24q => ?_)
    · refine x_bipush dX9_find_47 (by decide) ?_
      refine x_ireturn dX9_find_49 rfl ?_
      refine ⟨?_, rfl⟩
      rw [if_neg (by omega)]
      unfold spNx
      rw [hI, fZ_end hi0 (by omega), if_neg (by omega)]
    · have hp := row_pl (pl := S.2.2.2.2) hi0 (by omega)
      have hn := hWf.n hB (z := plZ S.2.2.2.2 i) hp.1 hp.2
      have hii : ((i.toNat : Nat) : Int) = i := by omega
      have hnm := noM_row (pl := S.2.2.2.2) hi0 (by omega)
      
      refine x_aload_n dX9_find_27 rfl ?_
      refine x_aload_n dX9_find_28 rfl ?_
      refine x_iload_n dX9_find_29 rfl ?_
      refine p_V dX9_find_30 lX9_98 (c_X9_nodeOf sz hM0 hRP hB (r := i) ⟨by omega, by omega⟩) hM.1 rfl rfl rfl rfl (by decide) ?_
      rw [hnm, hn.2.2.1]
      refine p_V dX9_find_33 lX9_148 (c_X9_hasText sz hM0 hRT hN hT hTB (x := (gN S.2.2.2.2 (plZ S.2.2.2.2 i)).toNat) (by omega) (by omega)) hM.1 rfl rfl rfl rfl (by decide) ?_
      refine x_ifB_eq dX9_find_36 (fun qc36q => ?_) (fun qc36q => ?_)
      · refine x_iinc dX9_find_41 rfl rfl rfl ?_
        refine x_goto dX9_find_44 ?_
        refine ihq (i + 1) ⟨by omega, by omega, ?_⟩ (by omega)
        rw [hI]
        exact fZ_skip hi0 (by omega) (by rw [hii]; simpa using qc36q)
      · refine x_iload_n dX9_find_39 rfl ?_
        refine x_ireturn dX9_find_40 rfl ?_
        refine ⟨?_, rfl⟩
        rw [if_neg (by omega)]
        unfold spNx
        rw [hI, fZ_hit hi0 (by omega) (by rw [hii]; simpa using qc36q), if_pos (by omega)]
  · refine x_bipush dX9_find_10 (by decide) ?_
    refine x_ireturn dX9_find_12 rfl ?_
    exact ⟨by rw [if_pos (by omega)], rfl⟩
