theorem fZ_eq {p : Nat → Bool} {len : Nat} {i k : Int} (h0 : 0 ≤ i) (h1 : i ≤ k) (h2 : k ≤ len) (h3 : ∀ j : Nat, i ≤ j → (j : Int) < k → p j = false) (h4 : k < len → p k.toNat = true) : fZ p len i = k := by
  obtain ⟨s1, s2, s3, s4⟩ := fZ_spec p len h0 (by omega)
  generalize fZ p len i = f at *
  by_cases q : f < k
  · have := h3 f.toNat (by omega) (by omega)
    rw [s4 (by omega)] at this
    cases this
  · by_cases q2 : k < f
    · have := s3 k.toNat (by omega) (by omega)
      rw [h4 (by omega)] at this
      cases this
    · omega
theorem c_X9_hasKids (sz : Nat) {h : AH} {m : Nat} {w : Nat → Nat → Int} {u : Nat → Int} (hM : MoW h m w u) {pl : List PE} (hR : RmP (w 0) pl) (hB : PlB pl) {d : Nat} {K : Nat → List Nat} (hK : RmK (w 0) d K) (hKB : KB d K) {z : Int} (h0 : 0 ≤ z) (h1 : z < pl.length) (hd : pn pl z.toNat ≤ d) : CC mX9_hasKids 1 0 0 [.ref m, .int (zI z)] sz h (QB (0 < (K (pn pl z.toNat)).length) h) := by
  refine CC.intro [some (.ref m), some (.int (zI z))] pfX9_hasKids rfl rfl ?_
  have hM0 := hM
  unfold MoW at hM
  have hL := hB.1
  have hw1 : w 0 (Int.toNat 1) = (pl.length : Int) := hR.1
  have hz := hR.at h0 h1
  have hkx := hK.at (x := ((pn pl z.toNat : Nat) : Int)) (by omega) (by omega)
  rw [Int.toNat_natCast] at hkx
  have hkl := (hKB.2 _ hd).1
  have hd40 := hKB.1
  refine x_aload_n dX9_hasKids_0 rfl ?_
  refine x_aload_n dX9_hasKids_1 rfl ?_
  refine x_iload_n dX9_hasKids_2 rfl ?_
  refine x_iconst dX9_hasKids_3 ?_
  refine p_V dX9_hasKids_4 lX9_77 (c_X9_at sz hM0 (x := z) (v := 0) (by omega)) hM.1 rfl rfl rfl rfl (by decide) ?_
  rw [hz.1]
  refine x_bipush dX9_hasKids_7 (by decide) ?_
  refine p_V dX9_hasKids_9 lX9_64 (c_X9_of sz hM0 (x := ((pn pl z.toNat : Nat) : Int)) (v := 11) (by omega)) hM.1 rfl rfl rfl rfl (by decide) ?_
  rw [hkx]
  refine x_if_le dX9_hasKids_12 ⟨by omega, by omega⟩ (fun qc12q => ?_) (fun qc12q => ?_)
  · refine x_iconst dX9_hasKids_19 ?_
    refine x_zreturn dX9_hasKids_20 rfl (by decide) ?_
    refine ⟨?_, rfl⟩
    first | (exfalso; omega) | (rw [if_pos (by omega)]; done) | (rw [if_neg (by omega)]; done)
  · refine x_iconst dX9_hasKids_15 ?_
    refine x_goto dX9_hasKids_16 ?_
    refine x_zreturn dX9_hasKids_20 rfl (by decide) ?_
    refine ⟨?_, rfl⟩
    first | (exfalso; omega) | (rw [if_pos (by omega)]; done) | (rw [if_neg (by omega)]; done)
theorem c_X9_rowsWithin (sz : Nat) {h : AH} {m : Nat} {w : Nat → Nat → Int} {u : Nat → Int} (hM : MoW h m w u) {pl : List PE} (hR : RmP (w 0) pl) (hB : PlB pl) {z : Int} (h0 : 0 ≤ z) (h1 : z < pl.length) : CC mX9_rowsWithin 2 0 0 [.ref m, .int (zI z)] sz h (QR (cZ (sn pl) (pEnd pl (gV pl z) (z + 1)) - cZ (sn pl) (z + 1)) h) := by
  refine CC.intro [some (.ref m), some (.int (zI z)), none, none] pfX9_rowsWithin rfl rfl ?_
  have hM0 := hM
  unfold MoW at hM
  have hL := hB.1
  have hw1 : w 0 (Int.toNat 1) = (pl.length : Int) := hR.1
  have hz := hR.at h0 h1
  have hzB := hB.2 z.toNat (by omega)
  have hzg := (gV_p (pl := pl) h0).1
  refine x_iconst dX9_rowsWithin_0 ?_
  refine x_istore_n dX9_rowsWithin_1 rfl rfl rfl ?_
  refine x_iload_n dX9_rowsWithin_2 rfl ?_
  refine x_iconst dX9_rowsWithin_3 ?_
  refine x_iadd dX9_rowsWithin_4 ?_
  refine x_istore_n dX9_rowsWithin_5 rfl rfl rfl ?_
  refine x_loop (fun _ => h) (fun s : Int × Int => [some (.ref m), some (.int (zI z)), some (.int (zI s.2)), some (.int (zI s.1))]) (fun s => z + 1 ≤ s.1 ∧ s.1 ≤ pl.length ∧ s.2 = cZ (sn pl) s.1 - cZ (sn pl) (z + 1) ∧ ∀ j : Nat, z + 1 ≤ j → (j : Int) < s.1 → pv pl z.toNat < pv pl j) (fun s => (pl.length - s.1).toNat) (z + 1, 0) rfl rfl ⟨by dsimp only; omega, by dsimp only; omega, by dsimp only; omega, fun j j1 j2 => by dsimp only at j2; omega⟩ ?_
  rintro ⟨k, c⟩ ⟨hk0, hk1, hI, hJ⟩ ihq
  try dsimp only at *
  have hpre : k < pl.length → w 0 (2134 + 3 * k + 1).toNat = pv pl k.toNat ∧ pv pl k.toNat ≤ 40 := fun q => ⟨(hR.at (by omega) q).2.1, (hB.2 k.toNat (by omega)).2.2.2.1⟩
  refine x_iload_n dX9_rowsWithin_6 rfl ?_
  refine x_aload_n dX9_rowsWithin_7 rfl ?_
  refine s_get dX9_rowsWithin_8 fX9_7 hM rfl ?_
  refine x_iconst dX9_rowsWithin_11 ?_
  refine s_iald dX9_rowsWithin_12 hM rfl rfl ⟨by omega, by omega⟩ ?_
  refine x_icmp_ge dX9_rowsWithin_13 ⟨by omega, by omega⟩ ⟨by rw [hw1]; omega, by rw [hw1]; omega⟩ (fun qc13q => ?_) (fun qc13q => ?_)
  · refine x_iload_n dX9_rowsWithin_53 rfl ?_
    refine x_ireturn dX9_rowsWithin_54 rfl ?_
    have qe8q : pEnd pl (gV pl z) (z + 1) = k := by
      unfold pEnd
      refine fZ_eq (by omega) (by omega) (by omega) (fun j j1 j2 => decide_eq_false (by have := hJ j j1 j2; omega)) (fun q => decide_eq_true (by have := (hpre q).1; omega))
    exact ⟨by rw [qe8q, hI], rfl⟩
  · obtain ⟨qe1q, qe2q⟩ := hpre (by omega)
    refine x_aload_n dX9_rowsWithin_16 rfl ?_
    refine x_iload_n dX9_rowsWithin_17 rfl ?_
    refine x_iconst dX9_rowsWithin_18 ?_
    refine p_V dX9_rowsWithin_19 lX9_77 (c_X9_at sz hM0 (x := k) (v := 1) (by omega)) hM.1 rfl rfl rfl rfl (by decide) ?_
    rw [qe1q]
    refine x_aload_n dX9_rowsWithin_22 rfl ?_
    refine x_iload_n dX9_rowsWithin_23 rfl ?_
    refine x_iconst dX9_rowsWithin_24 ?_
    refine p_V dX9_rowsWithin_25 lX9_77 (c_X9_at sz hM0 (x := z) (v := 1) (by omega)) hM.1 rfl rfl rfl rfl (by decide) ?_
    rw [hz.2.1]
    refine x_icmp_le dX9_rowsWithin_28 ⟨by omega, by omega⟩ ⟨by omega, by omega⟩ (fun qc28q => ?_) (fun qc28q => ?_)
    · refine x_iload_n dX9_rowsWithin_53 rfl ?_
      refine x_ireturn dX9_rowsWithin_54 rfl ?_
      have qe8q : pEnd pl (gV pl z) (z + 1) = k := by
        unfold pEnd
        refine fZ_eq (by omega) (by omega) (by omega) (fun j j1 j2 => decide_eq_false (by have := hJ j j1 j2; omega)) (fun q => decide_eq_true (by have := (hpre q).1; omega))
      exact ⟨by rw [qe8q, hI], rfl⟩
    · refine x_iload_n dX9_rowsWithin_31 rfl ?_
      refine x_aload_n dX9_rowsWithin_32 rfl ?_
      refine x_iload_n dX9_rowsWithin_33 rfl ?_
      refine p_V dX9_rowsWithin_34 lX9_80 (c_X9_isSeen sz hM0 hR hB (z := k) (by omega) (by omega)) hM.1 rfl rfl rfl rfl (by decide) ?_
      refine x_ifB_eq dX9_rowsWithin_37 (fun qc37q => ?_) (fun qc37q => ?_)
      · refine x_iconst dX9_rowsWithin_44 ?_
        refine x_iadd dX9_rowsWithin_45 ?_
        refine x_istore_n dX9_rowsWithin_46 rfl rfl rfl ?_
        refine x_iinc dX9_rowsWithin_47 rfl rfl rfl ?_
        refine x_goto dX9_rowsWithin_50 ?_
        have qe7q : ∀ j : Nat, z + 1 ≤ j → (j : Int) < k + 1 → pv pl z.toNat < pv pl j := fun j j1 j2 => by
          by_cases q : (j : Int) = k
          · rw [show j = k.toNat by omega]
            omega
          · exact hJ j j1 (by omega)
        first
          | (refine ihq (k + 1, c + 1) ⟨by dsimp only; omega, by dsimp only; omega, ?_, qe7q⟩ (by dsimp only; omega)
             dsimp only
             rw [cZ_t (by omega) (by assumption), hI]
             omega)
          | (refine ihq (k + 1, c + 0) ⟨by dsimp only; omega, by dsimp only; omega, ?_, qe7q⟩ (by dsimp only; omega)
             dsimp only
             rw [cZ_f (by omega) (by apply Bool.eq_false_iff.mpr; assumption), hI, Int.add_zero])
      · refine x_iconst dX9_rowsWithin_40 ?_
        refine x_goto dX9_rowsWithin_41 ?_
        refine x_iadd dX9_rowsWithin_45 ?_
        refine x_istore_n dX9_rowsWithin_46 rfl rfl rfl ?_
        refine x_iinc dX9_rowsWithin_47 rfl rfl rfl ?_
        refine x_goto dX9_rowsWithin_50 ?_
        have qe7q : ∀ j : Nat, z + 1 ≤ j → (j : Int) < k + 1 → pv pl z.toNat < pv pl j := fun j j1 j2 => by
          by_cases q : (j : Int) = k
          · rw [show j = k.toNat by omega]
            omega
          · exact hJ j j1 (by omega)
        first
          | (refine ihq (k + 1, c + 1) ⟨by dsimp only; omega, by dsimp only; omega, ?_, qe7q⟩ (by dsimp only; omega)
             dsimp only
             rw [cZ_t (by omega) (by assumption), hI]
             omega)
          | (refine ihq (k + 1, c + 0) ⟨by dsimp only; omega, by dsimp only; omega, ?_, qe7q⟩ (by dsimp only; omega)
             dsimp only
             rw [cZ_f (by omega) (by apply Bool.eq_false_iff.mpr; assumption), hI, Int.add_zero])
theorem c_X9_firstPlace (sz : Nat) {h : AH} {m : Nat} {w : Nat → Nat → Int} {u : Nat → Int} (hM : MoW h m w u) {pl : List PE} (hR : RmP (w 0) pl) (hB : PlB pl) {y : Int} (hy : inR y) (hf : pFst pl y ≠ -2) : CC mX9_firstPlace 1 0 0 [.ref m, .int (zI y)] sz h (QR (pFst pl y) h) := by
  refine CC.intro [some (.ref m), some (.int (zI y)), none] pfX9_firstPlace rfl rfl ?_
  have hM0 := hM
  unfold MoW at hM
  have hL := hB.1
  have hw1 : w 0 (Int.toNat 1) = (pl.length : Int) := hR.1
  have hpf := pFst_r pl y
  have hex : 0 ≤ pFst pl y ∧ pFst pl y < pl.length ∧ gN pl (pFst pl y) = y := by
    rcases hpf with q | q
    · exact absurd q.1 hf
    · exact q
  refine x_iconst dX9_firstPlace_0 ?_
  refine x_istore_n dX9_firstPlace_1 rfl rfl rfl ?_
  refine x_loop (fun _ => h) (fun k : Int => [some (.ref m), some (.int (zI y)), some (.int (zI k))]) (fun k => 0 ≤ k ∧ k ≤ pFst pl y ∧ ∀ j : Nat, (j : Int) < k → (pn pl j : Int) ≠ y) (fun k => (pl.length - k).toNat) 0 rfl rfl ⟨by omega, by omega, fun j hj => by omega⟩ ?_
  rintro k ⟨hk0, hk1, hI⟩ ihq
  have qe1q := (hR.at hk0 (by omega)).1
  have qe2q := hB.2 k.toNat (by omega)
  refine x_aload_n dX9_firstPlace_2 rfl ?_
  refine x_iload_n dX9_firstPlace_3 rfl ?_
  refine x_iconst dX9_firstPlace_4 ?_
  refine p_V dX9_firstPlace_5 lX9_77 (c_X9_at sz hM0 (x := k) (v := 0) (by omega)) hM.1 rfl rfl rfl rfl (by decide) ?_
  rw [qe1q]
  refine x_iload_n dX9_firstPlace_8 rfl ?_
  refine x_icmp_eq dX9_firstPlace_9 ⟨by omega, by omega⟩ ⟨by omega, by omega⟩ (fun qc9q => ?_) (fun qc9q => ?_)
  · refine x_iload_n dX9_firstPlace_18 rfl ?_
    refine x_ireturn dX9_firstPlace_19 rfl ?_
    have qe3q : pFst pl y = k := by
      unfold pFst
      rw [fZ_eq (k := k) (by omega) hk0 (by omega) (fun j j1 j2 => decide_eq_false (hI j j2)) (fun q => decide_eq_true (by omega)), if_pos (by omega)]
    exact ⟨by rw [qe3q], rfl⟩
  · refine x_iinc dX9_firstPlace_12 rfl rfl rfl ?_
    refine x_goto dX9_firstPlace_15 ?_
    refine ihq (k + 1) ⟨by omega, ?_, fun j hj => ?_⟩ (by omega)
    · by_cases q : k = pFst pl y
      · have q1 := hex.2.2
        rw [← q, ← (gV_p (pl := pl) hk0).2.1] at q1
        omega
      · omega
    · by_cases q : (j : Int) = k
      · rw [show j = k.toNat by omega]
        omega
      · exact hI j (by omega)
theorem c_X9_seenPlaces (sz : Nat) {h : AH} {m : Nat} {w : Nat → Nat → Int} {u : Nat → Int} (hM : MoW h m w u) {pl : List PE} (hR : RmP (w 0) pl) (hB : PlB pl) {y : Int} (hy : inR y) : CC mX9_seenPlaces 2 0 0 [.ref m, .int (zI y)] sz h (QR (cZ (snN pl y) pl.length) h) := by
  refine CC.intro [some (.ref m), some (.int (zI y)), none, none] pfX9_seenPlaces rfl rfl ?_
  have hM0 := hM
  unfold MoW at hM
  have hL := hB.1
  have hw1 : w 0 (Int.toNat 1) = (pl.length : Int) := hR.1
  refine x_iconst dX9_seenPlaces_0 ?_
  refine x_istore_n dX9_seenPlaces_1 rfl rfl rfl ?_
  refine x_iconst dX9_seenPlaces_2 ?_
  refine x_istore_n dX9_seenPlaces_3 rfl rfl rfl ?_
  refine x_loop (fun _ => h) (fun s : Int × Int => [some (.ref m), some (.int (zI y)), some (.int (zI s.2)), some (.int (zI s.1))]) (fun s => 0 ≤ s.1 ∧ s.1 ≤ pl.length ∧ s.2 = cZ (snN pl y) s.1) (fun s => (pl.length - s.1).toNat) (0, 0) rfl rfl ⟨by dsimp only; omega, by dsimp only; omega, rfl⟩ ?_
  rintro ⟨k, c⟩ ⟨hk0, hk1, hI⟩ ihq
  try dsimp only at *
  have hpre : k < pl.length → w 0 (2134 + 3 * k + 0).toNat = pn pl k.toNat ∧ pn pl k.toNat ≤ 40 := fun q => ⟨(hR.at hk0 q).1, (hB.2 k.toNat (by omega)).2.1⟩
  have hqk : snN pl y k.toNat = (sn pl k.toNat && decide ((pn pl k.toNat : Int) = y)) := rfl
  refine x_iload_n dX9_seenPlaces_4 rfl ?_
  refine x_aload_n dX9_seenPlaces_5 rfl ?_
  refine s_get dX9_seenPlaces_6 fX9_7 hM rfl ?_
  refine x_iconst dX9_seenPlaces_9 ?_
  refine s_iald dX9_seenPlaces_10 hM rfl rfl ⟨by omega, by omega⟩ ?_
  refine x_icmp_ge dX9_seenPlaces_11 ⟨by omega, by omega⟩ ⟨by rw [hw1]; omega, by rw [hw1]; omega⟩ (fun qc11q => ?_) (fun qc11q => ?_)
  · refine x_iload_n dX9_seenPlaces_46 rfl ?_
    refine x_ireturn dX9_seenPlaces_47 rfl ?_
    exact ⟨by rw [hI, show k = pl.length by omega], rfl⟩
  · obtain ⟨qe1q, qe2q⟩ := hpre (by omega)
    refine x_iload_n dX9_seenPlaces_14 rfl ?_
    refine x_aload_n dX9_seenPlaces_15 rfl ?_
    refine x_iload_n dX9_seenPlaces_16 rfl ?_
    refine x_iconst dX9_seenPlaces_17 ?_
    refine p_V dX9_seenPlaces_18 lX9_77 (c_X9_at sz hM0 (x := k) (v := 0) (by omega)) hM.1 rfl rfl rfl rfl (by decide) ?_
    rw [qe1q]
    refine x_iload_n dX9_seenPlaces_21 rfl ?_
    refine x_icmp_ne dX9_seenPlaces_22 ⟨by omega, by omega⟩ ⟨by omega, by omega⟩ (fun qc22q => ?_) (fun qc22q => ?_)
    · refine x_iconst dX9_seenPlaces_37 ?_
      refine x_iadd dX9_seenPlaces_38 ?_
      refine x_istore_n dX9_seenPlaces_39 rfl rfl rfl ?_
      refine x_iinc dX9_seenPlaces_40 rfl rfl rfl ?_
      refine x_goto dX9_seenPlaces_43 ?_
      first
        | (refine ihq (k + 1, c + 1) ⟨by dsimp only; omega, by dsimp only; omega, ?_⟩ (by dsimp only; omega)
           dsimp only
           rw [cZ_t hk0 (by rw [hqk]; simp only [Bool.and_eq_true, decide_eq_true_iff]; exact ⟨by assumption, by omega⟩), hI]
           done)
        | (refine ihq (k + 1, c + 0) ⟨by dsimp only; omega, by dsimp only; omega, ?_⟩ (by dsimp only; omega)
           dsimp only
           rw [cZ_f hk0 (by rw [hqk]; apply Bool.eq_false_iff.mpr; intro q; simp only [Bool.and_eq_true, decide_eq_true_iff] at q; first | (have := q.1; contradiction) | (have := q.2; omega)), hI, Int.add_zero])
    · refine x_aload_n dX9_seenPlaces_25 rfl ?_
      refine x_iload_n dX9_seenPlaces_26 rfl ?_
      refine p_V dX9_seenPlaces_27 lX9_80 (c_X9_isSeen sz hM0 hR hB (z := k) hk0 (by omega)) hM.1 rfl rfl rfl rfl (by decide) ?_
      refine x_ifB_eq dX9_seenPlaces_30 (fun qc30q => ?_) (fun qc30q => ?_)
      · refine x_iconst dX9_seenPlaces_37 ?_
        refine x_iadd dX9_seenPlaces_38 ?_
        refine x_istore_n dX9_seenPlaces_39 rfl rfl rfl ?_
        refine x_iinc dX9_seenPlaces_40 rfl rfl rfl ?_
        refine x_goto dX9_seenPlaces_43 ?_
        first
          | (refine ihq (k + 1, c + 1) ⟨by dsimp only; omega, by dsimp only; omega, ?_⟩ (by dsimp only; omega)
             dsimp only
             rw [cZ_t hk0 (by rw [hqk]; simp only [Bool.and_eq_true, decide_eq_true_iff]; exact ⟨by assumption, by omega⟩), hI]
             done)
          | (refine ihq (k + 1, c + 0) ⟨by dsimp only; omega, by dsimp only; omega, ?_⟩ (by dsimp only; omega)
             dsimp only
             rw [cZ_f hk0 (by rw [hqk]; apply Bool.eq_false_iff.mpr; intro q; simp only [Bool.and_eq_true, decide_eq_true_iff] at q; first | (have := q.1; contradiction) | (have := q.2; omega)), hI, Int.add_zero])
      · refine x_iconst dX9_seenPlaces_33 ?_
        refine x_goto dX9_seenPlaces_34 ?_
        refine x_iadd dX9_seenPlaces_38 ?_
        refine x_istore_n dX9_seenPlaces_39 rfl rfl rfl ?_
        refine x_iinc dX9_seenPlaces_40 rfl rfl rfl ?_
        refine x_goto dX9_seenPlaces_43 ?_
        first
          | (refine ihq (k + 1, c + 1) ⟨by dsimp only; omega, by dsimp only; omega, ?_⟩ (by dsimp only; omega)
             dsimp only
             rw [cZ_t hk0 (by rw [hqk]; simp only [Bool.and_eq_true, decide_eq_true_iff]; exact ⟨by assumption, by omega⟩), hI]
             done)
          | (refine ihq (k + 1, c + 0) ⟨by dsimp only; omega, by dsimp only; omega, ?_⟩ (by dsimp only; omega)
             dsimp only
             rw [cZ_f hk0 (by rw [hqk]; apply Bool.eq_false_iff.mpr; intro q; simp only [Bool.and_eq_true, decide_eq_true_iff] at q; first | (have := q.1; contradiction) | (have := q.2; omega)), hI, Int.add_zero])
theorem c_X9_firstRow (sz : Nat) {h : AH} {m : Nat} {w : Nat → Nat → Int} {u : Nat → Int} (hM : MoW h m w u) {pl : List PE} (hR : RmP (w 0) pl) (hB : PlB pl) {y : Int} (hy : inR y) : CC mX9_firstRow 3 0 0 [.ref m, .int (zI y)] sz h (QR (rwF pl y) h) := by
  refine CC.intro [some (.ref m), some (.int (zI y)), none] pfX9_firstRow rfl rfl ?_
  have hM0 := hM
  unfold MoW at hM
  have hL := hB.1
  have hw1 : w 0 (Int.toNat 1) = (pl.length : Int) := hR.1
  refine x_iconst dX9_firstRow_0 ?_
  refine x_istore_n dX9_firstRow_1 rfl rfl rfl ?_
  refine x_loop (fun _ => h) (fun k : Int => [some (.ref m), some (.int (zI y)), some (.int (zI k))]) (fun k => 0 ≤ k ∧ k ≤ pl.length ∧ ∀ j : Nat, (j : Int) < k → snN pl y j = false) (fun k => (pl.length - k).toNat) 0 rfl rfl ⟨by omega, by omega, fun j hj => by omega⟩ ?_
  rintro k ⟨hk0, hk1, hI⟩ ihq
  have hpre : k < pl.length → w 0 (2134 + 3 * k + 0).toNat = pn pl k.toNat ∧ pn pl k.toNat ≤ 40 := fun q => ⟨(hR.at hk0 q).1, (hB.2 k.toNat (by omega)).2.1⟩
  have hqk : snN pl y k.toNat = (sn pl k.toNat && decide ((pn pl k.toNat : Int) = y)) := rfl
  refine x_iload_n dX9_firstRow_2 rfl ?_
  refine x_aload_n dX9_firstRow_3 rfl ?_
  refine s_get dX9_firstRow_4 fX9_7 hM rfl ?_
  refine x_iconst dX9_firstRow_7 ?_
  refine s_iald dX9_firstRow_8 hM rfl rfl ⟨by omega, by omega⟩ ?_
  refine x_icmp_ge dX9_firstRow_9 ⟨by omega, by omega⟩ ⟨by rw [hw1]; omega, by rw [hw1]; omega⟩ (fun qc9q => ?_) (fun qc9q => ?_)
  · refine x_bipush dX9_firstRow_42 (by decide) ?_
    refine x_ireturn dX9_firstRow_44 rfl ?_
    refine ⟨?_, rfl⟩
    unfold rwF
    rw [fZ_eq (k := k) (by omega) hk0 (by omega) (fun j j1 j2 => hI j j2) (fun q => by omega), if_neg (by omega)]
  · obtain ⟨qe1q, qe2q⟩ := hpre (by omega)
    refine x_aload_n dX9_firstRow_12 rfl ?_
    refine x_iload_n dX9_firstRow_13 rfl ?_
    refine x_iconst dX9_firstRow_14 ?_
    refine p_V dX9_firstRow_15 lX9_77 (c_X9_at sz hM0 (x := k) (v := 0) (by omega)) hM.1 rfl rfl rfl rfl (by decide) ?_
    rw [qe1q]
    refine x_iload_n dX9_firstRow_18 rfl ?_
    refine x_icmp_ne dX9_firstRow_19 ⟨by omega, by omega⟩ ⟨by omega, by omega⟩ (fun qc19q => ?_) (fun qc19q => ?_)
    · refine x_iinc dX9_firstRow_36 rfl rfl rfl ?_
      refine x_goto dX9_firstRow_39 ?_
      refine ihq (k + 1) ⟨by omega, by omega, fun j hj => ?_⟩ (by omega)
      by_cases q : (j : Int) = k
      · rw [show j = k.toNat by omega, hqk]
        apply Bool.eq_false_iff.mpr
        intro q
        simp only [Bool.and_eq_true, decide_eq_true_iff] at q
        first | (have := q.1; contradiction) | (have := q.2; omega)
      · exact hI j (by omega)
    · refine x_aload_n dX9_firstRow_22 rfl ?_
      refine x_iload_n dX9_firstRow_23 rfl ?_
      refine p_V dX9_firstRow_24 lX9_80 (c_X9_isSeen sz hM0 hR hB (z := k) hk0 (by omega)) hM.1 rfl rfl rfl rfl (by decide) ?_
      refine x_ifB_eq dX9_firstRow_27 (fun qc27q => ?_) (fun qc27q => ?_)
      · refine x_iinc dX9_firstRow_36 rfl rfl rfl ?_
        refine x_goto dX9_firstRow_39 ?_
        refine ihq (k + 1) ⟨by omega, by omega, fun j hj => ?_⟩ (by omega)
        by_cases q : (j : Int) = k
        · rw [show j = k.toNat by omega, hqk]
          apply Bool.eq_false_iff.mpr
          intro q
          simp only [Bool.and_eq_true, decide_eq_true_iff] at q
          first | (have := q.1; contradiction) | (have := q.2; omega)
        · exact hI j (by omega)
      · refine x_aload_n dX9_firstRow_30 rfl ?_
        refine x_iload_n dX9_firstRow_31 rfl ?_
        refine p_V dX9_firstRow_32 lX9_164 (c_X9_rowOf sz hM0 hR hB (z := k) hk0 (by omega)) hM.1 rfl rfl rfl rfl (by decide) ?_
        refine x_ireturn dX9_firstRow_35 rfl ?_
        refine ⟨?_, rfl⟩
        unfold rwF
        rw [fZ_eq (k := k) (by omega) hk0 (by omega) (fun j j1 j2 => hI j j2) (fun q => by rw [hqk]; simp only [Bool.and_eq_true, decide_eq_true_iff]; exact ⟨by assumption, by omega⟩), if_pos (by omega)]
        rfl
theorem c_X9_foldedPlaces (sz : Nat) {h : AH} {m : Nat} {w : Nat → Nat → Int} {u : Nat → Int} (hM : MoW h m w u) {pl : List PE} (hR : RmP (w 0) pl) (hB : PlB pl) : CC mX9_foldedPlaces 1 0 0 [.ref m] sz h (QR (pFld pl) h) := by
  refine CC.intro [some (.ref m), none, none] pfX9_foldedPlaces rfl rfl ?_
  have hM0 := hM
  unfold MoW at hM
  have hL := hB.1
  have hw1 : w 0 (Int.toNat 1) = (pl.length : Int) := hR.1
  refine x_iconst dX9_foldedPlaces_0 ?_
  refine x_istore_n dX9_foldedPlaces_1 rfl rfl rfl ?_
  refine x_iconst dX9_foldedPlaces_2 ?_
  refine x_istore_n dX9_foldedPlaces_3 rfl rfl rfl ?_
  refine x_loop (fun _ => h) (fun s : Int × Int => [some (.ref m), some (.int (zI s.2)), some (.int (zI s.1))]) (fun s => 0 ≤ s.1 ∧ s.1 ≤ pl.length ∧ s.2 = sZ (pf pl) s.1) (fun s => (pl.length - s.1).toNat) (0, 0) rfl rfl ⟨by dsimp only; omega, by dsimp only; omega, rfl⟩ ?_
  rintro ⟨k, c⟩ ⟨hk0, hk1, hI⟩ ihq
  try dsimp only at *
  have hpre : k < pl.length → w 0 (2134 + 3 * k + 2).toNat = pf pl k.toNat ∧ pf pl k.toNat ≤ 1 := fun q => ⟨(hR.at hk0 q).2.2, (hB.2 k.toNat (by omega)).2.2.2.2⟩
  refine x_iload_n dX9_foldedPlaces_4 rfl ?_
  refine x_aload_n dX9_foldedPlaces_5 rfl ?_
  refine s_get dX9_foldedPlaces_6 fX9_7 hM rfl ?_
  refine x_iconst dX9_foldedPlaces_9 ?_
  refine s_iald dX9_foldedPlaces_10 hM rfl rfl ⟨by omega, by omega⟩ ?_
  refine x_icmp_ge dX9_foldedPlaces_11 ⟨by omega, by omega⟩ ⟨by rw [hw1]; omega, by rw [hw1]; omega⟩ (fun qc11q => ?_) (fun qc11q => ?_)
  · refine x_iload_n dX9_foldedPlaces_29 rfl ?_
    refine x_ireturn dX9_foldedPlaces_30 rfl ?_
    exact ⟨by unfold pFld; rw [hI, show k = pl.length by omega], rfl⟩
  · obtain ⟨qe1q, qe2q⟩ := hpre (by omega)
    refine x_iload_n dX9_foldedPlaces_14 rfl ?_
    refine x_aload_n dX9_foldedPlaces_15 rfl ?_
    refine x_iload_n dX9_foldedPlaces_16 rfl ?_
    refine x_iconst dX9_foldedPlaces_17 ?_
    refine p_V dX9_foldedPlaces_18 lX9_77 (c_X9_at sz hM0 (x := k) (v := 2) (by omega)) hM.1 rfl rfl rfl rfl (by decide) ?_
    rw [qe1q]
    refine x_iadd dX9_foldedPlaces_21 ?_
    refine x_istore_n dX9_foldedPlaces_22 rfl rfl rfl ?_
    refine x_iinc dX9_foldedPlaces_23 rfl rfl rfl ?_
    refine x_goto dX9_foldedPlaces_26 ?_
    refine ihq (k + 1, c + (pf pl k.toNat : Int)) ⟨by dsimp only; omega, by dsimp only; omega, ?_⟩ (by dsimp only; omega)
    dsimp only
    rw [sZ_s _ hk0, hI]
theorem c_X9_greatestLevel (sz : Nat) {h : AH} {m : Nat} {w : Nat → Nat → Int} {u : Nat → Int} (hM : MoW h m w u) {pl : List PE} (hR : RmP (w 0) pl) (hB : PlB pl) : CC mX9_greatestLevel 1 0 0 [.ref m] sz h (QR (pTop pl) h) := by
  refine CC.intro [some (.ref m), none, none] pfX9_greatestLevel rfl rfl ?_
  have hM0 := hM
  unfold MoW at hM
  have hL := hB.1
  have hw1 : w 0 (Int.toNat 1) = (pl.length : Int) := hR.1
  refine x_iconst dX9_greatestLevel_0 ?_
  refine x_istore_n dX9_greatestLevel_1 rfl rfl rfl ?_
  refine x_iconst dX9_greatestLevel_2 ?_
  refine x_istore_n dX9_greatestLevel_3 rfl rfl rfl ?_
  refine x_loop (fun _ => h) (fun s : Int × Int => [some (.ref m), some (.int (zI s.2)), some (.int (zI s.1))]) (fun s => 0 ≤ s.1 ∧ s.1 ≤ pl.length ∧ s.2 = mZ (pv pl) s.1 ∧ 0 ≤ s.2 ∧ s.2 ≤ 40) (fun s => (pl.length - s.1).toNat) (0, 0) rfl rfl ⟨by dsimp only; omega, by dsimp only; omega, rfl, by dsimp only; omega, by dsimp only; omega⟩ ?_
  rintro ⟨k, c⟩ ⟨hk0, hk1, hI, hc0, hc1⟩ ihq
  try dsimp only at *
  have hpre : k < pl.length → w 0 (2134 + 3 * k + 1).toNat = pv pl k.toNat ∧ pv pl k.toNat ≤ 40 := fun q => ⟨(hR.at hk0 q).2.1, (hB.2 k.toNat (by omega)).2.2.2.1⟩
  refine x_iload_n dX9_greatestLevel_4 rfl ?_
  refine x_aload_n dX9_greatestLevel_5 rfl ?_
  refine s_get dX9_greatestLevel_6 fX9_7 hM rfl ?_
  refine x_iconst dX9_greatestLevel_9 ?_
  refine s_iald dX9_greatestLevel_10 hM rfl rfl ⟨by omega, by omega⟩ ?_
  refine x_icmp_ge dX9_greatestLevel_11 ⟨by omega, by omega⟩ ⟨by rw [hw1]; omega, by rw [hw1]; omega⟩ (fun qc11q => ?_) (fun qc11q => ?_)
  · refine x_iload_n dX9_greatestLevel_41 rfl ?_
    refine x_ireturn dX9_greatestLevel_42 rfl ?_
    exact ⟨by unfold pTop; rw [hI, show k = pl.length by omega], rfl⟩
  · obtain ⟨qe1q, qe2q⟩ := hpre (by omega)
    refine x_aload_n dX9_greatestLevel_14 rfl ?_
    refine x_iload_n dX9_greatestLevel_15 rfl ?_
    refine x_iconst dX9_greatestLevel_16 ?_
    refine p_V dX9_greatestLevel_17 lX9_77 (c_X9_at sz hM0 (x := k) (v := 1) (by omega)) hM.1 rfl rfl rfl rfl (by decide) ?_
    rw [qe1q]
    refine x_iload_n dX9_greatestLevel_20 rfl ?_
    refine x_icmp_le dX9_greatestLevel_21 ⟨by omega, by omega⟩ ⟨by omega, by omega⟩ (fun qc21q => ?_) (fun qc21q => ?_)
    · refine x_iload_n dX9_greatestLevel_33 rfl ?_
      refine x_istore_n dX9_greatestLevel_34 rfl rfl rfl ?_
      refine x_iinc dX9_greatestLevel_35 rfl rfl rfl ?_
      refine x_goto dX9_greatestLevel_38 ?_
      first
        | (refine ihq (k + 1, (pv pl k.toNat : Int)) ⟨by dsimp only; omega, by dsimp only; omega, ?_, by dsimp only; omega, by dsimp only; omega⟩ (by dsimp only; omega)
           dsimp only
           rw [mZ_s _ hk0, ← hI]
           omega)
        | (refine ihq (k + 1, c) ⟨by dsimp only; omega, by dsimp only; omega, ?_, by dsimp only; omega, by dsimp only; omega⟩ (by dsimp only; omega)
           dsimp only
           rw [mZ_s _ hk0, ← hI]
           omega)
    · refine x_aload_n dX9_greatestLevel_24 rfl ?_
      refine x_iload_n dX9_greatestLevel_25 rfl ?_
      refine x_iconst dX9_greatestLevel_26 ?_
      refine p_V dX9_greatestLevel_27 lX9_77 (c_X9_at sz hM0 (x := k) (v := 1) (by omega)) hM.1 rfl rfl rfl rfl (by decide) ?_
      rw [qe1q]
      refine x_goto dX9_greatestLevel_30 ?_
      refine x_istore_n dX9_greatestLevel_34 rfl rfl rfl ?_
      refine x_iinc dX9_greatestLevel_35 rfl rfl rfl ?_
      refine x_goto dX9_greatestLevel_38 ?_
      first
        | (refine ihq (k + 1, (pv pl k.toNat : Int)) ⟨by dsimp only; omega, by dsimp only; omega, ?_, by dsimp only; omega, by dsimp only; omega⟩ (by dsimp only; omega)
           dsimp only
           rw [mZ_s _ hk0, ← hI]
           omega)
        | (refine ihq (k + 1, c) ⟨by dsimp only; omega, by dsimp only; omega, ?_, by dsimp only; omega, by dsimp only; omega⟩ (by dsimp only; omega)
           dsimp only
           rw [mZ_s _ hk0, ← hI]
           omega)
