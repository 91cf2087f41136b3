theorem pPar_at {pl : List PE} (hB : PlB pl) (hLv : LvP pl) {z : Nat} (hz : z < pl.length) : (pv pl z = 1 ∧ pPar pl z = -1) ∨ ∃ j, j < z ∧ pPar pl z = j ∧ pv pl j + 1 = pv pl z ∧ ∀ m, j < m → m < z → pv pl z ≤ pv pl m := by
  have hg : gV pl z = pv pl z := by
    unfold gV
    rw [if_pos (by omega), Int.toNat_natCast]
  unfold pPar pAt bZ
  rw [hg]
  have hs := bB_spec (fun k => decide ((pv pl k : Int) = (pv pl z : Int) - 1)) ((z : Int) + 1).toNat
  rcases hLv z hz with h1 | ⟨j, h1, h2, h3⟩
  · refine Or.inl ⟨h1, ?_⟩
    rcases hs with ⟨q, -⟩ | ⟨k, q1, q2, q3, -⟩
    · exact q
    · have := decide_eq_true_iff.mp q3
      have := hB.2 k (by omega)
      omega
  · refine Or.inr ⟨j, h1, ?_, h2, h3⟩
    rcases hs with ⟨q, q2⟩ | ⟨k, q1, q2, q3, q4⟩
    · have := decide_eq_false_iff_not.mp (q2 j (by omega))
      omega
    · have qe1q := decide_eq_true_iff.mp q3
      by_cases q : k = j
      · rw [q1, q]
      · rcases Nat.lt_or_gt_of_ne q with q5 | q5
        · have := decide_eq_false_iff_not.mp (q4 j q5 (by omega))
          omega
        · by_cases q6 : k = z
          · rw [q6] at qe1q; omega
          · have := h3 k q5 (by omega)
            omega
theorem pPar_back {pl : List PE} (hB : PlB pl) (hLv : LvP pl) {z : Nat} (hz : z < pl.length) {k : Int} (h0 : -1 ≤ k) (h1 : k < z) (h2 : ∀ j : Nat, k < j → j < z → pv pl z ≤ pv pl j) (h3 : 0 ≤ k → pv pl k.toNat < pv pl z) : pPar pl z = k := by
  rcases pPar_at hB hLv hz with ⟨q1, q2⟩ | ⟨j, q1, q2, q3, q4⟩
  · rw [q2]
    by_cases q : 0 ≤ k
    · have := h3 q
      have := hB.2 k.toNat (by omega)
      omega
    · omega
  · rw [q2]
    by_cases q : 0 ≤ k
    · have q5 := h3 q
      by_cases q6 : (j : Int) = k
      · exact q6
      · by_cases q7 : (j : Int) < k
        · have := q4 k.toNat (by omega) (by omega)
          omega
        · have := h2 j (by omega) q1
          omega
    · have := h2 j (by omega) q1
      omega

theorem c_X9_around (sz : Nat) {h : AH} {m : Nat} {w : Nat → Nat → Int} {u : Nat → Int} (hM : MoW h m w u) {pl : List PE} (hR : RmP (w 0) pl) (hB : PlB pl) (hLv : LvP pl) {z : Int} (h0 : 0 ≤ z) (h1 : z < pl.length) : CC mX9_around 1 0 0 [.ref m, .int (zI z)] sz h (QR (pPar pl z) h) := by
  refine CC.intro [some (.ref m), some (.int (zI z)), none] pfX9_around rfl rfl ?_
  have hM0 := hM
  unfold MoW at hM
  have hL := hB.1
  have hw1 : w 0 (Int.toNat 1) = (pl.length : Int) := hR.1
  have hz := hR.at h0 h1
  have hzB := hB.2 z.toNat (by omega)
  refine x_iload_n dX9_around_0 rfl ?_
  refine x_iconst dX9_around_1 ?_
  refine x_isub dX9_around_2 ?_
  refine x_istore_n dX9_around_3 rfl rfl rfl ?_
  refine x_loop (fun _ => h) (fun k : Int => [some (.ref m), some (.int (zI z)), some (.int (zI k))]) (fun k => -1 ≤ k ∧ k < z ∧ ∀ j : Nat, k < j → (j : Int) < z → pv pl z.toNat ≤ pv pl j) (fun k => (k + 1).toNat) (z - 1) rfl rfl ⟨by omega, by omega, fun j j1 j2 => by omega⟩ ?_
  rintro k ⟨hk0, hk1, hI⟩ ihq
  have hpre : 0 ≤ k → w 0 (2134 + 3 * k + 1).toNat = pv pl k.toNat ∧ pv pl k.toNat ≤ 40 := fun q => ⟨(hR.at q (by omega)).2.1, (hB.2 k.toNat (by omega)).2.2.2.1⟩
  refine x_iload_n dX9_around_4 rfl ?_
  refine x_if_lt dX9_around_5 ⟨by omega, by omega⟩ (fun qc5q => ?_) (fun qc5q => ?_)
  · refine x_iload_n dX9_around_29 rfl ?_
    refine x_ireturn dX9_around_30 rfl ?_
    refine ⟨?_, rfl⟩
    have qe9q := pPar_back hB hLv (z := z.toNat) (by omega) hk0 (by omega) (fun j j1 j2 => hI j j1 (by omega)) (fun q => by omega)
    rw [show ((z.toNat : Nat) : Int) = z by omega] at qe9q
    rw [qe9q]
  · obtain ⟨qe1q, qe2q⟩ := hpre (by omega)
    refine x_aload_n dX9_around_8 rfl ?_
    refine x_iload_n dX9_around_9 rfl ?_
    refine x_iconst dX9_around_10 ?_
    refine p_V dX9_around_11 lX9_77 (c_X9_at sz hM0 (x := k) (v := 1) (by omega)) hM.1 rfl rfl rfl rfl (by decide) ?_
    rw [qe1q]
    refine x_aload_n dX9_around_14 rfl ?_
    refine x_iload_n dX9_around_15 rfl ?_
    refine x_iconst dX9_around_16 ?_
    refine p_V dX9_around_17 lX9_77 (c_X9_at sz hM0 (x := z) (v := 1) (by omega)) hM.1 rfl rfl rfl rfl (by decide) ?_
    rw [hz.2.1]
    refine x_icmp_lt dX9_around_20 ⟨by omega, by omega⟩ ⟨by omega, by omega⟩ (fun qc20q => ?_) (fun qc20q => ?_)
    · refine x_iload_n dX9_around_29 rfl ?_
      refine x_ireturn dX9_around_30 rfl ?_
      refine ⟨?_, rfl⟩
      have qe9q := pPar_back hB hLv (z := z.toNat) (by omega) hk0 (by omega) (fun j j1 j2 => hI j j1 (by omega)) (fun q => by omega)
      rw [show ((z.toNat : Nat) : Int) = z by omega] at qe9q
      rw [qe9q]
    · refine x_iinc dX9_around_23 rfl rfl rfl ?_
      refine x_goto dX9_around_26 ?_
      refine ihq (k + -1) ⟨by omega, by omega, fun j j1 j2 => ?_⟩ (by omega)
      by_cases q : (j : Int) = k
      · rw [show j = k.toNat by omega]
        omega
      · exact hI j (by omega) j2
theorem c_X9_parent (sz : Nat) {h : AH} {m : Nat} {w : Nat → Nat → Int} {u : Nat → Int} (hM : MoW h m w u) {pl : List PE} (hR : RmP (w 0) pl) (hB : PlB pl) (hLv : LvP pl) {z : Int} (h0 : 0 ≤ z) (h1 : z < pl.length) : CC mX9_parent 2 0 0 [.ref m, .int (zI z)] sz h (QR (gN pl (pPar pl z)) h) := by
  refine CC.intro [some (.ref m), some (.int (zI z)), none] pfX9_parent rfl rfl ?_
  have hM0 := hM
  unfold MoW at hM
  have hL := hB.1
  have hw1 : w 0 (Int.toNat 1) = (pl.length : Int) := hR.1
  have hpp : -1 ≤ pPar pl z ∧ pPar pl z ≤ z := pAt_r _ _ _ (by omega)
  refine x_aload_n dX9_parent_0 rfl ?_
  refine x_iload_n dX9_parent_1 rfl ?_
  refine p_V dX9_parent_2 lX9_84 (c_X9_around sz hM0 hR hB hLv h0 h1) hM.1 rfl rfl rfl rfl (by decide) ?_
  refine x_istore_n dX9_parent_5 rfl rfl rfl ?_
  refine x_iload_n dX9_parent_6 rfl ?_
  refine x_if_ge dX9_parent_7 ⟨by omega, by omega⟩ (fun qc7q => ?_) (fun qc7q => ?_)
  · refine x_aload_n dX9_parent_14 rfl ?_
    refine x_iload_n dX9_parent_15 rfl ?_
    refine x_iconst dX9_parent_16 ?_
    refine p_V dX9_parent_17 lX9_77 (c_X9_at sz hM0 (x := pPar pl z) (v := 0) (by omega)) hM.1 rfl rfl rfl rfl (by decide) ?_
    rw [(hR.at (show 0 ≤ pPar pl z by omega) (by omega)).1]
    refine x_ireturn dX9_parent_20 rfl ?_
    refine ⟨?_, rfl⟩
    unfold gN
    first | (rw [if_pos (by omega)]; done) | (rw [if_neg (by omega)]; done)
  · refine x_iconst dX9_parent_10 ?_
    refine x_goto dX9_parent_11 ?_
    refine x_ireturn dX9_parent_20 rfl ?_
    refine ⟨?_, rfl⟩
    unfold gN
    first | (rw [if_pos (by omega)]; done) | (rw [if_neg (by omega)]; done)
def noM (pl : List PE) (r : Int) : Int := if plR pl r = -2 then -6 else gN pl (plR pl r)
theorem c_X9_nodeOf (sz : Nat) {h : AH} {m : Nat} {w : Nat → Nat → Int} {u : Nat → Int} (hM : MoW h m w u) {pl : List PE} (hR : RmP (w 0) pl) (hB : PlB pl) {r : Int} (hr : inR r) : CC mX9_nodeOf 3 0 0 [.ref m, .int (zI r)] sz h (QR (noM pl r) h) := by
  refine CC.intro [some (.ref m), some (.int (zI r)), none] pfX9_nodeOf rfl rfl ?_
  have hM0 := hM
  unfold MoW at hM
  have hL := hB.1
  have hw1 : w 0 (Int.toNat 1) = (pl.length : Int) := hR.1
  have hz := plZ_r pl r
  have hpm : plM pl r = -6 ∧ plZ pl r = -2 ∨ plM pl r = plZ pl r ∧ 0 ≤ plZ pl r := by
    unfold plM
    split
    · exact Or.inl ⟨rfl, by assumption⟩
    · exact Or.inr ⟨rfl, by omega⟩
  refine x_iload_n dX9_nodeOf_0 rfl ?_
  refine x_iconst dX9_nodeOf_1 ?_
  refine x_icmp_ne dX9_nodeOf_2 ⟨by omega, by omega⟩ ⟨by omega, by omega⟩ (fun qc2q => ?_) (fun qc2q => ?_)
  · refine x_aload_n dX9_nodeOf_7 rfl ?_
    refine x_iload_n dX9_nodeOf_8 rfl ?_
    refine p_V dX9_nodeOf_9 lX9_88 (c_X9_placeOf sz hM0 hR hB hr) hM.1 rfl rfl rfl rfl (by decide) ?_
    refine x_istore_n dX9_nodeOf_12 rfl rfl rfl ?_
    refine x_iload_n dX9_nodeOf_13 rfl ?_
    refine x_bipush dX9_nodeOf_14 (by decide) ?_
    refine x_icmp_ne dX9_nodeOf_16 ⟨by omega, by omega⟩ ⟨by omega, by omega⟩ (fun qc16q => ?_) (fun qc16q => ?_)
    · refine x_aload_n dX9_nodeOf_24 rfl ?_
      refine x_iload_n dX9_nodeOf_25 rfl ?_
      refine x_iconst dX9_nodeOf_26 ?_
      refine p_V dX9_nodeOf_27 lX9_77 (c_X9_at sz hM0 (x := plM pl r) (v := 0) (by omega)) hM.1 rfl rfl rfl rfl (by decide) ?_
      have qe3q : plM pl r = plZ pl r := by omega
      rw [qe3q, (hR.at (show 0 ≤ plZ pl r by omega) (by omega)).1, (gV_p (show 0 ≤ plZ pl r by omega)).2.1]
      refine x_ireturn dX9_nodeOf_30 rfl ?_
      refine ⟨?_, rfl⟩
      unfold noM plR
      rw [if_neg (show ¬ r = -1 by omega)]
      first | (rw [if_pos (by omega)]; done) | (rw [if_neg (by omega)]; done)
    · refine x_bipush dX9_nodeOf_19 (by decide) ?_
      refine x_goto dX9_nodeOf_21 ?_
      refine x_ireturn dX9_nodeOf_30 rfl ?_
      refine ⟨?_, rfl⟩
      unfold noM plR
      rw [if_neg (show ¬ r = -1 by omega)]
      first | (rw [if_pos (by omega)]; done) | (rw [if_neg (by omega)]; done)
  · refine x_iconst dX9_nodeOf_5 ?_
    refine x_ireturn dX9_nodeOf_6 rfl ?_
    refine ⟨?_, rfl⟩
    unfold noM plR
    rw [if_pos (show r = -1 by omega)]
    rfl
/-- the row now, of the children -/
def RmK (r : Nat → Int) (d : Nat) (K : Nat → List Nat) : Prop := ∀ x, x ≤ d → r (2 + 52 * x + 11) = (K x).length ∧ ∀ j, j < (K x).length → r (2 + 52 * x + (12 + j)) = (K x).getD j 0
def KB (d : Nat) (K : Nat → List Nat) : Prop := d ≤ 40 ∧ ∀ x, x ≤ d → (K x).length ≤ 40 ∧ ∀ c ∈ K x, 1 ≤ c ∧ c ≤ d
theorem RmK.at {r : Nat → Int} {d : Nat} {K : Nat → List Nat} (h : RmK r d K) {x : Int} (h0 : 0 ≤ x) (h1 : x ≤ d) : r (2 + 52 * x + 11).toNat = (K x.toNat).length := by
  rw [show (2 + 52 * x + 11).toNat = 2 + 52 * x.toNat + 11 by omega]
  exact (h x.toNat (by omega)).1
theorem RmK.kid {r : Nat → Int} {d : Nat} {K : Nat → List Nat} (h : RmK r d K) (hB : KB d K) {x j : Int} (h0 : 0 ≤ x) (h1 : x ≤ d) (h2 : 0 ≤ j) (h3 : j < (K x.toNat).length) : r (2 + 52 * x + (12 + j)).toNat = (K x.toNat).getD j.toNat 0 ∧ (K x.toNat).getD j.toNat 0 ≤ d ∧ 1 ≤ (K x.toNat).getD j.toNat 0 ∧ (K x.toNat).getD j.toNat 0 ∈ K x.toNat := by
  have hm : (K x.toNat).getD j.toNat 0 ∈ K x.toNat := by
    rw [List.getD_eq_getElem?_getD, List.getElem?_eq_getElem (by omega)]
    exact List.getElem_mem _
  have h4 := (hB.2 x.toNat (by omega)).2 _ hm
  rw [show (2 + 52 * x + (12 + j)).toNat = 2 + 52 * x.toNat + (12 + j.toNat) by omega]
  exact ⟨(h x.toNat (by omega)).2 _ (by omega), h4.2, h4.1, hm⟩
def poM (l : List Nat) (y : Nat) : Int := if lfi l y < 0 then -6 else lfi l y
theorem take_nx {l : List Nat} {i : Int} (h0 : 0 ≤ i) (h : i < l.length) : l.take (i + 1).toNat = l.take i.toNat ++ [l.getD i.toNat 0] := by
  rw [show (i + 1).toNat = i.toNat + 1 by omega, List.take_add_one, List.getD_eq_getElem?_getD, List.getElem?_eq_getElem (by omega)]
  rfl
theorem get_split {l : List Nat} {i : Nat} (h : i < l.length) : l = l.take i ++ l.getD i 0 :: l.drop (i + 1) := by
  have h1 := lfi_split h
  rw [List.getD_eq_getElem?_getD, List.getElem?_eq_getElem h]
  exact h1

theorem c_X9_position (sz : Nat) {h : AH} {m : Nat} {w : Nat → Nat → Int} {u : Nat → Int} (hM : MoW h m w u) {d : Nat} {K : Nat → List Nat} (hK : RmK (w 0) d K) (hKB : KB d K) {x y : Nat} (hx : x ≤ d) (hy : y ≤ 40) : CC mX9_position 2 0 0 [.ref m, .int (zI x), .int (zI y)] sz h (QR (poM (K x) y) h) := by
  refine CC.intro [some (.ref m), some (.int (zI x)), some (.int (zI y)), none] pfX9_position rfl rfl ?_
  have hM0 := hM
  unfold MoW at hM
  have hd := hKB.1
  have hl := (hKB.2 x hx).1
  have hkl := hK.at (x := (x : Int)) (by omega) (by omega)
  rw [Int.toNat_natCast] at hkl
  refine x_iconst dX9_position_0 ?_
  refine x_istore_n dX9_position_1 rfl rfl rfl ?_
  refine x_loop (fun _ => h) (fun i : Int => [some (.ref m), some (.int (zI x)), some (.int (zI y)), some (.int (zI i))]) (fun i => 0 ≤ i ∧ i ≤ (K x).length ∧ y ∉ (K x).take i.toNat) (fun i => ((K x).length - i).toNat) 0 rfl rfl ⟨by omega, by omega, by simp⟩ ?_
  rintro i ⟨hi0, hi1, hI⟩ ihq
  have hpre : i < (K x).length → w 0 (2 + 52 * (x : Int) + (12 + i)).toNat = (K x).getD i.toNat 0 ∧ (K x).getD i.toNat 0 ≤ d := fun q => by
    have q1 := hK.kid hKB (x := (x : Int)) (j := i) (by omega) (by omega) hi0 (by rw [Int.toNat_natCast]; exact q)
    rw [Int.toNat_natCast] at q1
    exact ⟨q1.1, q1.2.1⟩
  refine x_iload_n dX9_position_2 rfl ?_
  refine x_aload_n dX9_position_3 rfl ?_
  refine x_iload_n dX9_position_4 rfl ?_
  refine x_bipush dX9_position_5 (by decide) ?_
  refine p_V dX9_position_7 lX9_64 (c_X9_of sz hM0 (x := (x : Int)) (v := 11) (by omega)) hM.1 rfl rfl rfl rfl (by decide) ?_
  rw [hkl]
  refine x_icmp_ge dX9_position_10 ⟨by omega, by omega⟩ ⟨by omega, by omega⟩ (fun qc10q => ?_) (fun qc10q => ?_)
  · refine x_bipush dX9_position_31 (by decide) ?_
    refine x_ireturn dX9_position_33 rfl ?_
    refine ⟨?_, rfl⟩
    rw [List.take_of_length_le (by omega)] at hI
    unfold poM
    rw [lfi_no _ _ hI]
    rfl
  · obtain ⟨qe1q, qe2q⟩ := hpre (by omega)
    refine x_aload_n dX9_position_13 rfl ?_
    refine x_iload_n dX9_position_14 rfl ?_
    refine x_iload_n dX9_position_15 rfl ?_
    refine p_V dX9_position_16 lX9_71 (c_X9_kid sz hM0 (x := (x : Int)) (v := i) (by omega)) hM.1 rfl rfl rfl rfl (by decide) ?_
    rw [qe1q]
    refine x_iload_n dX9_position_19 rfl ?_
    refine x_icmp_ne dX9_position_20 ⟨by omega, by omega⟩ ⟨by omega, by omega⟩ (fun qc20q => ?_) (fun qc20q => ?_)
    · refine x_iinc dX9_position_25 rfl rfl rfl ?_
      refine x_goto dX9_position_28 ?_
      refine ihq (i + 1) ⟨by omega, by omega, fun q => ?_⟩ (by omega)
      rw [take_nx hi0 (by omega)] at q
      rcases List.mem_append.mp q with q | q
      · exact hI q
      · have := List.mem_singleton.mp q
        omega
    · refine x_iload_n dX9_position_23 rfl ?_
      refine x_ireturn dX9_position_24 rfl ?_
      refine ⟨?_, rfl⟩
      have qe3q : (K x).getD i.toNat 0 = y := by omega
      have qe4q := get_split (l := K x) (i := i.toNat) (by omega)
      rw [qe3q] at qe4q
      have qe5q : lfi (K x) y = i := by
        rw [qe4q, lfi_at _ _ _ hI, List.length_take]
        omega
      unfold poM
      rw [qe5q, if_neg (by omega)]
theorem c_X9_placesOf (sz : Nat) {h : AH} {m : Nat} {w : Nat → Nat → Int} {u : Nat → Int} (hM : MoW h m w u) {pl : List PE} (hR : RmP (w 0) pl) (hB : PlB pl) {y : Int} (hy : inR y) : CC mX9_placesOf 1 0 0 [.ref m, .int (zI y)] sz h (QR (pCnt pl y) h) := by
  refine CC.intro [some (.ref m), some (.int (zI y)), none, none] pfX9_placesOf rfl rfl ?_
  have hM0 := hM
  unfold MoW at hM
  have hL := hB.1
  have hw1 : w 0 (Int.toNat 1) = (pl.length : Int) := hR.1
  refine x_iconst dX9_placesOf_0 ?_
  refine x_istore_n dX9_placesOf_1 rfl rfl rfl ?_
  refine x_iconst dX9_placesOf_2 ?_
  refine x_istore_n dX9_placesOf_3 rfl rfl rfl ?_
  refine x_loop (fun _ => h) (fun s : Int × Int => [some (.ref m), some (.int (zI y)), some (.int (zI s.2)), some (.int (zI s.1))]) (fun s => 0 ≤ s.1 ∧ s.1 ≤ pl.length ∧ s.2 = cZ (fun k => decide ((pn pl k : Int) = y)) s.1) (fun s => (pl.length - s.1).toNat) (0, 0) rfl rfl ⟨by dsimp only; omega, by dsimp only; omega, rfl⟩ ?_
  rintro ⟨k, c⟩ ⟨hk0, hk1, hI⟩ ihq
  try dsimp only at *
  have hpre : k < pl.length → w 0 (2134 + 3 * k + 0).toNat = pn pl k.toNat ∧ pn pl k.toNat ≤ 40 := fun q => ⟨(hR.at hk0 q).1, (hB.2 k.toNat (by omega)).2.1⟩
  refine x_iload_n dX9_placesOf_4 rfl ?_
  refine x_aload_n dX9_placesOf_5 rfl ?_
  refine s_get dX9_placesOf_6 fX9_7 hM rfl ?_
  refine x_iconst dX9_placesOf_9 ?_
  refine s_iald dX9_placesOf_10 hM rfl rfl ⟨by omega, by omega⟩ ?_
  refine x_icmp_ge dX9_placesOf_11 ⟨by omega, by omega⟩ ⟨by rw [hw1]; omega, by rw [hw1]; omega⟩ (fun qc11q => ?_) (fun qc11q => ?_)
  · refine x_iload_n dX9_placesOf_38 rfl ?_
    refine x_ireturn dX9_placesOf_39 rfl ?_
    exact ⟨by rw [hI, show k = pl.length by omega]; rfl, rfl⟩
  · obtain ⟨qe1q, qe2q⟩ := hpre (by omega)
    refine x_iload_n dX9_placesOf_14 rfl ?_
    refine x_aload_n dX9_placesOf_15 rfl ?_
    refine x_iload_n dX9_placesOf_16 rfl ?_
    refine x_iconst dX9_placesOf_17 ?_
    refine p_V dX9_placesOf_18 lX9_77 (c_X9_at sz hM0 (x := k) (v := 0) (by omega)) hM.1 rfl rfl rfl rfl (by decide) ?_
    rw [qe1q]
    refine x_iload_n dX9_placesOf_21 rfl ?_
    refine x_icmp_ne dX9_placesOf_22 ⟨by omega, by omega⟩ ⟨by omega, by omega⟩ (fun qc22q => ?_) (fun qc22q => ?_)
    · refine x_iconst dX9_placesOf_29 ?_
      refine x_iadd dX9_placesOf_30 ?_
      refine x_istore_n dX9_placesOf_31 rfl rfl rfl ?_
      refine x_iinc dX9_placesOf_32 rfl rfl rfl ?_
      refine x_goto dX9_placesOf_35 ?_
      first
        | (refine ihq (k + 1, c + 1) ⟨by dsimp only; omega, by dsimp only; omega, ?_⟩ (by dsimp only; omega)
           dsimp only
           rw [cZ_t hk0 (decide_eq_true (by omega)), hI]
           done)
        | (refine ihq (k + 1, c + 0) ⟨by dsimp only; omega, by dsimp only; omega, ?_⟩ (by dsimp only; omega)
           dsimp only
           rw [cZ_f hk0 (decide_eq_false (by omega)), hI, Int.add_zero])
    · refine x_iconst dX9_placesOf_25 ?_
      refine x_goto dX9_placesOf_26 ?_
      refine x_iadd dX9_placesOf_30 ?_
      refine x_istore_n dX9_placesOf_31 rfl rfl rfl ?_
      refine x_iinc dX9_placesOf_32 rfl rfl rfl ?_
      refine x_goto dX9_placesOf_35 ?_
      first
        | (refine ihq (k + 1, c + 1) ⟨by dsimp only; omega, by dsimp only; omega, ?_⟩ (by dsimp only; omega)
           dsimp only
           rw [cZ_t hk0 (decide_eq_true (by omega)), hI]
           done)
        | (refine ihq (k + 1, c + 0) ⟨by dsimp only; omega, by dsimp only; omega, ?_⟩ (by dsimp only; omega)
           dsimp only
           rw [cZ_f hk0 (decide_eq_false (by omega)), hI, Int.add_zero])
/-- the row now, of texts and marks -/
def RmT (r : Nat → Int) (d : Nat) (tx : Nat → List Int) (mk : Nat → Nat) : Prop := ∀ x, 1 ≤ x → x ≤ d → r (2 + 52 * x + 1) = (tx x).length ∧ (∀ j, j < (tx x).length → r (2 + 52 * x + (2 + j)) = (tx x).getD j 0) ∧ r (2 + 52 * x + 10) = mk x
/-- the typed text -/
def TxR (w : Nat → Nat → Int) (u : Nat → Int) (t : List Int) : Prop := u 2 = t.length ∧ ∀ i, i < t.length → w 10 i = t.getD i 0
theorem ls_eq : ∀ {a b : List Int}, a.length = b.length → (∀ j, j < a.length → a.getD j 0 = b.getD j 0) → a = b
  | [], [], _, _ => rfl
  | [], _ :: _, h, _ => by simp at h
  | _ :: _, [], h, _ => by simp at h
  | x :: a, y :: b, h, g => by
    have h1 := g 0 (by simp)
    have h2 : a = b := ls_eq (by simpa using h) (fun j hj => by
      have := g (j + 1) (by simp; omega)
      exact this)
    have h3 : x = y := h1
    rw [h2, h3]

theorem c_X9_hasText (sz : Nat) {h : AH} {m : Nat} {w : Nat → Nat → Int} {u : Nat → Int} (hM : MoW h m w u) {d : Nat} {tx : Nat → List Int} {mk : Nat → Nat} {t : List Int} (hX : RmT (w 0) d tx mk) (hN : NoB d tx mk) (hT : TxR w u t) (hTB : TyB t) {x : Nat} (h0 : 1 ≤ x) (h1 : x ≤ d) : CC mX9_hasText 1 0 0 [.ref m, .int (zI x)] sz h (QB (tx x = t) h) := by
  refine CC.intro [some (.ref m), some (.int (zI x)), none] pfX9_hasText rfl rfl ?_
  have hM0 := hM
  unfold MoW at hM
  have hd := hN.1
  have hNx := hN.2 x h0 h1
  have hXx := hX x h0 h1
  have hTl := hTB.1
  have hTu := hT.1
  have hk : w 0 (2 + 52 * (x : Int) + 1).toNat = (tx x).length := by
    rw [show (2 + 52 * (x : Int) + 1).toNat = 2 + 52 * x + 1 by omega]
    exact hXx.1
  refine x_aload_n dX9_hasText_0 rfl ?_
  refine x_iload_n dX9_hasText_1 rfl ?_
  refine x_iconst dX9_hasText_2 ?_
  refine p_V dX9_hasText_3 lX9_64 (c_X9_of sz hM0 (x := (x : Int)) (v := 1) (by omega)) hM.1 rfl rfl rfl rfl (by decide) ?_
  rw [hk]
  refine x_aload_n dX9_hasText_6 rfl ?_
  refine s_get dX9_hasText_7 fX9_95 hM rfl ?_
  refine x_icmp_eq dX9_hasText_10 ⟨by omega, by omega⟩ ⟨by omega, by omega⟩ (fun qc10q => ?_) (fun qc10q => ?_)
  · refine x_iconst dX9_hasText_15 ?_
    refine x_istore_n dX9_hasText_16 rfl rfl rfl ?_
    refine x_loop (fun _ => h) (fun i : Int => [some (.ref m), some (.int (zI x)), some (.int (zI i))]) (fun i => 0 ≤ i ∧ i ≤ t.length ∧ ∀ j : Nat, (j : Int) < i → (tx x).getD j 0 = t.getD j 0) (fun i => (t.length - i).toNat) 0 rfl rfl ⟨by omega, by omega, fun j hj => by omega⟩ ?_
    rintro i ⟨hi0, hi1, hI⟩ ihq
    have hpre : i < t.length → w 0 (2 + 52 * (x : Int) + (2 + i)).toNat = (tx x).getD i.toNat 0 ∧ w 10 i.toNat = t.getD i.toNat 0 ∧ 0 ≤ (tx x).getD i.toNat 0 ∧ (tx x).getD i.toNat 0 < 65536 ∧ 0 ≤ t.getD i.toNat 0 ∧ t.getD i.toNat 0 < 65536 := fun q => by
      have q1 := hXx.2.1 i.toNat (by omega)
      rw [show 2 + 52 * x + (2 + i.toNat) = (2 + 52 * (x : Int) + (2 + i)).toNat by omega] at q1
      have q2 : (tx x).getD i.toNat 0 ∈ tx x := by
        rw [List.getD_eq_getElem?_getD, List.getElem?_eq_getElem (by omega)]
        exact List.getElem_mem _
      have q3 := hNx.2.1 _ q2
      have q4 := hTB.at i.toNat
      exact ⟨q1, hT.2 _ (by omega), q3.1, q3.2, q4.1, q4.2⟩
    refine x_iload_n dX9_hasText_17 rfl ?_
    refine x_aload_n dX9_hasText_18 rfl ?_
    refine s_get dX9_hasText_19 fX9_95 hM rfl ?_
    refine x_icmp_ge dX9_hasText_22 ⟨by omega, by omega⟩ ⟨by omega, by omega⟩ (fun qc22q => ?_) (fun qc22q => ?_)
    · refine x_iconst dX9_hasText_50 ?_
      refine x_zreturn dX9_hasText_51 rfl (by decide) ?_
      refine ⟨?_, rfl⟩
      rw [if_pos (ls_eq (by omega) (fun j hj => hI j (by omega)))]
    · obtain ⟨qe1q, qe2q, qe3q, qe4q, qe5q, qe6q⟩ := hpre (by omega)
      refine x_aload_n dX9_hasText_25 rfl ?_
      refine x_iload_n dX9_hasText_26 rfl ?_
      refine x_iconst dX9_hasText_27 ?_
      refine x_iload_n dX9_hasText_28 rfl ?_
      refine x_iadd dX9_hasText_29 ?_
      refine p_V dX9_hasText_30 lX9_64 (c_X9_of sz hM0 (x := (x : Int)) (v := 2 + i) (by omega)) hM.1 rfl rfl rfl rfl (by decide) ?_
      rw [qe1q]
      refine x_aload_n dX9_hasText_33 rfl ?_
      refine s_get dX9_hasText_34 fX9_41 hM rfl ?_
      refine x_iload_n dX9_hasText_37 rfl ?_
      refine s_cald dX9_hasText_38 hM rfl rfl ⟨by omega, by omega⟩ ?_
      rw [qe2q]
      refine x_icmp_eq dX9_hasText_39 ⟨by omega, by omega⟩ ⟨by omega, by omega⟩ (fun qc39q => ?_) (fun qc39q => ?_)
      · refine x_iinc dX9_hasText_44 rfl rfl rfl ?_
        refine x_goto dX9_hasText_47 ?_
        refine ihq (i + 1) ⟨by omega, by omega, fun j hj => ?_⟩ (by omega)
        by_cases q : j = i.toNat
        · rw [q]
          omega
        · exact hI j (by omega)
      · refine x_iconst dX9_hasText_42 ?_
        refine x_zreturn dX9_hasText_43 rfl (by decide) ?_
        refine ⟨?_, rfl⟩
        rw [if_neg]
        intro q
        rw [q] at qc39q
        omega
  · refine x_iconst dX9_hasText_13 ?_
    refine x_zreturn dX9_hasText_14 rfl (by decide) ?_
    refine ⟨?_, rfl⟩
    rw [if_neg]
    intro q
    rw [q] at qc10q
    omega
theorem pChl_hit {pl : List PE} {z x k : Int} (h0 : -1 ≤ z) (h1 : z < k) (h2 : k < pl.length) (h3 : ∀ j : Nat, z < j → (j : Int) < k → pChQ pl (gV pl z + 1) x j = false) (h4 : gV pl k = gV pl z + 1) (h5 : gN pl k = x) : pChl pl z x = k := by
  have hs := fZ_spec (pChQ pl (gV pl z + 1) x) pl.length (i := z + 1) (by omega) (by omega)
  have hk : pChQ pl (gV pl z + 1) x k.toNat = true := by
    unfold pChQ
    rw [← (gV_p (pl := pl) (show 0 ≤ k by omega)).1] at h4
    rw [← (gV_p (pl := pl) (show 0 ≤ k by omega)).2.1] at h5
    rw [h4, h5]
    simp
  have e : fZ (pChQ pl (gV pl z + 1) x) pl.length (z + 1) = k := by
    obtain ⟨s1, s2, s3, s4⟩ := hs
    generalize fZ (pChQ pl (gV pl z + 1) x) pl.length (z + 1) = f at *
    by_cases q : f < k
    · have := h3 f.toNat (by omega) (by omega)
      rw [s4 (by omega)] at this
      cases this
    · by_cases q2 : k < f
      · have := s3 k.toNat (by omega) (by omega)
        rw [hk] at this
        cases this
      · omega
  unfold pChl
  rw [if_neg (by omega), e, if_pos ⟨h2, h4⟩]
theorem pChl_miss {pl : List PE} {z x k : Int} (h0 : -1 ≤ z) (h1 : z < k) (h2 : k ≤ pl.length) (h3 : ∀ j : Nat, z < j → (j : Int) < k → pChQ pl (gV pl z + 1) x j = false) (h4 : k < pl.length → gV pl k < gV pl z + 1) : pChl pl z x = -2 := by
  have hs := fZ_spec (pChQ pl (gV pl z + 1) x) pl.length (i := z + 1) (by omega) (by omega)
  unfold pChl
  rw [if_neg (by omega)]
  split
  · rename_i q
    obtain ⟨s1, s2, s3, s4⟩ := hs
    generalize fZ (pChQ pl (gV pl z + 1) x) pl.length (z + 1) = f at *
    exfalso
    by_cases q1 : f < k
    · have := h3 f.toNat (by omega) (by omega)
      rw [s4 q.1] at this
      cases this
    · have hk : pChQ pl (gV pl z + 1) x k.toNat = true := by
        have h5 := h4 (by omega)
        rw [← (gV_p (pl := pl) (show 0 ≤ k by omega)).1] at h5
        unfold pChQ
        rw [decide_eq_true h5, Bool.true_or]
      by_cases q2 : k < f
      · have := s3 k.toNat (by omega) (by omega)
        rw [hk] at this
        cases this
      · have e : f = k := by omega
        rw [e] at q
        have := h4 q.1
        omega
  · rfl
def chM (pl : List PE) (z x : Int) : Int := if pChl pl z x = -2 then -6 else pChl pl z x

theorem c_X9_spareChild (sz : Nat) {h : AH} {m : Nat} {w : Nat → Nat → Int} {u : Nat → Int} (hM : MoW h m w u) {bef : List PE} (hR : RmP (w 3) bef) (hB : PlB bef) {z y : Int} (h0 : -1 ≤ z) (h1 : z < bef.length) (hy : inR y) : CC mX9_spareChild 1 0 0 [.ref m, .int (zI z), .int (zI y)] sz h (QR (chM bef z y) h) := by
  refine CC.intro [some (.ref m), some (.int (zI z)), some (.int (zI y)), none, none] pfX9_spareChild rfl rfl ?_
  have hM0 := hM
  unfold MoW at hM
  have hL := hB.1
  have hw1 : w 3 (Int.toNat 1) = (bef.length : Int) := hR.1
  have hgz := gV_r hB z
  have K : XM mX9_spareChild 1 0 0 (QR (chM bef z y) h) 0 0 sz h 14 [some (.ref m), some (.int (zI z)), some (.int (zI y)), none, none] [.int (zI (gV bef z))] := by
    refine x_istore_n dX9_spareChild_14 rfl rfl rfl ?_
    refine x_iload_n dX9_spareChild_15 rfl ?_
    refine x_iconst dX9_spareChild_16 ?_
    refine x_iadd dX9_spareChild_17 ?_
    refine x_istore dX9_spareChild_18 rfl rfl rfl ?_
    refine x_loop (fun _ => h) (fun k : Int => [some (.ref m), some (.int (zI z)), some (.int (zI y)), some (.int (zI (gV bef z))), some (.int (zI k))]) (fun k => z < k ∧ k ≤ bef.length ∧ ∀ j : Nat, z < j → (j : Int) < k → pChQ bef (gV bef z + 1) y j = false) (fun k => (bef.length - k).toNat) (z + 1) rfl rfl ⟨by omega, by omega, fun j j1 j2 => by omega⟩ ?_
    rintro k ⟨hk0, hk1, hI⟩ ihq
    have hpre : k < bef.length → w 3 (2134 + 3 * k + 1).toNat = gV bef k ∧ w 3 (2134 + 3 * k + 0).toNat = gN bef k ∧ 1 ≤ gV bef k ∧ gV bef k ≤ 40 ∧ 1 ≤ gN bef k ∧ gN bef k ≤ 40 := fun q => by
      have q1 := hR.at (z := k) (by omega) q
      have q2 := hB.2 k.toNat (by omega)
      have q3 := gV_p (pl := bef) (show 0 ≤ k by omega)
      rw [q1.2.1, q1.1]
      omega
    have hqk : 0 ≤ k → pChQ bef (gV bef z + 1) y k.toNat = (decide (gV bef k < gV bef z + 1) || (decide (gV bef k = gV bef z + 1) && decide (gN bef k = y))) := fun q => by
      unfold pChQ
      rw [(gV_p (pl := bef) q).1, (gV_p (pl := bef) q).2.1]
    refine x_iload dX9_spareChild_20 rfl ?_
    refine x_aload_n dX9_spareChild_22 rfl ?_
    refine s_get dX9_spareChild_23 fX9_19 hM rfl ?_
    refine x_iconst dX9_spareChild_26 ?_
    refine s_iald dX9_spareChild_27 hM rfl rfl ⟨by omega, by omega⟩ ?_
    refine x_icmp_ge dX9_spareChild_28 ⟨by omega, by omega⟩ ⟨by rw [hw1]; omega, by rw [hw1]; omega⟩ (fun qc28q => ?_) (fun qc28q => ?_)
    · refine x_bipush dX9_spareChild_75 (by decide) ?_
      refine x_ireturn dX9_spareChild_77 rfl ?_
      refine ⟨?_, rfl⟩
      unfold chM
      rw [pChl_miss h0 hk0 hk1 hI (fun q => by have := (hpre q).1; omega), if_pos rfl]
    · obtain ⟨qe1q, qe2q, qe3q, qe4q, qe5q, qe6q⟩ := hpre (by omega)
      refine x_aload_n dX9_spareChild_31 rfl ?_
      refine x_iload dX9_spareChild_32 rfl ?_
      refine x_iconst dX9_spareChild_34 ?_
      refine p_V dX9_spareChild_35 lX9_68 (c_X9_spareAt sz hM0 (x := k) (v := 1) (by omega)) hM.1 rfl rfl rfl rfl (by decide) ?_
      rw [qe1q]
      refine x_iload_n dX9_spareChild_38 rfl ?_
      refine x_icmp_le dX9_spareChild_39 ⟨by omega, by omega⟩ ⟨by omega, by omega⟩ (fun qc39q => ?_) (fun qc39q => ?_)
      · refine x_bipush dX9_spareChild_75 (by decide) ?_
        refine x_ireturn dX9_spareChild_77 rfl ?_
        refine ⟨?_, rfl⟩
        unfold chM
        rw [pChl_miss h0 hk0 hk1 hI (fun q => by have := (hpre q).1; omega), if_pos rfl]
      · refine x_aload_n dX9_spareChild_42 rfl ?_
        refine x_iload dX9_spareChild_43 rfl ?_
        refine x_iconst dX9_spareChild_45 ?_
        refine p_V dX9_spareChild_46 lX9_68 (c_X9_spareAt sz hM0 (x := k) (v := 1) (by omega)) hM.1 rfl rfl rfl rfl (by decide) ?_
        rw [qe1q]
        refine x_iload_n dX9_spareChild_49 rfl ?_
        refine x_iconst dX9_spareChild_50 ?_
        refine x_iadd dX9_spareChild_51 ?_
        refine x_icmp_ne dX9_spareChild_52 ⟨by omega, by omega⟩ ⟨by omega, by omega⟩ (fun qc52q => ?_) (fun qc52q => ?_)
        · refine x_iinc dX9_spareChild_69 rfl rfl rfl ?_
          refine x_goto dX9_spareChild_72 ?_
          refine ihq (k + 1) ⟨by omega, by omega, fun j j1 j2 => ?_⟩ (by omega)
          by_cases q : (j : Int) = k
          · rw [show j = k.toNat by omega, hqk (by omega)]
            simp
            omega
          · exact hI j j1 (by omega)
        · refine x_aload_n dX9_spareChild_55 rfl ?_
          refine x_iload dX9_spareChild_56 rfl ?_
          refine x_iconst dX9_spareChild_58 ?_
          refine p_V dX9_spareChild_59 lX9_68 (c_X9_spareAt sz hM0 (x := k) (v := 0) (by omega)) hM.1 rfl rfl rfl rfl (by decide) ?_
          rw [qe2q]
          refine x_iload_n dX9_spareChild_62 rfl ?_
          refine x_icmp_ne dX9_spareChild_63 ⟨by omega, by omega⟩ ⟨by omega, by omega⟩ (fun qc63q => ?_) (fun qc63q => ?_)
          · refine x_iinc dX9_spareChild_69 rfl rfl rfl ?_
            refine x_goto dX9_spareChild_72 ?_
            refine ihq (k + 1) ⟨by omega, by omega, fun j j1 j2 => ?_⟩ (by omega)
            by_cases q : (j : Int) = k
            · rw [show j = k.toNat by omega, hqk (by omega)]
              simp
              omega
            · exact hI j j1 (by omega)
          · refine x_iload dX9_spareChild_66 rfl ?_
            refine x_ireturn dX9_spareChild_68 rfl ?_
            refine ⟨?_, rfl⟩
            unfold chM
            rw [pChl_hit h0 hk0 (by omega) hI (by omega) (by omega), if_neg (by omega)]
  refine x_iload_n dX9_spareChild_0 rfl ?_
  refine x_if_ge dX9_spareChild_1 ⟨by omega, by omega⟩ (fun qc1q => ?_) (fun qc1q => ?_)
  · refine x_aload_n dX9_spareChild_8 rfl ?_
    refine x_iload_n dX9_spareChild_9 rfl ?_
    refine x_iconst dX9_spareChild_10 ?_
    refine p_V dX9_spareChild_11 lX9_68 (c_X9_spareAt sz hM0 (x := z) (v := 1) (by omega)) hM.1 rfl rfl rfl rfl (by decide) ?_
    rw [(hR.at (z := z) (by omega) h1).2.1, (gV_p (pl := bef) (show 0 ≤ z by omega)).1]
    exact K
  · have qe0q : gV bef z = 0 := by
      unfold gV
      rw [if_neg (by omega)]
    rw [qe0q] at K
    refine x_iconst dX9_spareChild_4 ?_
    refine x_goto dX9_spareChild_5 ?_
    exact K
