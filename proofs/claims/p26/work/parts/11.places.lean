abbrev PE : Type := Nat × Nat × Nat
def pn (pl : List PE) (i : Nat) : Nat := (pl.getD i (0, 0, 0)).1
def pv (pl : List PE) (i : Nat) : Nat := (pl.getD i (0, 0, 0)).2.1
def pf (pl : List PE) (i : Nat) : Nat := (pl.getD i (0, 0, 0)).2.2
def PlB (pl : List PE) : Prop := pl.length ≤ 120 ∧ ∀ i, i < pl.length → 1 ≤ pn pl i ∧ pn pl i ≤ 40 ∧ 1 ≤ pv pl i ∧ pv pl i ≤ 40 ∧ pf pl i ≤ 1
def PlH (pl : List PE) (n l f : Nat → Int) : Prop := ∀ i, i < pl.length → n i = pn pl i ∧ l i = pv pl i ∧ f i = pf pl i
abbrev plF (p : Nat) (s : Int) : List Value := [.ref (p + 1 + 0), .ref (p + 1 + 1), .ref (p + 1 + 2), .int (zI s)]
abbrev plA (n l f : Nat → Int) : List (Nat × Nat × (Nat → Int)) := [(0, 120, n), (0, 120, l), (0, 120, f)]
/-- the places pl at p -/
def PlR (h : AH) (p : Nat) (pl : List PE) : Prop := ∃ n l f, SO h h p 4 3 (plF p pl.length) (plA n l f) ∧ PlB pl ∧ PlH pl n l f
theorem pn_out {pl : List PE} {i : Nat} (h : pl.length ≤ i) : pn pl i = 0 := by
  unfold pn
  rw [List.getD_eq_getElem?_getD, List.getElem?_eq_none h]
  rfl
theorem pv_out {pl : List PE} {i : Nat} (h : pl.length ≤ i) : pv pl i = 0 := by
  unfold pv
  rw [List.getD_eq_getElem?_getD, List.getElem?_eq_none h]
  rfl
theorem pf_out {pl : List PE} {i : Nat} (h : pl.length ≤ i) : pf pl i = 0 := by
  unfold pf
  rw [List.getD_eq_getElem?_getD, List.getElem?_eq_none h]
  rfl
def gN (pl : List PE) (z : Int) : Int := if 0 ≤ z then (pn pl z.toNat : Int) else 0
def gV (pl : List PE) (z : Int) : Int := if 0 ≤ z then (pv pl z.toNat : Int) else 0
def gF (pl : List PE) (z : Int) : Int := if 0 ≤ z then (pf pl z.toNat : Int) else 0
theorem gN_r {pl : List PE} (h : PlB pl) (z : Int) : 0 ≤ gN pl z ∧ gN pl z ≤ 40 := by
  unfold gN
  split
  · by_cases hl : z.toNat < pl.length
    · have := h.2 _ hl
      omega
    · rw [pn_out (by omega)]
      omega
  · omega
theorem gV_r {pl : List PE} (h : PlB pl) (z : Int) : 0 ≤ gV pl z ∧ gV pl z ≤ 40 := by
  unfold gV
  split
  · by_cases hl : z.toNat < pl.length
    · have := h.2 _ hl
      omega
    · rw [pv_out (by omega)]
      omega
  · omega
theorem gF_r {pl : List PE} (h : PlB pl) (z : Int) : 0 ≤ gF pl z ∧ gF pl z ≤ 1 := by
  unfold gF
  split
  · by_cases hl : z.toNat < pl.length
    · have := h.2 _ hl
      omega
    · rw [pf_out (by omega)]
      omega
  · omega
def pEnd (pl : List PE) (lev : Int) (i : Int) : Int := fZ (fun k => decide ((pv pl k : Int) ≤ lev)) pl.length i

theorem c_X3_isThere (sz : Nat) {h : AH} {p : Nat} {pl : List PE} (hPl : PlR h p pl) {z : Int} (hz : inR z) : CC mX3_isThere 0 0 0 [.ref p, .int (zI z)] sz h (QB (0 ≤ z ∧ z < pl.length) h) := by
  refine CC.intro [some (.ref p), some (.int (zI z))] pfX3_isThere rfl rfl ?_
  obtain ⟨n, l, f, hP, hB, hH⟩ := hPl
  have hL := hB.1
  refine x_iload_n dX3_isThere_0 rfl ?_
  refine x_if_lt dX3_isThere_1 ⟨by omega, by omega⟩ (fun c1 => ?_) (fun c1 => ?_)
  · refine x_iconst dX3_isThere_22 ?_
    refine x_zreturn dX3_isThere_23 rfl (by omega) ?_
    refine ⟨?_, rfl⟩
    first | (exfalso; omega) | (rw [if_pos (by omega)]; done) | (rw [if_neg (by omega)]; done)
  · refine x_iload_n dX3_isThere_4 rfl ?_
    refine x_aload_n dX3_isThere_5 rfl ?_
    refine s_get dX3_isThere_6 fX3_21 hP rfl ?_
    refine x_icmp_ge dX3_isThere_9 ⟨by omega, by omega⟩ ⟨by omega, by omega⟩ (fun c9 => ?_) (fun c9 => ?_)
    · refine x_iconst dX3_isThere_22 ?_
      refine x_zreturn dX3_isThere_23 rfl (by omega) ?_
      refine ⟨?_, rfl⟩
      first | (exfalso; omega) | (rw [if_pos (by omega)]; done) | (rw [if_neg (by omega)]; done)
    · refine x_iload_n dX3_isThere_12 rfl ?_
      refine x_bipush dX3_isThere_13 (by decide) ?_
      refine x_icmp_ge dX3_isThere_15 ⟨by omega, by omega⟩ ⟨by omega, by omega⟩ (fun c15 => ?_) (fun c15 => ?_)
      · refine x_iconst dX3_isThere_22 ?_
        refine x_zreturn dX3_isThere_23 rfl (by omega) ?_
        refine ⟨?_, rfl⟩
        first | (exfalso; omega) | (rw [if_pos (by omega)]; done) | (rw [if_neg (by omega)]; done)
      · refine x_iconst dX3_isThere_18 ?_
        refine x_goto dX3_isThere_19 ?_
        refine x_zreturn dX3_isThere_23 rfl (by omega) ?_
        refine ⟨?_, rfl⟩
        first | (exfalso; omega) | (rw [if_pos (by omega)]; done) | (rw [if_neg (by omega)]; done)
theorem c_X3_isThere_ (sz : Nat) {h : AH} {p : Nat} {pl : List PE} (hPl : PlR h p pl) {z : Int} (hz : inR z) : CC mX3_isThere 0 0 0 [.ref p, .int (zI z)] sz h (QR (if (0 ≤ z ∧ z < pl.length) then 1 else 0) h) := c_X3_isThere sz hPl hz
theorem c_X3_nodeOf (sz : Nat) {h : AH} {p : Nat} {pl : List PE} (hPl : PlR h p pl) {z : Int} (hz : inR z) : CC mX3_nodeOf 1 0 0 [.ref p, .int (zI z)] sz h (QR (gN pl z) h) := by
  refine CC.intro [some (.ref p), some (.int (zI z))] pfX3_nodeOf rfl rfl ?_
  have hPl0 := hPl
  obtain ⟨n, l, f, hP, hB, hH⟩ := hPl
  have hL := hB.1
  refine x_aload_n dX3_nodeOf_0 rfl ?_
  refine x_iload_n dX3_nodeOf_1 rfl ?_
  refine p_V dX3_nodeOf_2 lX3_35 (c_X3_isThere sz hPl0 hz) hP.1 rfl rfl rfl rfl (by decide) ?_
  refine x_ifB_eq dX3_nodeOf_5 (fun c5 => ?_) (fun c5 => ?_)
  · refine x_iconst dX3_nodeOf_17 ?_
    refine x_ireturn dX3_nodeOf_18 rfl ?_
    refine ⟨?_, rfl⟩
    first | (rw [show gN pl z = n z.toNat by unfold gN; rw [if_pos (by omega), ((hH z.toNat (by omega)).1)]]; done) | (rw [show gN pl z = 0 by unfold gN; by_cases q : 0 ≤ z; (rw [if_pos q, pn_out (by omega)]; rfl); (rw [if_neg q])]; done)
  · refine x_aload_n dX3_nodeOf_8 rfl ?_
    refine s_get dX3_nodeOf_9 fX3_9 hP rfl ?_
    refine x_iload_n dX3_nodeOf_12 rfl ?_
    refine s_iald dX3_nodeOf_13 hP rfl rfl ⟨by omega, by omega⟩ ?_
    refine x_goto dX3_nodeOf_14 ?_
    refine x_ireturn dX3_nodeOf_18 rfl ?_
    refine ⟨?_, rfl⟩
    first | (rw [show gN pl z = n z.toNat by unfold gN; rw [if_pos (by omega), ((hH z.toNat (by omega)).1)]]; done) | (rw [show gN pl z = 0 by unfold gN; by_cases q : 0 ≤ z; (rw [if_pos q, pn_out (by omega)]; rfl); (rw [if_neg q])]; done)
theorem c_X3_levelOf (sz : Nat) {h : AH} {p : Nat} {pl : List PE} (hPl : PlR h p pl) {z : Int} (hz : inR z) : CC mX3_levelOf 1 0 0 [.ref p, .int (zI z)] sz h (QR (gV pl z) h) := by
  refine CC.intro [some (.ref p), some (.int (zI z))] pfX3_levelOf rfl rfl ?_
  have hPl0 := hPl
  obtain ⟨n, l, f, hP, hB, hH⟩ := hPl
  have hL := hB.1
  refine x_aload_n dX3_levelOf_0 rfl ?_
  refine x_iload_n dX3_levelOf_1 rfl ?_
  refine p_V dX3_levelOf_2 lX3_35 (c_X3_isThere sz hPl0 hz) hP.1 rfl rfl rfl rfl (by decide) ?_
  refine x_ifB_eq dX3_levelOf_5 (fun c5 => ?_) (fun c5 => ?_)
  · refine x_iconst dX3_levelOf_17 ?_
    refine x_ireturn dX3_levelOf_18 rfl ?_
    refine ⟨?_, rfl⟩
    first | (rw [show gV pl z = l z.toNat by unfold gV; rw [if_pos (by omega), ((hH z.toNat (by omega)).2.1)]]; done) | (rw [show gV pl z = 0 by unfold gV; by_cases q : 0 ≤ z; (rw [if_pos q, pv_out (by omega)]; rfl); (rw [if_neg q])]; done)
  · refine x_aload_n dX3_levelOf_8 rfl ?_
    refine s_get dX3_levelOf_9 fX3_15 hP rfl ?_
    refine x_iload_n dX3_levelOf_12 rfl ?_
    refine s_iald dX3_levelOf_13 hP rfl rfl ⟨by omega, by omega⟩ ?_
    refine x_goto dX3_levelOf_14 ?_
    refine x_ireturn dX3_levelOf_18 rfl ?_
    refine ⟨?_, rfl⟩
    first | (rw [show gV pl z = l z.toNat by unfold gV; rw [if_pos (by omega), ((hH z.toNat (by omega)).2.1)]]; done) | (rw [show gV pl z = 0 by unfold gV; by_cases q : 0 ≤ z; (rw [if_pos q, pv_out (by omega)]; rfl); (rw [if_neg q])]; done)
theorem c_X3_foldOf (sz : Nat) {h : AH} {p : Nat} {pl : List PE} (hPl : PlR h p pl) {z : Int} (hz : inR z) : CC mX3_foldOf 1 0 0 [.ref p, .int (zI z)] sz h (QR (gF pl z) h) := by
  refine CC.intro [some (.ref p), some (.int (zI z))] pfX3_foldOf rfl rfl ?_
  have hPl0 := hPl
  obtain ⟨n, l, f, hP, hB, hH⟩ := hPl
  have hL := hB.1
  refine x_aload_n dX3_foldOf_0 rfl ?_
  refine x_iload_n dX3_foldOf_1 rfl ?_
  refine p_V dX3_foldOf_2 lX3_35 (c_X3_isThere sz hPl0 hz) hP.1 rfl rfl rfl rfl (by decide) ?_
  refine x_ifB_eq dX3_foldOf_5 (fun c5 => ?_) (fun c5 => ?_)
  · refine x_iconst dX3_foldOf_17 ?_
    refine x_ireturn dX3_foldOf_18 rfl ?_
    refine ⟨?_, rfl⟩
    first | (rw [show gF pl z = f z.toNat by unfold gF; rw [if_pos (by omega), ((hH z.toNat (by omega)).2.2)]]; done) | (rw [show gF pl z = 0 by unfold gF; by_cases q : 0 ≤ z; (rw [if_pos q, pf_out (by omega)]; rfl); (rw [if_neg q])]; done)
  · refine x_aload_n dX3_foldOf_8 rfl ?_
    refine s_get dX3_foldOf_9 fX3_18 hP rfl ?_
    refine x_iload_n dX3_foldOf_12 rfl ?_
    refine s_iald dX3_foldOf_13 hP rfl rfl ⟨by omega, by omega⟩ ?_
    refine x_goto dX3_foldOf_14 ?_
    refine x_ireturn dX3_foldOf_18 rfl ?_
    refine ⟨?_, rfl⟩
    first | (rw [show gF pl z = f z.toNat by unfold gF; rw [if_pos (by omega), ((hH z.toNat (by omega)).2.2)]]; done) | (rw [show gF pl z = 0 by unfold gF; by_cases q : 0 ≤ z; (rw [if_pos q, pf_out (by omega)]; rfl); (rw [if_neg q])]; done)
theorem gV_in {pl : List PE} {n l f : Nat → Int} (hH : PlH pl n l f) {i : Int} (h0 : 0 ≤ i) (h1 : i < pl.length) : l i.toNat = gV pl i ∧ n i.toNat = gN pl i ∧ f i.toNat = gF pl i := by
  obtain ⟨a, b, c⟩ := hH i.toNat (by omega)
  unfold gV gN gF
  rw [if_pos h0, if_pos h0, if_pos h0]
  exact ⟨b, a, c⟩
theorem gV_p {pl : List PE} {i : Int} (h0 : 0 ≤ i) : (pv pl i.toNat : Int) = gV pl i ∧ (pn pl i.toNat : Int) = gN pl i ∧ (pf pl i.toNat : Int) = gF pl i := by
  unfold gV gN gF
  rw [if_pos h0, if_pos h0, if_pos h0]
  exact ⟨rfl, rfl, rfl⟩
theorem c_X3_endOf (sz : Nat) {h : AH} {p : Nat} {pl : List PE} (hPl : PlR h p pl) {z : Int} (h0 : -1 ≤ z) (h1 : z < pl.length) : CC mX3_endOf 2 0 0 [.ref p, .int (zI z)] sz h (QR (pEnd pl (gV pl z) (z + 1)) h) := by
  refine CC.intro [some (.ref p), some (.int (zI z)), none, none] pfX3_endOf rfl rfl ?_
  have hPl0 := hPl
  obtain ⟨n, l, f, hP, hB, hH⟩ := hPl
  have hL := hB.1
  have hg := gV_r hB z
  refine x_aload_n dX3_endOf_0 rfl ?_
  refine x_iload_n dX3_endOf_1 rfl ?_
  refine p_V dX3_endOf_2 lX3_31 (c_X3_levelOf sz hPl0 (z := z) ⟨by omega, by omega⟩) hP.1 rfl rfl rfl rfl (by decide) ?_
  refine x_istore_n dX3_endOf_5 rfl rfl rfl ?_
  refine x_iload_n dX3_endOf_6 rfl ?_
  refine x_iconst dX3_endOf_7 ?_
  refine x_iadd dX3_endOf_8 ?_
  refine x_iconst dX3_endOf_9 ?_
  refine p_S dX3_endOf_10 lX3_39 (c_J9_max_7cf53 sz h (a := z + 1) (b := 0) ⟨by omega, by omega⟩ ⟨by omega, by omega⟩) rfl rfl rfl (by decide) ?_
  rw [show max (z + 1) 0 = z + 1 by omega]
  refine x_istore_n dX3_endOf_13 rfl rfl rfl ?_
  refine x_loop (fun _ => h) (fun i : Int => [some (.ref p), some (.int (zI z)), some (.int (zI (gV pl z))), some (.int (zI i))]) (fun i => 0 ≤ i ∧ i ≤ pl.length ∧ pEnd pl (gV pl z) (z + 1) = pEnd pl (gV pl z) i) (fun i => (pl.length - i).toNat) (z + 1) rfl rfl ⟨by omega, by omega, rfl⟩ ?_
  rintro i ⟨hi0, hi1, hI⟩ ih
  try dsimp only at *
  refine x_iload_n dX3_endOf_14 rfl ?_
  refine x_aload_n dX3_endOf_15 rfl ?_
  refine s_get dX3_endOf_16 fX3_21 hP rfl ?_
  refine x_icmp_ge dX3_endOf_19 ⟨by omega, by omega⟩ ⟨by omega, by omega⟩ (fun c19 => ?_) (fun c19 => ?_)
  · refine x_aload_n dX3_endOf_40 rfl ?_
    refine s_get dX3_endOf_41 fX3_21 hP rfl ?_
    refine x_ireturn dX3_endOf_44 rfl ?_
    exact ⟨by rw [hI]; unfold pEnd; rw [fZ_end hi0 (by omega)]; congr 3; omega, rfl⟩
  · refine x_aload_n dX3_endOf_22 rfl ?_
    refine s_get dX3_endOf_23 fX3_15 hP rfl ?_
    refine x_iload_n dX3_endOf_26 rfl ?_
    refine s_iald dX3_endOf_27 hP rfl rfl ⟨by omega, by omega⟩ ?_
    refine x_iload_n dX3_endOf_28 rfl ?_
    have e1 := (gV_in hH hi0 (by omega)).1
    have e2 := gV_r hB i
    refine x_icmp_gt dX3_endOf_29 ⟨by omega, by omega⟩ ⟨by omega, by omega⟩ (fun c29 => ?_) (fun c29 => ?_)
    · refine x_iinc dX3_endOf_34 rfl rfl rfl ?_
      refine x_goto dX3_endOf_37 ?_
      refine ih (i + 1) ⟨by omega, by omega, ?_⟩ (by omega)
      rw [hI]
      exact fZ_skip hi0 (by omega) (by simp [(gV_p (pl := pl) hi0).1]; omega)
    · refine x_iload_n dX3_endOf_32 rfl ?_
      refine x_ireturn dX3_endOf_33 rfl ?_
      exact ⟨by rw [hI]; unfold pEnd; rw [fZ_hit hi0 (by omega) (by simp [(gV_p (pl := pl) hi0).1]; omega)], rfl⟩
theorem c_X3_hasChildren (sz : Nat) {h : AH} {p : Nat} {pl : List PE} (hPl : PlR h p pl) {z : Int} (h0 : -1 ≤ z) (h1 : z < pl.length) : CC mX3_hasChildren 2 0 0 [.ref p, .int (zI z)] sz h (QB (gV pl z < gV pl (z + 1)) h) := by
  refine CC.intro [some (.ref p), some (.int (zI z))] pfX3_hasChildren rfl rfl ?_
  have hPl0 := hPl
  obtain ⟨n, l, f, hP, hB, hH⟩ := hPl
  have hL := hB.1
  have hg := gV_r hB z
  have hg2 := gV_r hB (z + 1)
  refine x_aload_n dX3_hasChildren_0 rfl ?_
  refine x_iload_n dX3_hasChildren_1 rfl ?_
  refine x_iconst dX3_hasChildren_2 ?_
  refine x_iadd dX3_hasChildren_3 ?_
  refine p_V dX3_hasChildren_4 lX3_31 (c_X3_levelOf sz hPl0 (z := z + 1) ⟨by omega, by omega⟩) hP.1 rfl rfl rfl rfl (by decide) ?_
  refine x_aload_n dX3_hasChildren_7 rfl ?_
  refine x_iload_n dX3_hasChildren_8 rfl ?_
  refine p_V dX3_hasChildren_9 lX3_31 (c_X3_levelOf sz hPl0 (z := z) ⟨by omega, by omega⟩) hP.1 rfl rfl rfl rfl (by decide) ?_
  refine x_icmp_le dX3_hasChildren_12 ⟨by omega, by omega⟩ ⟨by omega, by omega⟩ (fun c12 => ?_) (fun c12 => ?_)
  · refine x_iconst dX3_hasChildren_19 ?_
    refine x_zreturn dX3_hasChildren_20 rfl (by omega) ?_
    refine ⟨?_, rfl⟩
    first | (exfalso; omega) | (rw [if_pos (by omega)]; done) | (rw [if_neg (by omega)]; done)
  · refine x_iconst dX3_hasChildren_15 ?_
    refine x_goto dX3_hasChildren_16 ?_
    refine x_zreturn dX3_hasChildren_20 rfl (by omega) ?_
    refine ⟨?_, rfl⟩
    first | (exfalso; omega) | (rw [if_pos (by omega)]; done) | (rw [if_neg (by omega)]; done)
def pAt (pl : List PE) (z L : Int) : Int := bZ (fun k => decide ((pv pl k : Int) = L)) z
theorem c_X3_atLevel (sz : Nat) {h : AH} {p : Nat} {pl : List PE} (hPl : PlR h p pl) {z L : Int} (h0 : -1 ≤ z) (h1 : z < pl.length) (hL1 : inR L) : CC mX3_atLevel 1 0 0 [.ref p, .int (zI z), .int (zI L)] sz h (QR (pAt pl z L) h) := by
  refine CC.intro [some (.ref p), some (.int (zI z)), some (.int (zI L)), none] pfX3_atLevel rfl rfl ?_
  have hPl0 := hPl
  obtain ⟨n, l, f, hP, hB, hH⟩ := hPl
  have hL := hB.1
  refine x_iload_n dX3_atLevel_0 rfl ?_
  refine x_aload_n dX3_atLevel_1 rfl ?_
  refine s_get dX3_atLevel_2 fX3_21 hP rfl ?_
  refine x_iconst dX3_atLevel_5 ?_
  refine x_isub dX3_atLevel_6 ?_
  refine p_S dX3_atLevel_7 lX3_45 (c_J9_min_7cf53 sz h (a := z) (b := pl.length - 1) ⟨by omega, by omega⟩ ⟨by omega, by omega⟩) rfl rfl rfl (by decide) ?_
  rw [show min z (pl.length - 1 : Int) = z by omega]
  refine x_istore_n dX3_atLevel_10 rfl rfl rfl ?_
  refine x_loop (fun _ => h) (fun i : Int => [some (.ref p), some (.int (zI z)), some (.int (zI L)), some (.int (zI i))]) (fun i => -1 ≤ i ∧ i < pl.length ∧ pAt pl z L = pAt pl i L) (fun i => (i + 1).toNat) z rfl rfl ⟨by omega, by omega, rfl⟩ ?_
  rintro i ⟨hi0, hi1, hI⟩ ih
  try dsimp only at *
  refine x_iload_n dX3_atLevel_11 rfl ?_
  refine x_if_lt dX3_atLevel_12 ⟨by omega, by omega⟩ (fun c12 => ?_) (fun c12 => ?_)
  · refine x_iconst dX3_atLevel_33 ?_
    refine x_ireturn dX3_atLevel_34 rfl ?_
    exact ⟨by rw [hI]; unfold pAt; rw [bZ_end (by omega)], rfl⟩
  · refine x_aload_n dX3_atLevel_15 rfl ?_
    refine s_get dX3_atLevel_16 fX3_15 hP rfl ?_
    refine x_iload_n dX3_atLevel_19 rfl ?_
    refine s_iald dX3_atLevel_20 hP rfl rfl ⟨by omega, by omega⟩ ?_
    refine x_iload_n dX3_atLevel_21 rfl ?_
    have e1 := (gV_in hH (i := i) (by omega) (by omega)).1
    have e2 := gV_r hB i
    refine x_icmp_ne dX3_atLevel_22 ⟨by omega, by omega⟩ ⟨by omega, by omega⟩ (fun c22 => ?_) (fun c22 => ?_)
    · refine x_iinc dX3_atLevel_27 rfl rfl rfl ?_
      refine x_goto dX3_atLevel_30 ?_
      refine ih (i + -1) ⟨by omega, by omega, ?_⟩ (by omega)
      rw [hI]
      exact bZ_skip (by omega) (by simp [(gV_p (pl := pl) (i := i) (by omega)).1]; omega)
    · refine x_iload_n dX3_atLevel_25 rfl ?_
      refine x_ireturn dX3_atLevel_26 rfl ?_
      exact ⟨by rw [hI]; unfold pAt; rw [bZ_hit (by omega) (by simp [(gV_p (pl := pl) (i := i) (by omega)).1]; omega)], rfl⟩
def pPar (pl : List PE) (z : Int) : Int := pAt pl z (gV pl z - 1)
theorem c_X3_parentOf (sz : Nat) {h : AH} {p : Nat} {pl : List PE} (hPl : PlR h p pl) {z : Int} (h0 : -1 ≤ z) (h1 : z < pl.length) : CC mX3_parentOf 2 0 0 [.ref p, .int (zI z)] sz h (QR (pPar pl z) h) := by
  refine CC.intro [some (.ref p), some (.int (zI z))] pfX3_parentOf rfl rfl ?_
  have hPl0 := hPl
  obtain ⟨n, l, f, hP, hB, hH⟩ := hPl
  have hL := hB.1
  have hg := gV_r hB z
  refine x_aload_n dX3_parentOf_0 rfl ?_
  refine x_iload_n dX3_parentOf_1 rfl ?_
  refine x_aload_n dX3_parentOf_2 rfl ?_
  refine x_iload_n dX3_parentOf_3 rfl ?_
  refine p_V dX3_parentOf_4 lX3_31 (c_X3_levelOf sz hPl0 (z := z) ⟨by omega, by omega⟩) hP.1 rfl rfl rfl rfl (by decide) ?_
  refine x_iconst dX3_parentOf_7 ?_
  refine x_isub dX3_parentOf_8 ?_
  refine p_V dX3_parentOf_9 lX3_48 (c_X3_atLevel sz hPl0 (z := z) (L := gV pl z - 1) h0 h1 ⟨by omega, by omega⟩) hP.1 rfl rfl rfl rfl (by decide) ?_
  refine x_ireturn dX3_parentOf_12 rfl ?_
  exact ⟨rfl, rfl⟩
def pFst (pl : List PE) (z : Int) : Int := if fZ (fun k => decide ((pn pl k : Int) = z)) pl.length 0 < pl.length then fZ (fun k => decide ((pn pl k : Int) = z)) pl.length 0 else -2
theorem c_X3_firstOf (sz : Nat) {h : AH} {p : Nat} {pl : List PE} (hPl : PlR h p pl) {z : Int} (hz : inR z) : CC mX3_firstOf 0 0 0 [.ref p, .int (zI z)] sz h (QR (pFst pl z) h) := by
  refine CC.intro [some (.ref p), some (.int (zI z)), none] pfX3_firstOf rfl rfl ?_
  have hPl0 := hPl
  obtain ⟨n, l, f, hP, hB, hH⟩ := hPl
  have hL := hB.1
  refine x_iconst dX3_firstOf_0 ?_
  refine x_istore_n dX3_firstOf_1 rfl rfl rfl ?_
  refine x_loop (fun _ => h) (fun i : Int => [some (.ref p), some (.int (zI z)), some (.int (zI i))]) (fun i => 0 ≤ i ∧ i ≤ pl.length ∧ fZ (fun k => decide ((pn pl k : Int) = z)) pl.length 0 = fZ (fun k => decide ((pn pl k : Int) = z)) pl.length i) (fun i => (pl.length - i).toNat) 0 rfl rfl ⟨by omega, by omega, rfl⟩ ?_
  rintro i ⟨hi0, hi1, hI⟩ ih
  try dsimp only at *
  refine x_iload_n dX3_firstOf_2 rfl ?_
  refine x_aload_n dX3_firstOf_3 rfl ?_
  refine s_get dX3_firstOf_4 fX3_21 hP rfl ?_
  refine x_icmp_ge dX3_firstOf_7 ⟨by omega, by omega⟩ ⟨by omega, by omega⟩ (fun c7 => ?_) (fun c7 => ?_)
  · refine x_bipush dX3_firstOf_28 (by decide) ?_
    refine x_ireturn dX3_firstOf_30 rfl ?_
    exact ⟨by unfold pFst; rw [hI, fZ_end hi0 (by omega), if_neg (by omega)], rfl⟩
  · refine x_aload_n dX3_firstOf_10 rfl ?_
    refine s_get dX3_firstOf_11 fX3_9 hP rfl ?_
    refine x_iload_n dX3_firstOf_14 rfl ?_
    refine s_iald dX3_firstOf_15 hP rfl rfl ⟨by omega, by omega⟩ ?_
    refine x_iload_n dX3_firstOf_16 rfl ?_
    have e1 := (gV_in hH hi0 (by omega)).2.1
    have e2 := gN_r hB i
    refine x_icmp_ne dX3_firstOf_17 ⟨by omega, by omega⟩ ⟨by omega, by omega⟩ (fun c17 => ?_) (fun c17 => ?_)
    · refine x_iinc dX3_firstOf_22 rfl rfl rfl ?_
      refine x_goto dX3_firstOf_25 ?_
      refine ih (i + 1) ⟨by omega, by omega, ?_⟩ (by omega)
      rw [hI]
      exact fZ_skip hi0 (by omega) (by simp [(gV_p (pl := pl) hi0).2.1]; omega)
    · refine x_iload_n dX3_firstOf_20 rfl ?_
      refine x_ireturn dX3_firstOf_21 rfl ?_
      exact ⟨by unfold pFst; rw [hI, fZ_hit hi0 (by omega) (by simp [(gV_p (pl := pl) hi0).2.1]; omega), if_pos (by omega)], rfl⟩
def pCnt (pl : List PE) (z : Int) : Int := cZ (fun k => decide ((pn pl k : Int) = z)) pl.length
theorem c_X3_countOf (sz : Nat) {h : AH} {p : Nat} {pl : List PE} (hPl : PlR h p pl) {z : Int} (hz : inR z) : CC mX3_countOf 0 0 0 [.ref p, .int (zI z)] sz h (QR (pCnt pl z) h) := by
  refine CC.intro [some (.ref p), some (.int (zI z)), none, none] pfX3_countOf rfl rfl ?_
  have hPl0 := hPl
  obtain ⟨n, l, f, hP, hB, hH⟩ := hPl
  have hL := hB.1
  refine x_iconst dX3_countOf_0 ?_
  refine x_istore_n dX3_countOf_1 rfl rfl rfl ?_
  refine x_iconst dX3_countOf_2 ?_
  refine x_istore_n dX3_countOf_3 rfl rfl rfl ?_
  refine x_loop (fun _ => h) (fun s : Int × Int => [some (.ref p), some (.int (zI z)), some (.int (zI s.2)), some (.int (zI s.1))]) (fun s => 0 ≤ s.1 ∧ s.1 ≤ pl.length ∧ s.2 = cZ (fun k => decide ((pn pl k : Int) = z)) s.1) (fun s => (pl.length - s.1).toNat) (0, 0) rfl rfl ⟨by omega, by omega, rfl⟩ ?_
  rintro ⟨i, c⟩ ⟨hi0, hi1, hI⟩ ih
  try dsimp only at *
  have hr := cZ_r (fun k => decide ((pn pl k : Int) = z)) hi0
  refine x_iload_n dX3_countOf_4 rfl ?_
  refine x_aload_n dX3_countOf_5 rfl ?_
  refine s_get dX3_countOf_6 fX3_21 hP rfl ?_
  refine x_icmp_ge dX3_countOf_9 ⟨by omega, by omega⟩ ⟨by omega, by omega⟩ (fun c9 => ?_) (fun c9 => ?_)
  · refine x_iload_n dX3_countOf_31 rfl ?_
    refine x_ireturn dX3_countOf_32 rfl ?_
    exact ⟨by unfold pCnt; rw [hI]; congr 4; omega, rfl⟩
  · refine x_aload_n dX3_countOf_12 rfl ?_
    refine s_get dX3_countOf_13 fX3_9 hP rfl ?_
    refine x_iload_n dX3_countOf_16 rfl ?_
    refine s_iald dX3_countOf_17 hP rfl rfl ⟨by omega, by omega⟩ ?_
    refine x_iload_n dX3_countOf_18 rfl ?_
    have e1 := (gV_in hH hi0 (by omega)).2.1
    have e2 := gN_r hB i
    refine x_icmp_ne dX3_countOf_19 ⟨by omega, by omega⟩ ⟨by omega, by omega⟩ (fun c19 => ?_) (fun c19 => ?_)
    · refine x_iinc dX3_countOf_25 rfl rfl rfl ?_
      refine x_goto dX3_countOf_28 ?_
      first | (refine ih (i + 1, c + 1) ⟨by omega, by omega, ?_⟩ (by dsimp only; omega); dsimp only; rw [cZ_t hi0 (by simp [(gV_p (pl := pl) hi0).2.1]; omega), hI]) | (refine ih (i + 1, c) ⟨by omega, by omega, ?_⟩ (by dsimp only; omega); dsimp only; rw [cZ_f hi0 (by simp [(gV_p (pl := pl) hi0).2.1]; omega), hI])
    · refine x_iinc dX3_countOf_22 rfl rfl rfl ?_
      refine x_iinc dX3_countOf_25 rfl rfl rfl ?_
      refine x_goto dX3_countOf_28 ?_
      first | (refine ih (i + 1, c + 1) ⟨by omega, by omega, ?_⟩ (by dsimp only; omega); dsimp only; rw [cZ_t hi0 (by simp [(gV_p (pl := pl) hi0).2.1]; omega), hI]) | (refine ih (i + 1, c) ⟨by omega, by omega, ?_⟩ (by dsimp only; omega); dsimp only; rw [cZ_f hi0 (by simp [(gV_p (pl := pl) hi0).2.1]; omega), hI])
def pFld (pl : List PE) : Int := sZ (pf pl) pl.length
theorem c_X3_foldedCount (sz : Nat) {h : AH} {p : Nat} {pl : List PE} (hPl : PlR h p pl) : CC mX3_foldedCount 0 0 0 [.ref p] sz h (QR (pFld pl) h) := by
  refine CC.intro [some (.ref p), none, none] pfX3_foldedCount rfl rfl ?_
  have hPl0 := hPl
  obtain ⟨n, l, f, hP, hB, hH⟩ := hPl
  have hL := hB.1
  refine x_iconst dX3_foldedCount_0 ?_
  refine x_istore_n dX3_foldedCount_1 rfl rfl rfl ?_
  refine x_iconst dX3_foldedCount_2 ?_
  refine x_istore_n dX3_foldedCount_3 rfl rfl rfl ?_
  refine x_loop (fun _ => h) (fun s : Int × Int => [some (.ref p), some (.int (zI s.2)), some (.int (zI s.1))]) (fun s => 0 ≤ s.1 ∧ s.1 ≤ pl.length ∧ s.2 = sZ (pf pl) s.1) (fun s => (pl.length - s.1).toNat) (0, 0) rfl rfl ⟨by omega, by omega, rfl⟩ ?_
  rintro ⟨i, c⟩ ⟨hi0, hi1, hI⟩ ih
  try dsimp only at *
  refine x_iload_n dX3_foldedCount_4 rfl ?_
  refine x_aload_n dX3_foldedCount_5 rfl ?_
  refine s_get dX3_foldedCount_6 fX3_21 hP rfl ?_
  refine x_icmp_ge dX3_foldedCount_9 ⟨by omega, by omega⟩ ⟨by omega, by omega⟩ (fun c9 => ?_) (fun c9 => ?_)
  · refine x_iload_n dX3_foldedCount_27 rfl ?_
    refine x_ireturn dX3_foldedCount_28 rfl ?_
    exact ⟨by unfold pFld; rw [hI]; congr 4; omega, rfl⟩
  · refine x_iload_n dX3_foldedCount_12 rfl ?_
    refine x_aload_n dX3_foldedCount_13 rfl ?_
    refine s_get dX3_foldedCount_14 fX3_18 hP rfl ?_
    refine x_iload_n dX3_foldedCount_17 rfl ?_
    refine s_iald dX3_foldedCount_18 hP rfl rfl ⟨by omega, by omega⟩ ?_
    refine x_iadd dX3_foldedCount_19 ?_
    refine x_istore_n dX3_foldedCount_20 rfl rfl rfl ?_
    refine x_iinc dX3_foldedCount_21 rfl rfl rfl ?_
    refine x_goto dX3_foldedCount_24 ?_
    have e1 := (gV_in hH hi0 (by omega)).2.2
    have e3 := (gV_p (pl := pl) hi0).2.2
    refine ih (i + 1, c + f i.toNat) ⟨by omega, by omega, ?_⟩ (by dsimp only; omega)
    dsimp only
    rw [sZ_s _ hi0, hI, e1, e3]
def pTop (pl : List PE) : Int := mZ (pv pl) pl.length
theorem c_X3_greatestLevel (sz : Nat) {h : AH} {p : Nat} {pl : List PE} (hPl : PlR h p pl) : CC mX3_greatestLevel 1 0 0 [.ref p] sz h (QR (pTop pl) h) := by
  refine CC.intro [some (.ref p), none, none] pfX3_greatestLevel rfl rfl ?_
  have hPl0 := hPl
  obtain ⟨n, l, f, hP, hB, hH⟩ := hPl
  have hL := hB.1
  refine x_iconst dX3_greatestLevel_0 ?_
  refine x_istore_n dX3_greatestLevel_1 rfl rfl rfl ?_
  refine x_iconst dX3_greatestLevel_2 ?_
  refine x_istore_n dX3_greatestLevel_3 rfl rfl rfl ?_
  refine x_loop (fun _ => h) (fun s : Int × Int => [some (.ref p), some (.int (zI s.2)), some (.int (zI s.1))]) (fun s => 0 ≤ s.1 ∧ s.1 ≤ pl.length ∧ s.2 = mZ (pv pl) s.1 ∧ 0 ≤ s.2 ∧ s.2 ≤ 40) (fun s => (pl.length - s.1).toNat) (0, 0) rfl rfl ⟨by omega, by omega, rfl, by omega, by omega⟩ ?_
  rintro ⟨i, c⟩ ⟨hi0, hi1, hI, hc0, hc1⟩ ih
  try dsimp only at *
  refine x_iload_n dX3_greatestLevel_4 rfl ?_
  refine x_aload_n dX3_greatestLevel_5 rfl ?_
  refine s_get dX3_greatestLevel_6 fX3_21 hP rfl ?_
  refine x_icmp_ge dX3_greatestLevel_9 ⟨by omega, by omega⟩ ⟨by omega, by omega⟩ (fun c9 => ?_) (fun c9 => ?_)
  · refine x_iload_n dX3_greatestLevel_29 rfl ?_
    refine x_ireturn dX3_greatestLevel_30 rfl ?_
    exact ⟨by unfold pTop; rw [hI]; congr 4; omega, rfl⟩
  · refine x_iload_n dX3_greatestLevel_12 rfl ?_
    refine x_aload_n dX3_greatestLevel_13 rfl ?_
    refine s_get dX3_greatestLevel_14 fX3_15 hP rfl ?_
    refine x_iload_n dX3_greatestLevel_17 rfl ?_
    refine s_iald dX3_greatestLevel_18 hP rfl rfl ⟨by omega, by omega⟩ ?_
    have e1 := (gV_in hH hi0 (by omega)).1
    have e3 := (gV_p (pl := pl) hi0).1
    have e2 := gV_r hB i
    refine p_S dX3_greatestLevel_19 lX3_39 (c_J9_max_7cf53 sz h (a := c) (b := l i.toNat) ⟨by omega, by omega⟩ ⟨by omega, by omega⟩) rfl rfl rfl (by decide) ?_
    refine x_istore_n dX3_greatestLevel_22 rfl rfl rfl ?_
    refine x_iinc dX3_greatestLevel_23 rfl rfl rfl ?_
    refine x_goto dX3_greatestLevel_26 ?_
    refine ih (i + 1, max c (l i.toNat)) ⟨by omega, by omega, ?_, by dsimp only; omega, by dsimp only; omega⟩ (by dsimp only; omega)
    dsimp only
    rw [mZ_s _ hi0, hI, e1, e3]
def pChQ (pl : List PE) (lev x : Int) : Nat → Bool := fun k => decide ((pv pl k : Int) < lev) || (decide ((pv pl k : Int) = lev) && decide ((pn pl k : Int) = x))
/-- the place of a child in an earlier outline: z is a place, -1 the root, -2 none -/
def pChl (pl : List PE) (z x : Int) : Int := if z < -1 then -2 else if fZ (pChQ pl (gV pl z + 1) x) pl.length (z + 1) < pl.length ∧ gV pl (fZ (pChQ pl (gV pl z + 1) x) pl.length (z + 1)) = gV pl z + 1 then fZ (pChQ pl (gV pl z + 1) x) pl.length (z + 1) else -2
theorem c_X3_childPlace (sz : Nat) {h : AH} {p : Nat} {pl : List PE} (hPl : PlR h p pl) {z x : Int} (h0 : -2 ≤ z) (h1 : z < pl.length) (hx : inR x) : CC mX3_childPlace 2 0 0 [.ref p, .int (zI z), .int (zI x)] sz h (QR (pChl pl z x) h) := by
  refine CC.intro [some (.ref p), some (.int (zI z)), some (.int (zI x)), none, none] pfX3_childPlace rfl rfl ?_
  have hPl0 := hPl
  obtain ⟨n, l, f, hP, hB, hH⟩ := hPl
  have hL := hB.1
  have hg := gV_r hB z
  refine x_iload_n dX3_childPlace_0 rfl ?_
  refine x_iconst dX3_childPlace_1 ?_
  refine x_icmp_ge dX3_childPlace_2 ⟨by omega, by omega⟩ ⟨by omega, by omega⟩ (fun c2 => ?_) (fun c2 => ?_)
  · refine x_aload_n dX3_childPlace_8 rfl ?_
    refine x_iload_n dX3_childPlace_9 rfl ?_
    refine p_V dX3_childPlace_10 lX3_31 (c_X3_levelOf sz hPl0 (z := z) ⟨by omega, by omega⟩) hP.1 rfl rfl rfl rfl (by decide) ?_
    refine x_iconst dX3_childPlace_13 ?_
    refine x_iadd dX3_childPlace_14 ?_
    refine x_istore_n dX3_childPlace_15 rfl rfl rfl ?_
    refine x_iload_n dX3_childPlace_16 rfl ?_
    refine x_iconst dX3_childPlace_17 ?_
    refine x_iadd dX3_childPlace_18 ?_
    refine x_istore dX3_childPlace_19 rfl rfl rfl ?_
    refine x_loop (fun _ => h) (fun i : Int => [some (.ref p), some (.int (zI z)), some (.int (zI x)), some (.int (zI (gV pl z + 1))), some (.int (zI i))]) (fun i => 0 ≤ i ∧ i ≤ pl.length ∧ fZ (pChQ pl (gV pl z + 1) x) pl.length (z + 1) = fZ (pChQ pl (gV pl z + 1) x) pl.length i) (fun i => (pl.length - i).toNat) (z + 1) rfl rfl ⟨by omega, by omega, rfl⟩ ?_
    rintro i ⟨hi0, hi1, hI⟩ ih
    try dsimp only at *
    refine x_iload dX3_childPlace_21 rfl ?_
    refine x_aload_n dX3_childPlace_23 rfl ?_
    refine s_get dX3_childPlace_24 fX3_21 hP rfl ?_
    refine x_icmp_ge dX3_childPlace_27 ⟨by omega, by omega⟩ ⟨by omega, by omega⟩ (fun c27 => ?_) (fun c27 => ?_)
    · refine x_bipush dX3_childPlace_72 (by decide) ?_
      refine x_ireturn dX3_childPlace_74 rfl ?_
      first | exact ⟨by unfold pChl; rw [if_neg (by omega), hI, fZ_end hi0 (by omega), if_neg (by omega)], rfl⟩ | exact ⟨by unfold pChl; rw [if_neg (by omega), hI, fZ_hit hi0 (by omega) (by simp [pChQ, (gV_p (pl := pl) hi0).1, (gV_p (pl := pl) hi0).2.1]; omega), if_neg (by omega)], rfl⟩
    · refine x_aload_n dX3_childPlace_30 rfl ?_
      refine s_get dX3_childPlace_31 fX3_15 hP rfl ?_
      refine x_iload dX3_childPlace_34 rfl ?_
      refine s_iald dX3_childPlace_36 hP rfl rfl ⟨by omega, by omega⟩ ?_
      refine x_iload_n dX3_childPlace_37 rfl ?_
      have e1 := (gV_in hH hi0 (by omega)).1
      have e2 := gV_r hB i
      have e3 := (gV_in hH hi0 (by omega)).2.1
      have e4 := gN_r hB i
      refine x_icmp_lt dX3_childPlace_38 ⟨by omega, by omega⟩ ⟨by omega, by omega⟩ (fun c38 => ?_) (fun c38 => ?_)
      · refine x_bipush dX3_childPlace_72 (by decide) ?_
        refine x_ireturn dX3_childPlace_74 rfl ?_
        first | exact ⟨by unfold pChl; rw [if_neg (by omega), hI, fZ_end hi0 (by omega), if_neg (by omega)], rfl⟩ | exact ⟨by unfold pChl; rw [if_neg (by omega), hI, fZ_hit hi0 (by omega) (by simp [pChQ, (gV_p (pl := pl) hi0).1, (gV_p (pl := pl) hi0).2.1]; omega), if_neg (by omega)], rfl⟩
      · refine x_aload_n dX3_childPlace_41 rfl ?_
        refine s_get dX3_childPlace_42 fX3_15 hP rfl ?_
        refine x_iload dX3_childPlace_45 rfl ?_
        refine s_iald dX3_childPlace_47 hP rfl rfl ⟨by omega, by omega⟩ ?_
        refine x_iload_n dX3_childPlace_48 rfl ?_
        refine x_icmp_ne dX3_childPlace_49 ⟨by omega, by omega⟩ ⟨by omega, by omega⟩ (fun c49 => ?_) (fun c49 => ?_)
        · refine x_iinc dX3_childPlace_66 rfl rfl rfl ?_
          refine x_goto dX3_childPlace_69 ?_
          refine ih (i + 1) ⟨by omega, by omega, ?_⟩ (by omega)
          rw [hI]
          exact fZ_skip hi0 (by omega) (by simp [pChQ, (gV_p (pl := pl) hi0).1, (gV_p (pl := pl) hi0).2.1]; omega)
        · refine x_aload_n dX3_childPlace_52 rfl ?_
          refine s_get dX3_childPlace_53 fX3_9 hP rfl ?_
          refine x_iload dX3_childPlace_56 rfl ?_
          refine s_iald dX3_childPlace_58 hP rfl rfl ⟨by omega, by omega⟩ ?_
          refine x_iload_n dX3_childPlace_59 rfl ?_
          refine x_icmp_ne dX3_childPlace_60 ⟨by omega, by omega⟩ ⟨by omega, by omega⟩ (fun c60 => ?_) (fun c60 => ?_)
          · refine x_iinc dX3_childPlace_66 rfl rfl rfl ?_
            refine x_goto dX3_childPlace_69 ?_
            refine ih (i + 1) ⟨by omega, by omega, ?_⟩ (by omega)
            rw [hI]
            exact fZ_skip hi0 (by omega) (by simp [pChQ, (gV_p (pl := pl) hi0).1, (gV_p (pl := pl) hi0).2.1]; omega)
          · refine x_iload dX3_childPlace_63 rfl ?_
            refine x_ireturn dX3_childPlace_65 rfl ?_
            exact ⟨by unfold pChl; rw [if_neg (by omega), hI, fZ_hit hi0 (by omega) (by simp [pChQ, (gV_p (pl := pl) hi0).1, (gV_p (pl := pl) hi0).2.1]; omega), if_pos ⟨by omega, by omega⟩], rfl⟩
  · refine x_bipush dX3_childPlace_5 (by decide) ?_
    refine x_ireturn dX3_childPlace_7 rfl ?_
    exact ⟨by unfold pChl; rw [if_pos (by omega)], rfl⟩
