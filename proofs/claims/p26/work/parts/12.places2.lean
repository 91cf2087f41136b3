def pSet (pl : List PE) (k f : Nat) : List PE := pl.set k (pn pl k, pv pl k, f)
theorem pSet_len (pl : List PE) (k f : Nat) : (pSet pl k f).length = pl.length := List.length_set
theorem pSet_n (pl : List PE) (k f i : Nat) : pn (pSet pl k f) i = pn pl i := by
  unfold pSet pn
  by_cases h : k = i
  · subst h
    by_cases hl : k < pl.length
    · rw [List.getD_eq_getElem?_getD, List.getElem?_set_self hl]
      rfl
    · rw [List.set_eq_of_length_le (by omega)]
  · rw [List.getD_eq_getElem?_getD, List.getElem?_set_ne h, ← List.getD_eq_getElem?_getD]
theorem pSet_v (pl : List PE) (k f i : Nat) : pv (pSet pl k f) i = pv pl i := by
  unfold pSet pv
  by_cases h : k = i
  · subst h
    by_cases hl : k < pl.length
    · rw [List.getD_eq_getElem?_getD, List.getElem?_set_self hl]
      rfl
    · rw [List.set_eq_of_length_le (by omega)]
  · rw [List.getD_eq_getElem?_getD, List.getElem?_set_ne h, ← List.getD_eq_getElem?_getD]
theorem pSet_f (pl : List PE) (k f i : Nat) (hk : k < pl.length) : pf (pSet pl k f) i = if i = k then f else pf pl i := by
  unfold pSet pf
  by_cases h : k = i
  · subst h
    rw [List.getD_eq_getElem?_getD, List.getElem?_set_self hk, if_pos rfl]
    rfl
  · rw [List.getD_eq_getElem?_getD, List.getElem?_set_ne h, ← List.getD_eq_getElem?_getD, if_neg (Ne.symm h)]
theorem PlB.set {pl : List PE} (h : PlB pl) {k f : Nat} (hk : k < pl.length) (hf : f ≤ 1) : PlB (pSet pl k f) := by
  refine ⟨by rw [pSet_len]; exact h.1, fun i hi => ?_⟩
  rw [pSet_len] at hi
  rw [pSet_n, pSet_v, pSet_f pl k f i hk]
  have := h.2 i hi
  split <;> omega
theorem PlH.set {pl : List PE} {n l fo : Nat → Int} (h : PlH pl n l fo) {k f : Nat} (hk : k < pl.length) : PlH (pSet pl k f) n l (zU fo k f) := by
  intro i hi
  rw [pSet_len] at hi
  obtain ⟨a, b, c⟩ := h i hi
  refine ⟨by rw [pSet_n]; exact a, by rw [pSet_v]; exact b, ?_⟩
  rw [pSet_f pl k f i hk]
  by_cases e : i = k
  · rw [if_pos e, e, zU_s]
  · rw [if_neg e, zU_n e]
    exact c
theorem pg_app_lt {pl t : List PE} {i : Nat} (h : i < pl.length) : pn (pl ++ t) i = pn pl i ∧ pv (pl ++ t) i = pv pl i ∧ pf (pl ++ t) i = pf pl i := by
  unfold pn pv pf
  rw [List.getD_eq_getElem?_getD, List.getElem?_append_left h, ← List.getD_eq_getElem?_getD]
  exact ⟨rfl, rfl, rfl⟩
theorem pg_app_eq {pl : List PE} {a b c : Nat} : pn (pl ++ [(a, b, c)]) pl.length = a ∧ pv (pl ++ [(a, b, c)]) pl.length = b ∧ pf (pl ++ [(a, b, c)]) pl.length = c := by
  unfold pn pv pf
  rw [List.getD_eq_getElem?_getD, List.getElem?_append_right (Nat.le_refl _), Nat.sub_self]
  exact ⟨rfl, rfl, rfl⟩
theorem PlB.app {pl : List PE} (h : PlB pl) {a b c : Nat} (hl : pl.length < 120) (ha : 1 ≤ a ∧ a ≤ 40) (hb : 1 ≤ b ∧ b ≤ 40) (hc : c ≤ 1) : PlB (pl ++ [(a, b, c)]) := by
  refine ⟨by rw [List.length_append]; simp; omega, fun i hi => ?_⟩
  rw [List.length_append] at hi
  simp at hi
  by_cases e : i = pl.length
  · subst e
    obtain ⟨x, y, z⟩ := pg_app_eq (pl := pl) (a := a) (b := b) (c := c)
    rw [x, y, z]
    exact ⟨ha.1, ha.2, hb.1, hb.2, hc⟩
  · obtain ⟨x, y, z⟩ := pg_app_lt (pl := pl) (t := [(a, b, c)]) (i := i) (by omega)
    rw [x, y, z]
    exact h.2 i (by omega)
theorem PlH.app {pl : List PE} {n l f : Nat → Int} (h : PlH pl n l f) {a b c : Nat} : PlH (pl ++ [(a, b, c)]) (zU n pl.length a) (zU l pl.length b) (zU f pl.length c) := by
  intro i hi
  rw [List.length_append] at hi
  simp at hi
  by_cases e : i = pl.length
  · subst e
    obtain ⟨x, y, z⟩ := pg_app_eq (pl := pl) (a := a) (b := b) (c := c)
    rw [x, y, z, zU_s, zU_s, zU_s]
    exact ⟨rfl, rfl, rfl⟩
  · obtain ⟨x, y, z⟩ := pg_app_lt (pl := pl) (t := [(a, b, c)]) (i := i) (by omega)
    rw [x, y, z, zU_n e, zU_n e, zU_n e]
    exact h i (by omega)

theorem c_X3_setFold (sz : Nat) {h : AH} {p : Nat} {pl : List PE} (hPl : PlR h p pl) {z : Int} {f1 : Nat} (h0 : 0 ≤ z) (h1 : z < pl.length) (hf1 : f1 ≤ 1) : CC mX3_setFold 1 0 0 [.ref p, .int (zI z), .int (zI f1)] sz h (QV (fun h' => PlR h' p (pSet pl z.toNat f1) ∧ Fr h h' p (p + 4))) := by
  refine CC.intro [some (.ref p), some (.int (zI z)), some (.int (zI f1))] pfX3_setFold rfl rfl ?_
  have hPl0 := hPl
  obtain ⟨n, l, f, hP, hB, hH⟩ := hPl
  have hL := hB.1
  refine x_aload_n dX3_setFold_0 rfl ?_
  refine x_iload_n dX3_setFold_1 rfl ?_
  refine p_V dX3_setFold_2 lX3_35 (c_X3_isThere sz hPl0 (z := z) ⟨by omega, by omega⟩) hP.1 rfl rfl rfl rfl (by decide) ?_
  refine x_ifB_eq dX3_setFold_5 (fun c5 => ?_) (fun c5 => ?_)
  · exact absurd ⟨h0, h1⟩ c5
  · refine x_aload_n dX3_setFold_8 rfl ?_
    refine s_get dX3_setFold_9 fX3_18 hP rfl ?_
    refine x_iload_n dX3_setFold_12 rfl ?_
    refine x_iload_n dX3_setFold_13 rfl ?_
    refine s_iast dX3_setFold_14 hP rfl rfl ⟨by omega, by omega⟩ (fun h hP hF => ?_)
    refine x_vreturn dX3_setFold_15 rfl ?_
    exact ⟨rfl, ⟨n, l, _, by rw [pSet_len]; exact hP.st, hB.set (by omega) hf1, hH.set (by omega)⟩, hP.fr⟩
theorem c_X3_append (sz : Nat) {h : AH} {p : Nat} {pl : List PE} (hPl : PlR h p pl) {a b c : Nat} (ha : 1 ≤ a ∧ a ≤ 40) (hb : 1 ≤ b ∧ b ≤ 41) (hc : c ≤ 1) : CC mX3_append 0 0 0 [.ref p, .int (zI a), .int (zI b), .int (zI c)] sz h (QI (fun z h' => (pl.length < 120 ∧ b ≤ 40 ∧ z = pl.length ∧ PlR h' p (pl ++ [(a, b, c)]) ∧ Fr h h' p (p + 4)) ∨ ((120 ≤ pl.length ∨ 40 < b) ∧ z = -2 ∧ h' = h))) := by
  refine CC.intro [some (.ref p), some (.int (zI a)), some (.int (zI b)), some (.int (zI c))] pfX3_append rfl rfl ?_
  have hPl0 := hPl
  obtain ⟨n, l, f, hP, hB, hH⟩ := hPl
  have hL := hB.1
  refine x_aload_n dX3_append_0 rfl ?_
  refine s_get dX3_append_1 fX3_21 hP rfl ?_
  refine x_if_lt dX3_append_4 ⟨by omega, by omega⟩ (fun c4 => ?_) (fun c4 => ?_)
  · exact absurd c4 (by omega)
  · refine x_aload_n dX3_append_7 rfl ?_
    refine s_get dX3_append_8 fX3_21 hP rfl ?_
    refine x_bipush dX3_append_11 (by decide) ?_
    refine x_icmp_ge dX3_append_13 ⟨by omega, by omega⟩ ⟨by omega, by omega⟩ (fun c13 => ?_) (fun c13 => ?_)
    · refine x_bipush dX3_append_22 (by decide) ?_
      refine x_ireturn dX3_append_24 rfl ?_
      exact ⟨_, rfl, Or.inr ⟨by omega, rfl, rfl⟩⟩
    · refine x_iload_n dX3_append_16 rfl ?_
      refine x_bipush dX3_append_17 (by decide) ?_
      refine x_icmp_le dX3_append_19 ⟨by omega, by omega⟩ ⟨by omega, by omega⟩ (fun c19 => ?_) (fun c19 => ?_)
      · refine x_aload_n dX3_append_25 rfl ?_
        refine s_get dX3_append_26 fX3_9 hP rfl ?_
        refine x_aload_n dX3_append_29 rfl ?_
        refine s_get dX3_append_30 fX3_21 hP rfl ?_
        refine x_iload_n dX3_append_33 rfl ?_
        refine s_iast dX3_append_34 hP rfl rfl ⟨by omega, by omega⟩ (fun h hP hF => ?_)
        refine x_aload_n dX3_append_35 rfl ?_
        refine s_get dX3_append_36 fX3_15 hP rfl ?_
        refine x_aload_n dX3_append_39 rfl ?_
        refine s_get dX3_append_40 fX3_21 hP rfl ?_
        refine x_iload_n dX3_append_43 rfl ?_
        refine s_iast dX3_append_44 hP rfl rfl ⟨by omega, by omega⟩ (fun h hP hF => ?_)
        refine x_aload_n dX3_append_45 rfl ?_
        refine s_get dX3_append_46 fX3_18 hP rfl ?_
        refine x_aload_n dX3_append_49 rfl ?_
        refine s_get dX3_append_50 fX3_21 hP rfl ?_
        refine x_iload_n dX3_append_53 rfl ?_
        refine s_iast dX3_append_54 hP rfl rfl ⟨by omega, by omega⟩ (fun h hP hF => ?_)
        refine x_aload_n dX3_append_55 rfl ?_
        refine x_dup dX3_append_56 rfl ?_
        refine s_get dX3_append_57 fX3_21 hP rfl ?_
        refine x_iconst dX3_append_60 ?_
        refine x_iadd dX3_append_61 ?_
        refine s_puti dX3_append_62 fX3_21 hP rfl (fun h hP hF => ?_)
        refine x_aload_n dX3_append_65 rfl ?_
        refine s_get dX3_append_66 fX3_21 hP rfl ?_
        refine x_iconst dX3_append_69 ?_
        refine x_isub dX3_append_70 ?_
        refine x_ireturn dX3_append_71 rfl ?_
        refine ⟨_, rfl, Or.inl ⟨by omega, by omega, by omega, ⟨_, _, _, ?_, hB.app (by omega) ha (by omega) hc, hH.app⟩, hP.fr⟩⟩
        rw [List.length_append]
        exact hP.st
      · refine x_bipush dX3_append_22 (by decide) ?_
        refine x_ireturn dX3_append_24 rfl ?_
        exact ⟨_, rfl, Or.inr ⟨by omega, rfl, rfl⟩⟩
theorem zC_len {pl : List PE} {n l f n1 l1 f1 : Nat → Int} (hB : PlB pl) (h : PlH pl n l f) : PlH pl (zC n n1 120) (zC l l1 120) (zC f f1 120) := by
  intro i hi
  have := hB.1
  rw [zC_in (by omega), zC_in (by omega), zC_in (by omega)]
  exact h i hi

theorem c_X3_copyFrom (sz : Nat) {h : AH} {p q : Nat} {pl pl0 : List PE} (hPl0 : PlR h p pl0) (hQl : PlR h q pl) (hd : p + 4 ≤ q ∨ q + 4 ≤ p) : CC mX3_copyFrom 1 0 0 [.ref p, .ref q] sz h (QV (fun h' => PlR h' p pl ∧ Fr h h' p (p + 4))) := by
  refine CC.intro [some (.ref p), some (.ref q)] pfX3_copyFrom rfl rfl ?_
  obtain ⟨n0, l0, f0, hP, -, -⟩ := hPl0
  obtain ⟨n, l, f, hQ, hB, hH⟩ := hQl
  refine x_aload_n dX3_copyFrom_0 rfl ?_
  refine x_aload_n dX3_copyFrom_1 rfl ?_
  refine s_get dX3_copyFrom_2 fX3_21 hQ rfl ?_
  refine s_puti dX3_copyFrom_5 fX3_21 hP rfl (fun h hP hF => ?_)
  have hQ := hQ.mv hF (by omega)
  refine x_aload_n dX3_copyFrom_8 rfl ?_
  refine s_get dX3_copyFrom_9 fX3_9 hQ rfl ?_
  refine x_iconst dX3_copyFrom_12 ?_
  refine x_aload_n dX3_copyFrom_13 rfl ?_
  refine s_get dX3_copyFrom_14 fX3_9 hP rfl ?_
  refine x_iconst dX3_copyFrom_17 ?_
  refine x_bipush dX3_copyFrom_18 (by decide) ?_
  refine s_copy dX3_copyFrom_20 acX3 hP (j := 0) rfl (hQ.2.1 0 _ rfl) rfl ⟨by omega, by omega, by omega⟩ ⟨by decide, by decide⟩ (fun h hP hF => ?_)
  have hQ := hQ.mv hF (by omega)
  refine x_aload_n dX3_copyFrom_23 rfl ?_
  refine s_get dX3_copyFrom_24 fX3_15 hQ rfl ?_
  refine x_iconst dX3_copyFrom_27 ?_
  refine x_aload_n dX3_copyFrom_28 rfl ?_
  refine s_get dX3_copyFrom_29 fX3_15 hP rfl ?_
  refine x_iconst dX3_copyFrom_32 ?_
  refine x_bipush dX3_copyFrom_33 (by decide) ?_
  refine s_copy dX3_copyFrom_35 acX3 hP (j := 1) rfl (hQ.2.1 1 _ rfl) rfl ⟨by omega, by omega, by omega⟩ ⟨by decide, by decide⟩ (fun h hP hF => ?_)
  have hQ := hQ.mv hF (by omega)
  refine x_aload_n dX3_copyFrom_38 rfl ?_
  refine s_get dX3_copyFrom_39 fX3_18 hQ rfl ?_
  refine x_iconst dX3_copyFrom_42 ?_
  refine x_aload_n dX3_copyFrom_43 rfl ?_
  refine s_get dX3_copyFrom_44 fX3_18 hP rfl ?_
  refine x_iconst dX3_copyFrom_47 ?_
  refine x_bipush dX3_copyFrom_48 (by decide) ?_
  refine s_copy dX3_copyFrom_50 acX3 hP (j := 2) rfl (hQ.2.1 2 _ rfl) rfl ⟨by omega, by omega, by omega⟩ ⟨by decide, by decide⟩ (fun h hP hF => ?_)
  refine x_vreturn dX3_copyFrom_53 rfl ?_
  exact ⟨rfl, ⟨_, _, _, hP.st, hB, zC_len hB hH⟩, hP.fr⟩
-- sets of nodes as the bits of a long
def nbs (l : List Nat) : Nat := l.foldl (fun a n => a ||| 2 ^ n) 0
theorem nbs_app (l : List Nat) (x : Nat) : nbs (l ++ [x]) = nbs l ||| 2 ^ x := by
  unfold nbs
  rw [List.foldl_append]
  rfl
theorem nbs_lt (l : List Nat) (h : ∀ x ∈ l, x ≤ 40) : nbs l < 2 ^ 41 := by
  have key : ∀ (l : List Nat) (a : Nat), (∀ x ∈ l, x ≤ 40) → a < 2 ^ 41 → l.foldl (fun a n => a ||| 2 ^ n) a < 2 ^ 41 := by
    intro l
    induction l with
    | nil => intro a _ ha; exact ha
    | cons x l ih =>
      intro a hl ha
      refine ih _ (fun y hy => hl y (List.mem_cons_of_mem _ hy)) (Nat.or_lt_two_pow ha ?_)
      have := hl x List.mem_cons_self
      exact Nat.pow_lt_pow_right (by omega) (by omega)
  exact key l 0 h (by decide)
theorem nbs_bit (l : List Nat) (k : Nat) : (nbs l).testBit k = decide (k ∈ l) := by
  have key : ∀ (l : List Nat) (a : Nat), (l.foldl (fun a n => a ||| 2 ^ n) a).testBit k = (a.testBit k || decide (k ∈ l)) := by
    intro l
    induction l with
    | nil => intro a; simp
    | cons x l ih =>
      intro a
      rw [List.foldl_cons, ih, Nat.testBit_or, Nat.testBit_two_pow]
      by_cases e : k = x
      · subst e; simp
      · have e' : ¬ x = k := fun q => e q.symm
        simp [e, e']
  unfold nbs
  rw [key]
  simp
theorem lN_or (a b : Nat) : lN a ||| lN b = lN (a ||| b) := by
  apply Int64.toBitVec_inj.mp
  simp [lN, Int64.toBitVec_or, BitVec.ofNat_or]
theorem bL_eq : ∀ n : Nat, n ≤ 40 → Int64.ofNat 1 <<< ((zI (n : Int)).toInt64 &&& 63) = lN (2 ^ n) := by decide +kernel
/-- the nodes of the places from a to b -/
def nds (pl : List PE) (a : Nat) (b : Nat) : List Nat := (List.range (b - a)).map (fun k => pn pl (a + k))
theorem nds_s (pl : List PE) {a b : Nat} (h : a ≤ b) : nds pl a (b + 1) = nds pl a b ++ [pn pl b] := by
  unfold nds
  rw [show b + 1 - a = (b - a) + 1 by omega, List.range_succ, List.map_append]
  simp
  rw [show a + (b - a) = b by omega]
theorem nds_0 (pl : List PE) (a : Nat) : nds pl a a = [] := by
  unfold nds
  rw [Nat.sub_self]
  rfl
theorem nds_40 {pl : List PE} (hB : PlB pl) (a b : Nat) : ∀ x ∈ nds pl a b, x ≤ 40 := by
  intro x hx
  unfold nds at hx
  obtain ⟨k, -, rfl⟩ := List.mem_map.mp hx
  by_cases h : a + k < pl.length
  · exact (hB.2 _ h).2.1
  · rw [pn_out (by omega)]
    omega
def pWit (pl : List PE) (z : Int) : List Nat := nds pl (z + 1).toNat (pEnd pl (gV pl z) (z + 1)).toNat

theorem c_X3_nodesWithin (sz : Nat) {h : AH} {p : Nat} {pl : List PE} (hPl : PlR h p pl) {z : Int} (h0 : -1 ≤ z) (h1 : z < pl.length) : CC mX3_nodesWithin 3 0 0 [.ref p, .int (zI z)] sz h (QL (lN (nbs (pWit pl z))) h) := by
  refine CC.intro [some (.ref p), some (.int (zI z)), none, none, none, none] pfX3_nodesWithin rfl rfl ?_
  have hPl0 := hPl
  obtain ⟨n, l, f, hP, hB, hH⟩ := hPl
  have hL := hB.1
  have hsp := fZ_spec (fun k => decide ((pv pl k : Int) ≤ gV pl z)) pl.length (i := z + 1) (by omega) (by omega)
  have hE : pEnd pl (gV pl z) (z + 1) = fZ (fun k => decide ((pv pl k : Int) ≤ gV pl z)) pl.length (z + 1) := rfl
  refine x_lconst dX3_nodesWithin_0 rfl ?_
  refine x_lstore_n dX3_nodesWithin_1 rfl rfl rfl ?_
  refine x_aload_n dX3_nodesWithin_2 rfl ?_
  refine x_iload_n dX3_nodesWithin_3 rfl ?_
  refine p_V dX3_nodesWithin_4 lX3_55 (c_X3_endOf sz hPl0 (z := z) h0 h1) hP.1 rfl rfl rfl rfl (by decide) ?_
  refine x_istore dX3_nodesWithin_7 rfl rfl rfl ?_
  refine x_iload_n dX3_nodesWithin_9 rfl ?_
  refine x_iconst dX3_nodesWithin_10 ?_
  refine x_iadd dX3_nodesWithin_11 ?_
  refine x_iconst dX3_nodesWithin_12 ?_
  refine p_S dX3_nodesWithin_13 lX3_39 (c_J9_max_7cf53 sz h (a := z + 1) (b := 0) ⟨by omega, by omega⟩ ⟨by omega, by omega⟩) rfl rfl rfl (by decide) ?_
  rw [show max (z + 1) 0 = z + 1 by omega]
  refine x_istore dX3_nodesWithin_16 rfl rfl rfl ?_
  refine x_loop (fun _ => h) (fun i : Int => [some (.ref p), some (.int (zI z)), some (.long (lN (nbs (nds pl (z + 1).toNat i.toNat)))), none, some (.int (zI (pEnd pl (gV pl z) (z + 1)))), some (.int (zI i))]) (fun i => z + 1 ≤ i ∧ i ≤ pEnd pl (gV pl z) (z + 1)) (fun i => (pEnd pl (gV pl z) (z + 1) - i).toNat) (z + 1) rfl (by rw [nds_0]; rfl) ⟨by omega, by omega⟩ ?_
  rintro i ⟨hi0, hi1⟩ ih
  try dsimp only at *
  refine x_iload dX3_nodesWithin_18 rfl ?_
  refine x_iload dX3_nodesWithin_20 rfl ?_
  refine x_icmp_ge dX3_nodesWithin_22 ⟨by omega, by omega⟩ ⟨by omega, by omega⟩ (fun c22 => ?_) (fun c22 => ?_)
  · refine x_lload_n dX3_nodesWithin_43 rfl ?_
    refine x_lreturn dX3_nodesWithin_44 rfl ?_
    exact ⟨by unfold pWit; rw [show i = pEnd pl (gV pl z) (z + 1) by omega], rfl⟩
  · refine x_lload_n dX3_nodesWithin_25 rfl ?_
    refine x_lconst dX3_nodesWithin_26 rfl ?_
    refine x_aload_n dX3_nodesWithin_27 rfl ?_
    refine s_get dX3_nodesWithin_28 fX3_9 hP rfl ?_
    refine x_iload dX3_nodesWithin_31 rfl ?_
    refine s_iald dX3_nodesWithin_33 hP rfl rfl ⟨by omega, by omega⟩ ?_
    have e1 := (gV_in hH (i := i) (by omega) (by omega)).2.1
    have e2 := gN_r hB i
    have e3 := (gV_p (pl := pl) (i := i) (by omega)).2.1
    refine x_lshl dX3_nodesWithin_34 (v := lN (2 ^ pn pl i.toNat)) (by rw [e1, ← e3]; exact bL_eq _ (by omega)) ?_
    refine x_lor dX3_nodesWithin_35 (v := lN (nbs (nds pl (z + 1).toNat (i + 1).toNat))) (by rw [lN_or, ← nbs_app, ← nds_s pl (by omega), show i.toNat + 1 = (i + 1).toNat by omega]) ?_
    refine x_lstore_n dX3_nodesWithin_36 rfl rfl rfl ?_
    refine x_iinc dX3_nodesWithin_37 rfl rfl rfl ?_
    refine x_goto dX3_nodesWithin_40 ?_
    refine ih (i + 1) ⟨by omega, by omega⟩ (by omega)
theorem c_X3_nodeSet (sz : Nat) {h : AH} {p : Nat} {pl : List PE} (hPl : PlR h p pl) : CC mX3_nodeSet 4 0 0 [.ref p] sz h (QL (lN (nbs (pWit pl (-1)))) h) := by
  refine CC.intro [some (.ref p)] pfX3_nodeSet rfl rfl ?_
  have hPl0 := hPl
  obtain ⟨n, l, f, hP, hB, hH⟩ := hPl
  have hL := hB.1
  refine x_aload_n dX3_nodeSet_0 rfl ?_
  refine x_iconst dX3_nodeSet_1 ?_
  refine l_V dX3_nodeSet_2 lX3_51 (c_X3_nodesWithin sz hPl0 (z := -1) (by omega) (by omega)) hP.1 rfl rfl rfl rfl (by decide) ?_
  refine x_lreturn dX3_nodeSet_5 rfl ?_
  exact ⟨rfl, rfl⟩
/-- foldLevel, place by place -/
def fLv (pl : List PE) (L : Int) (k : Nat) : Nat := if (pv pl k : Int) < L then 0 else if (pv pl k : Int) = L ∧ pv pl k < pv pl (k + 1) then 1 else pf pl k
def pFL (pl : List PE) (L : Int) : Nat → List PE
  | 0 => pl
  | n + 1 => pSet (pFL pl L n) n (fLv pl L n)
theorem pFL_len (pl : List PE) (L : Int) : ∀ n, (pFL pl L n).length = pl.length
  | 0 => rfl
  | n + 1 => by rw [pFL, pSet_len, pFL_len]
theorem pFL_nv (pl : List PE) (L : Int) (i : Nat) : ∀ n, pn (pFL pl L n) i = pn pl i ∧ pv (pFL pl L n) i = pv pl i
  | 0 => ⟨rfl, rfl⟩
  | n + 1 => by rw [pFL, pSet_n, pSet_v]; exact pFL_nv pl L i n
theorem pFL_f (pl : List PE) (L : Int) (i : Nat) : ∀ n, n ≤ pl.length → pf (pFL pl L n) i = if i < n then fLv pl L i else pf pl i
  | 0, _ => by rw [if_neg (by omega)]; rfl
  | n + 1, h => by
    rw [pFL, pSet_f _ _ _ _ (by rw [pFL_len]; omega), pFL_f pl L i n (by omega)]
    by_cases e : i = n
    · rw [if_pos e, if_pos (by omega), e]
    · rw [if_neg e]
      by_cases e2 : i < n
      · rw [if_pos e2, if_pos (by omega)]
      · rw [if_neg e2, if_neg (by omega)]
theorem fLv_1 {pl : List PE} (hB : PlB pl) (L : Int) (k : Nat) (hk : k < pl.length) : fLv pl L k ≤ 1 := by
  have := hB.2 k hk
  unfold fLv
  split
  · omega
  · split <;> omega
theorem pSet_id (pl : List PE) (k : Nat) (hk : k < pl.length) : pSet pl k (pf pl k) = pl := by
  unfold pSet pn pv pf
  rw [List.getD_eq_getElem?_getD, List.getElem?_eq_getElem hk]
  show pl.set k pl[k] = pl
  exact List.set_getElem_self hk
theorem pFL_B {pl : List PE} (hB : PlB pl) (L : Int) : ∀ n, n ≤ pl.length → PlB (pFL pl L n)
  | 0, _ => hB
  | n + 1, h => (pFL_B hB L n (by omega)).set (by rw [pFL_len]; omega) (fLv_1 hB L n (by omega))
theorem fLv_if {pl : List PE} {L : Int} {k : Nat} (hB : PlB pl) (hk : k < pl.length) : (fLv pl L k : Int) = if (pv pl k : Int) < L then 0 else if (pv pl k : Int) = L ∧ pv pl k < pv pl (k + 1) then 1 else (pf pl k : Int) := by
  unfold fLv
  split
  · rfl
  · split <;> rfl

theorem c_X3_foldAtLevel (sz : Nat) {h : AH} {p : Nat} {pl : List PE} (hPl : PlR h p pl) {L : Int} (hL1 : inR L) : CC mX3_foldAtLevel 3 0 0 [.ref p, .int (zI L)] sz h (QI (fun z h' => z = (if ∃ k, k < pl.length ∧ fLv pl L k ≠ pf pl k then 1 else 0) ∧ PlR h' p (pFL pl L pl.length) ∧ Fr h h' p (p + 4))) := by
  refine CC.intro [some (.ref p), some (.int (zI L)), none, none, none, none] pfX3_foldAtLevel rfl rfl ?_
  obtain ⟨n, l, f, hP, hB, hH⟩ := hPl
  have hL := hB.1
  refine x_iconst dX3_foldAtLevel_0 ?_
  refine x_istore_n dX3_foldAtLevel_1 rfl rfl rfl ?_
  refine x_iconst dX3_foldAtLevel_2 ?_
  refine x_istore_n dX3_foldAtLevel_3 rfl rfl rfl ?_
  refine x_loop (fun s : AH × Int × Int => s.1) (fun s => [some (.ref p), some (.int (zI L)), some (.int (zI s.2.2)), some (.int (zI s.2.1)), none, none]) (fun s => 0 ≤ s.2.1 ∧ s.2.1 ≤ pl.length ∧ (∃ n l f, SO h s.1 p 4 3 (plF p pl.length) (plA n l f) ∧ PlH (pFL pl L s.2.1.toNat) n l f) ∧ s.2.2 = (if ∃ k, k < s.2.1.toNat ∧ fLv pl L k ≠ pf pl k then 1 else 0)) (fun s => (pl.length - s.2.1).toNat) (h, 0, 0) rfl rfl ⟨by dsimp only; omega, by dsimp only; omega, ⟨n, l, f, hP, hH⟩, by dsimp only; rw [if_neg]; rintro ⟨k, hk, -⟩; simp at hk⟩ ?_
  rintro ⟨h1, i, c⟩ ⟨hi0, hi1, ⟨n, l, f, hP, hH⟩, hc⟩ ih
  try dsimp only at *
  have hPl1 : i < pl.length → PlR h1 p (pFL pl L i.toNat) := fun _ => ⟨n, l, f, by rw [pFL_len]; exact hP.st, pFL_B hB L _ (by omega), hH⟩
  have hpre : i < pl.length → l i.toNat = pv pl i.toNat ∧ f i.toNat = pf pl i.toNat ∧ 1 ≤ pv pl i.toNat ∧ pv pl i.toNat ≤ 40 ∧ pf pl i.toNat ≤ 1 ∧ fLv pl L i.toNat ≤ 1 ∧ ((fLv pl L i.toNat : Int) = if (pv pl i.toNat : Int) < L then 0 else if (pv pl i.toNat : Int) = L ∧ pv pl i.toNat < pv pl (i.toNat + 1) then 1 else (pf pl i.toNat : Int)) := by
    intro hlt
    have e1 := hH i.toNat (by rw [pFL_len]; omega)
    have e4 := pFL_nv pl L i.toNat i.toNat
    have e5 := pFL_f pl L i.toNat i.toNat (by omega)
    rw [if_neg (by omega)] at e5
    have e6 := hB.2 i.toNat (by omega)
    rw [e4.1, e4.2, e5] at e1
    exact ⟨e1.2.1, e1.2.2, e6.2.2.1, e6.2.2.2.1, e6.2.2.2.2, fLv_1 hB L _ (by omega), fLv_if hB (by omega)⟩
  have hhas : i < pl.length → (gV (pFL pl L i.toNat) i < gV (pFL pl L i.toNat) (i + 1) ↔ pv pl i.toNat < pv pl (i.toNat + 1)) := by
    intro hlt
    unfold gV
    rw [if_pos (by omega), if_pos (by omega), (pFL_nv pl L _ _).2, (pFL_nv pl L _ _).2, show (i + 1).toNat = i.toNat + 1 by omega]
    omega
  have hkeep : ∀ (h2 : AH), i < pl.length → fLv pl L i.toNat = pf pl i.toNat → SO h h2 p 4 3 (plF p pl.length) (plA n l f) → XM mX3_foldAtLevel 3 0 0 (QI (fun z h' => z = (if ∃ k, k < pl.length ∧ fLv pl L k ≠ pf pl k then 1 else 0) ∧ PlR h' p (pFL pl L pl.length) ∧ Fr h h' p (p + 4))) 0 0 sz h2 4 [some (.ref p), some (.int (zI L)), some (.int (zI c)), some (.int (zI (i + 1))), none, none] [] := by
    intro h2 hlt he hP2
    refine ih (h2, i + 1, c) ⟨by dsimp only; omega, by dsimp only; omega, ⟨n, l, f, hP2, ?_⟩, ?_⟩ (by dsimp only; omega)
    · dsimp only
      rw [show (i + 1).toNat = i.toNat + 1 by omega, pFL, he]
      have e5 := pFL_f pl L i.toNat i.toNat (by omega)
      rw [if_neg (by omega)] at e5
      rw [← e5, pSet_id _ _ (by rw [pFL_len]; omega)]
      exact hH
    · dsimp only
      rw [hc]
      congr 1
      apply propext
      rw [show (i + 1).toNat = i.toNat + 1 by omega]
      constructor
      · rintro ⟨k, hk, h3⟩
        exact ⟨k, by omega, h3⟩
      · rintro ⟨k, hk, h3⟩
        refine ⟨k, ?_, h3⟩
        rcases Nat.lt_succ_iff_lt_or_eq.mp hk with q | q
        · exact q
        · subst q; exact absurd he h3
  have hset : ∀ (h2 : AH) (v : Nat), i < pl.length → fLv pl L i.toNat = v → fLv pl L i.toNat ≠ pf pl i.toNat → SO h h2 p 4 3 (plF p pl.length) (plA n l (zU f i.toNat v)) → XM mX3_foldAtLevel 3 0 0 (QI (fun z h' => z = (if ∃ k, k < pl.length ∧ fLv pl L k ≠ pf pl k then 1 else 0) ∧ PlR h' p (pFL pl L pl.length) ∧ Fr h h' p (p + 4))) 0 0 sz h2 4 [some (.ref p), some (.int (zI L)), some (.int (zI 1)), some (.int (zI (i + 1))), none, none] [] := by
    intro h2 v hlt he hne hP2
    refine ih (h2, i + 1, 1) ⟨by dsimp only; omega, by dsimp only; omega, ⟨n, l, _, hP2, ?_⟩, ?_⟩ (by dsimp only; omega)
    · dsimp only
      rw [show (i + 1).toNat = i.toNat + 1 by omega, pFL, he]
      exact hH.set (by rw [pFL_len]; omega)
    · dsimp only
      rw [if_pos ⟨i.toNat, by omega, hne⟩]
  refine x_iload_n dX3_foldAtLevel_4 rfl ?_
  refine x_aload_n dX3_foldAtLevel_5 rfl ?_
  refine s_get dX3_foldAtLevel_6 fX3_21 hP rfl ?_
  refine x_icmp_ge dX3_foldAtLevel_9 ⟨by omega, by omega⟩ ⟨by omega, by omega⟩ (fun c9 => ?_) (fun c9 => ?_)
  · refine x_iload_n dX3_foldAtLevel_107 rfl ?_
    refine x_zreturn dX3_foldAtLevel_108 rfl (by rw [hc]; split <;> omega) ?_
    refine ⟨c, rfl, ?_, ⟨n, l, f, ?_, ?_, ?_⟩, hP.fr⟩
    · rw [hc, show i.toNat = pl.length by omega]
    · rw [pFL_len]
      exact hP.st
    · exact pFL_B hB L _ (by omega)
    · rw [show i.toNat = pl.length by omega] at hH
      exact hH
  · obtain ⟨e1, e2, e3, e4, e5, e6, e7⟩ := hpre (by omega)
    refine x_aload_n dX3_foldAtLevel_12 rfl ?_
    refine s_get dX3_foldAtLevel_13 fX3_15 hP rfl ?_
    refine x_iload_n dX3_foldAtLevel_16 rfl ?_
    refine s_iald dX3_foldAtLevel_17 hP rfl rfl ⟨by omega, by omega⟩ ?_
    refine x_iload_n dX3_foldAtLevel_18 rfl ?_
    refine x_icmp_ge dX3_foldAtLevel_19 ⟨by omega, by omega⟩ ⟨by omega, by omega⟩ (fun c19 => ?_) (fun c19 => ?_)
    · refine x_iconst dX3_foldAtLevel_36 ?_
      refine x_istore dX3_foldAtLevel_37 rfl rfl rfl ?_
      refine x_aload_n dX3_foldAtLevel_39 rfl ?_
      refine s_get dX3_foldAtLevel_40 fX3_15 hP rfl ?_
      refine x_iload_n dX3_foldAtLevel_43 rfl ?_
      refine s_iald dX3_foldAtLevel_44 hP rfl rfl ⟨by omega, by omega⟩ ?_
      refine x_iload_n dX3_foldAtLevel_45 rfl ?_
      refine x_icmp_ne dX3_foldAtLevel_46 ⟨by omega, by omega⟩ ⟨by omega, by omega⟩ (fun c46 => ?_) (fun c46 => ?_)
      · refine x_iconst dX3_foldAtLevel_70 ?_
        refine x_istore dX3_foldAtLevel_71 rfl rfl rfl ?_
        refine x_iload dX3_foldAtLevel_73 rfl ?_
        refine x_if_ne dX3_foldAtLevel_75 ⟨by omega, by omega⟩ (fun c75 => ?_) (fun c75 => ?_)
        · refine x_aload_n dX3_foldAtLevel_83 rfl ?_
          refine s_get dX3_foldAtLevel_84 fX3_18 hP rfl ?_
          refine x_iload_n dX3_foldAtLevel_87 rfl ?_
          refine x_iload dX3_foldAtLevel_88 rfl ?_
          refine x_if_eq dX3_foldAtLevel_90 ⟨by omega, by omega⟩ (fun c90 => ?_) (fun c90 => ?_)
          · refine x_iconst dX3_foldAtLevel_97 ?_
            refine s_iast dX3_foldAtLevel_98 hP rfl rfl ⟨by omega, by omega⟩ (fun h hP hF => ?_)
            refine x_iconst dX3_foldAtLevel_99 ?_
            refine x_istore_n dX3_foldAtLevel_100 rfl rfl rfl ?_
            refine x_iinc dX3_foldAtLevel_101 rfl rfl rfl ?_
            refine x_goto dX3_foldAtLevel_104 ?_
            refine x_kill 4 (x_kill 5 ?_)
            first | exact hkeep _ (by omega) (by omega) hP | exact hset _ 0 (by omega) (by omega) (by omega) hP | exact hset _ 1 (by omega) (by omega) (by omega) hP
          · refine x_iconst dX3_foldAtLevel_93 ?_
            refine x_goto dX3_foldAtLevel_94 ?_
            refine s_iast dX3_foldAtLevel_98 hP rfl rfl ⟨by omega, by omega⟩ (fun h hP hF => ?_)
            refine x_iconst dX3_foldAtLevel_99 ?_
            refine x_istore_n dX3_foldAtLevel_100 rfl rfl rfl ?_
            refine x_iinc dX3_foldAtLevel_101 rfl rfl rfl ?_
            refine x_goto dX3_foldAtLevel_104 ?_
            refine x_kill 4 (x_kill 5 ?_)
            first | exact hkeep _ (by omega) (by omega) hP | exact hset _ 0 (by omega) (by omega) (by omega) hP | exact hset _ 1 (by omega) (by omega) (by omega) hP
        · refine x_iload dX3_foldAtLevel_78 rfl ?_
          refine x_if_eq dX3_foldAtLevel_80 ⟨by omega, by omega⟩ (fun c80 => ?_) (fun c80 => ?_)
          · refine x_iinc dX3_foldAtLevel_101 rfl rfl rfl ?_
            refine x_goto dX3_foldAtLevel_104 ?_
            refine x_kill 4 (x_kill 5 ?_)
            first | exact hkeep _ (by omega) (by omega) hP | exact hset _ 0 (by omega) (by omega) (by omega) hP | exact hset _ 1 (by omega) (by omega) (by omega) hP
          · refine x_aload_n dX3_foldAtLevel_83 rfl ?_
            refine s_get dX3_foldAtLevel_84 fX3_18 hP rfl ?_
            refine x_iload_n dX3_foldAtLevel_87 rfl ?_
            refine x_iload dX3_foldAtLevel_88 rfl ?_
            refine x_if_eq dX3_foldAtLevel_90 ⟨by omega, by omega⟩ (fun c90 => ?_) (fun c90 => ?_)
            · refine x_iconst dX3_foldAtLevel_97 ?_
              refine s_iast dX3_foldAtLevel_98 hP rfl rfl ⟨by omega, by omega⟩ (fun h hP hF => ?_)
              refine x_iconst dX3_foldAtLevel_99 ?_
              refine x_istore_n dX3_foldAtLevel_100 rfl rfl rfl ?_
              refine x_iinc dX3_foldAtLevel_101 rfl rfl rfl ?_
              refine x_goto dX3_foldAtLevel_104 ?_
              refine x_kill 4 (x_kill 5 ?_)
              first | exact hkeep _ (by omega) (by omega) hP | exact hset _ 0 (by omega) (by omega) (by omega) hP | exact hset _ 1 (by omega) (by omega) (by omega) hP
            · refine x_iconst dX3_foldAtLevel_93 ?_
              refine x_goto dX3_foldAtLevel_94 ?_
              refine s_iast dX3_foldAtLevel_98 hP rfl rfl ⟨by omega, by omega⟩ (fun h hP hF => ?_)
              refine x_iconst dX3_foldAtLevel_99 ?_
              refine x_istore_n dX3_foldAtLevel_100 rfl rfl rfl ?_
              refine x_iinc dX3_foldAtLevel_101 rfl rfl rfl ?_
              refine x_goto dX3_foldAtLevel_104 ?_
              refine x_kill 4 (x_kill 5 ?_)
              first | exact hkeep _ (by omega) (by omega) hP | exact hset _ 0 (by omega) (by omega) (by omega) hP | exact hset _ 1 (by omega) (by omega) (by omega) hP
      · refine x_aload_n dX3_foldAtLevel_49 rfl ?_
        refine s_get dX3_foldAtLevel_50 fX3_18 hP rfl ?_
        refine x_iload_n dX3_foldAtLevel_53 rfl ?_
        refine s_iald dX3_foldAtLevel_54 hP rfl rfl ⟨by omega, by omega⟩ ?_
        refine x_if_ne dX3_foldAtLevel_55 ⟨by omega, by omega⟩ (fun c55 => ?_) (fun c55 => ?_)
        · refine x_iconst dX3_foldAtLevel_70 ?_
          refine x_istore dX3_foldAtLevel_71 rfl rfl rfl ?_
          refine x_iload dX3_foldAtLevel_73 rfl ?_
          refine x_if_ne dX3_foldAtLevel_75 ⟨by omega, by omega⟩ (fun c75 => ?_) (fun c75 => ?_)
          · refine x_aload_n dX3_foldAtLevel_83 rfl ?_
            refine s_get dX3_foldAtLevel_84 fX3_18 hP rfl ?_
            refine x_iload_n dX3_foldAtLevel_87 rfl ?_
            refine x_iload dX3_foldAtLevel_88 rfl ?_
            refine x_if_eq dX3_foldAtLevel_90 ⟨by omega, by omega⟩ (fun c90 => ?_) (fun c90 => ?_)
            · refine x_iconst dX3_foldAtLevel_97 ?_
              refine s_iast dX3_foldAtLevel_98 hP rfl rfl ⟨by omega, by omega⟩ (fun h hP hF => ?_)
              refine x_iconst dX3_foldAtLevel_99 ?_
              refine x_istore_n dX3_foldAtLevel_100 rfl rfl rfl ?_
              refine x_iinc dX3_foldAtLevel_101 rfl rfl rfl ?_
              refine x_goto dX3_foldAtLevel_104 ?_
              refine x_kill 4 (x_kill 5 ?_)
              first | exact hkeep _ (by omega) (by omega) hP | exact hset _ 0 (by omega) (by omega) (by omega) hP | exact hset _ 1 (by omega) (by omega) (by omega) hP
            · refine x_iconst dX3_foldAtLevel_93 ?_
              refine x_goto dX3_foldAtLevel_94 ?_
              refine s_iast dX3_foldAtLevel_98 hP rfl rfl ⟨by omega, by omega⟩ (fun h hP hF => ?_)
              refine x_iconst dX3_foldAtLevel_99 ?_
              refine x_istore_n dX3_foldAtLevel_100 rfl rfl rfl ?_
              refine x_iinc dX3_foldAtLevel_101 rfl rfl rfl ?_
              refine x_goto dX3_foldAtLevel_104 ?_
              refine x_kill 4 (x_kill 5 ?_)
              first | exact hkeep _ (by omega) (by omega) hP | exact hset _ 0 (by omega) (by omega) (by omega) hP | exact hset _ 1 (by omega) (by omega) (by omega) hP
          · refine x_iload dX3_foldAtLevel_78 rfl ?_
            refine x_if_eq dX3_foldAtLevel_80 ⟨by omega, by omega⟩ (fun c80 => ?_) (fun c80 => ?_)
            · refine x_iinc dX3_foldAtLevel_101 rfl rfl rfl ?_
              refine x_goto dX3_foldAtLevel_104 ?_
              refine x_kill 4 (x_kill 5 ?_)
              first | exact hkeep _ (by omega) (by omega) hP | exact hset _ 0 (by omega) (by omega) (by omega) hP | exact hset _ 1 (by omega) (by omega) (by omega) hP
            · refine x_aload_n dX3_foldAtLevel_83 rfl ?_
              refine s_get dX3_foldAtLevel_84 fX3_18 hP rfl ?_
              refine x_iload_n dX3_foldAtLevel_87 rfl ?_
              refine x_iload dX3_foldAtLevel_88 rfl ?_
              refine x_if_eq dX3_foldAtLevel_90 ⟨by omega, by omega⟩ (fun c90 => ?_) (fun c90 => ?_)
              · refine x_iconst dX3_foldAtLevel_97 ?_
                refine s_iast dX3_foldAtLevel_98 hP rfl rfl ⟨by omega, by omega⟩ (fun h hP hF => ?_)
                refine x_iconst dX3_foldAtLevel_99 ?_
                refine x_istore_n dX3_foldAtLevel_100 rfl rfl rfl ?_
                refine x_iinc dX3_foldAtLevel_101 rfl rfl rfl ?_
                refine x_goto dX3_foldAtLevel_104 ?_
                refine x_kill 4 (x_kill 5 ?_)
                first | exact hkeep _ (by omega) (by omega) hP | exact hset _ 0 (by omega) (by omega) (by omega) hP | exact hset _ 1 (by omega) (by omega) (by omega) hP
              · refine x_iconst dX3_foldAtLevel_93 ?_
                refine x_goto dX3_foldAtLevel_94 ?_
                refine s_iast dX3_foldAtLevel_98 hP rfl rfl ⟨by omega, by omega⟩ (fun h hP hF => ?_)
                refine x_iconst dX3_foldAtLevel_99 ?_
                refine x_istore_n dX3_foldAtLevel_100 rfl rfl rfl ?_
                refine x_iinc dX3_foldAtLevel_101 rfl rfl rfl ?_
                refine x_goto dX3_foldAtLevel_104 ?_
                refine x_kill 4 (x_kill 5 ?_)
                first | exact hkeep _ (by omega) (by omega) hP | exact hset _ 0 (by omega) (by omega) (by omega) hP | exact hset _ 1 (by omega) (by omega) (by omega) hP
        · refine x_aload_n dX3_foldAtLevel_58 rfl ?_
          refine x_iload_n dX3_foldAtLevel_59 rfl ?_
          refine p_V dX3_foldAtLevel_60 lX3_58 (c_X3_hasChildren sz (hPl1 (by omega)) (z := i) (by omega) (by rw [pFL_len]; omega)) hP.1 rfl rfl rfl rfl (by decide) ?_
          refine x_ifB_eq dX3_foldAtLevel_63 (fun c63 => ?_) (fun c63 => ?_)
          · rw [hhas (by omega)] at c63
            refine x_iconst dX3_foldAtLevel_70 ?_
            refine x_istore dX3_foldAtLevel_71 rfl rfl rfl ?_
            refine x_iload dX3_foldAtLevel_73 rfl ?_
            refine x_if_ne dX3_foldAtLevel_75 ⟨by omega, by omega⟩ (fun c75 => ?_) (fun c75 => ?_)
            · refine x_aload_n dX3_foldAtLevel_83 rfl ?_
              refine s_get dX3_foldAtLevel_84 fX3_18 hP rfl ?_
              refine x_iload_n dX3_foldAtLevel_87 rfl ?_
              refine x_iload dX3_foldAtLevel_88 rfl ?_
              refine x_if_eq dX3_foldAtLevel_90 ⟨by omega, by omega⟩ (fun c90 => ?_) (fun c90 => ?_)
              · refine x_iconst dX3_foldAtLevel_97 ?_
                refine s_iast dX3_foldAtLevel_98 hP rfl rfl ⟨by omega, by omega⟩ (fun h hP hF => ?_)
                refine x_iconst dX3_foldAtLevel_99 ?_
                refine x_istore_n dX3_foldAtLevel_100 rfl rfl rfl ?_
                refine x_iinc dX3_foldAtLevel_101 rfl rfl rfl ?_
                refine x_goto dX3_foldAtLevel_104 ?_
                refine x_kill 4 (x_kill 5 ?_)
                first | exact hkeep _ (by omega) (by omega) hP | exact hset _ 0 (by omega) (by omega) (by omega) hP | exact hset _ 1 (by omega) (by omega) (by omega) hP
              · refine x_iconst dX3_foldAtLevel_93 ?_
                refine x_goto dX3_foldAtLevel_94 ?_
                refine s_iast dX3_foldAtLevel_98 hP rfl rfl ⟨by omega, by omega⟩ (fun h hP hF => ?_)
                refine x_iconst dX3_foldAtLevel_99 ?_
                refine x_istore_n dX3_foldAtLevel_100 rfl rfl rfl ?_
                refine x_iinc dX3_foldAtLevel_101 rfl rfl rfl ?_
                refine x_goto dX3_foldAtLevel_104 ?_
                refine x_kill 4 (x_kill 5 ?_)
                first | exact hkeep _ (by omega) (by omega) hP | exact hset _ 0 (by omega) (by omega) (by omega) hP | exact hset _ 1 (by omega) (by omega) (by omega) hP
            · refine x_iload dX3_foldAtLevel_78 rfl ?_
              refine x_if_eq dX3_foldAtLevel_80 ⟨by omega, by omega⟩ (fun c80 => ?_) (fun c80 => ?_)
              · refine x_iinc dX3_foldAtLevel_101 rfl rfl rfl ?_
                refine x_goto dX3_foldAtLevel_104 ?_
                refine x_kill 4 (x_kill 5 ?_)
                first | exact hkeep _ (by omega) (by omega) hP | exact hset _ 0 (by omega) (by omega) (by omega) hP | exact hset _ 1 (by omega) (by omega) (by omega) hP
              · refine x_aload_n dX3_foldAtLevel_83 rfl ?_
                refine s_get dX3_foldAtLevel_84 fX3_18 hP rfl ?_
                refine x_iload_n dX3_foldAtLevel_87 rfl ?_
                refine x_iload dX3_foldAtLevel_88 rfl ?_
                refine x_if_eq dX3_foldAtLevel_90 ⟨by omega, by omega⟩ (fun c90 => ?_) (fun c90 => ?_)
                · refine x_iconst dX3_foldAtLevel_97 ?_
                  refine s_iast dX3_foldAtLevel_98 hP rfl rfl ⟨by omega, by omega⟩ (fun h hP hF => ?_)
                  refine x_iconst dX3_foldAtLevel_99 ?_
                  refine x_istore_n dX3_foldAtLevel_100 rfl rfl rfl ?_
                  refine x_iinc dX3_foldAtLevel_101 rfl rfl rfl ?_
                  refine x_goto dX3_foldAtLevel_104 ?_
                  refine x_kill 4 (x_kill 5 ?_)
                  first | exact hkeep _ (by omega) (by omega) hP | exact hset _ 0 (by omega) (by omega) (by omega) hP | exact hset _ 1 (by omega) (by omega) (by omega) hP
                · refine x_iconst dX3_foldAtLevel_93 ?_
                  refine x_goto dX3_foldAtLevel_94 ?_
                  refine s_iast dX3_foldAtLevel_98 hP rfl rfl ⟨by omega, by omega⟩ (fun h hP hF => ?_)
                  refine x_iconst dX3_foldAtLevel_99 ?_
                  refine x_istore_n dX3_foldAtLevel_100 rfl rfl rfl ?_
                  refine x_iinc dX3_foldAtLevel_101 rfl rfl rfl ?_
                  refine x_goto dX3_foldAtLevel_104 ?_
                  refine x_kill 4 (x_kill 5 ?_)
                  first | exact hkeep _ (by omega) (by omega) hP | exact hset _ 0 (by omega) (by omega) (by omega) hP | exact hset _ 1 (by omega) (by omega) (by omega) hP
          · rw [hhas (by omega)] at c63
            refine x_iconst dX3_foldAtLevel_66 ?_
            refine x_goto dX3_foldAtLevel_67 ?_
            refine x_istore dX3_foldAtLevel_71 rfl rfl rfl ?_
            refine x_iload dX3_foldAtLevel_73 rfl ?_
            refine x_if_ne dX3_foldAtLevel_75 ⟨by omega, by omega⟩ (fun c75 => ?_) (fun c75 => ?_)
            · refine x_aload_n dX3_foldAtLevel_83 rfl ?_
              refine s_get dX3_foldAtLevel_84 fX3_18 hP rfl ?_
              refine x_iload_n dX3_foldAtLevel_87 rfl ?_
              refine x_iload dX3_foldAtLevel_88 rfl ?_
              refine x_if_eq dX3_foldAtLevel_90 ⟨by omega, by omega⟩ (fun c90 => ?_) (fun c90 => ?_)
              · refine x_iconst dX3_foldAtLevel_97 ?_
                refine s_iast dX3_foldAtLevel_98 hP rfl rfl ⟨by omega, by omega⟩ (fun h hP hF => ?_)
                refine x_iconst dX3_foldAtLevel_99 ?_
                refine x_istore_n dX3_foldAtLevel_100 rfl rfl rfl ?_
                refine x_iinc dX3_foldAtLevel_101 rfl rfl rfl ?_
                refine x_goto dX3_foldAtLevel_104 ?_
                refine x_kill 4 (x_kill 5 ?_)
                first | exact hkeep _ (by omega) (by omega) hP | exact hset _ 0 (by omega) (by omega) (by omega) hP | exact hset _ 1 (by omega) (by omega) (by omega) hP
              · refine x_iconst dX3_foldAtLevel_93 ?_
                refine x_goto dX3_foldAtLevel_94 ?_
                refine s_iast dX3_foldAtLevel_98 hP rfl rfl ⟨by omega, by omega⟩ (fun h hP hF => ?_)
                refine x_iconst dX3_foldAtLevel_99 ?_
                refine x_istore_n dX3_foldAtLevel_100 rfl rfl rfl ?_
                refine x_iinc dX3_foldAtLevel_101 rfl rfl rfl ?_
                refine x_goto dX3_foldAtLevel_104 ?_
                refine x_kill 4 (x_kill 5 ?_)
                first | exact hkeep _ (by omega) (by omega) hP | exact hset _ 0 (by omega) (by omega) (by omega) hP | exact hset _ 1 (by omega) (by omega) (by omega) hP
            · refine x_iload dX3_foldAtLevel_78 rfl ?_
              refine x_if_eq dX3_foldAtLevel_80 ⟨by omega, by omega⟩ (fun c80 => ?_) (fun c80 => ?_)
              · refine x_iinc dX3_foldAtLevel_101 rfl rfl rfl ?_
                refine x_goto dX3_foldAtLevel_104 ?_
                refine x_kill 4 (x_kill 5 ?_)
                first | exact hkeep _ (by omega) (by omega) hP | exact hset _ 0 (by omega) (by omega) (by omega) hP | exact hset _ 1 (by omega) (by omega) (by omega) hP
              · refine x_aload_n dX3_foldAtLevel_83 rfl ?_
                refine s_get dX3_foldAtLevel_84 fX3_18 hP rfl ?_
                refine x_iload_n dX3_foldAtLevel_87 rfl ?_
                refine x_iload dX3_foldAtLevel_88 rfl ?_
                refine x_if_eq dX3_foldAtLevel_90 ⟨by omega, by omega⟩ (fun c90 => ?_) (fun c90 => ?_)
                · refine x_iconst dX3_foldAtLevel_97 ?_
                  refine s_iast dX3_foldAtLevel_98 hP rfl rfl ⟨by omega, by omega⟩ (fun h hP hF => ?_)
                  refine x_iconst dX3_foldAtLevel_99 ?_
                  refine x_istore_n dX3_foldAtLevel_100 rfl rfl rfl ?_
                  refine x_iinc dX3_foldAtLevel_101 rfl rfl rfl ?_
                  refine x_goto dX3_foldAtLevel_104 ?_
                  refine x_kill 4 (x_kill 5 ?_)
                  first | exact hkeep _ (by omega) (by omega) hP | exact hset _ 0 (by omega) (by omega) (by omega) hP | exact hset _ 1 (by omega) (by omega) (by omega) hP
                · refine x_iconst dX3_foldAtLevel_93 ?_
                  refine x_goto dX3_foldAtLevel_94 ?_
                  refine s_iast dX3_foldAtLevel_98 hP rfl rfl ⟨by omega, by omega⟩ (fun h hP hF => ?_)
                  refine x_iconst dX3_foldAtLevel_99 ?_
                  refine x_istore_n dX3_foldAtLevel_100 rfl rfl rfl ?_
                  refine x_iinc dX3_foldAtLevel_101 rfl rfl rfl ?_
                  refine x_goto dX3_foldAtLevel_104 ?_
                  refine x_kill 4 (x_kill 5 ?_)
                  first | exact hkeep _ (by omega) (by omega) hP | exact hset _ 0 (by omega) (by omega) (by omega) hP | exact hset _ 1 (by omega) (by omega) (by omega) hP
    · refine x_aload_n dX3_foldAtLevel_22 rfl ?_
      refine s_get dX3_foldAtLevel_23 fX3_18 hP rfl ?_
      refine x_iload_n dX3_foldAtLevel_26 rfl ?_
      refine s_iald dX3_foldAtLevel_27 hP rfl rfl ⟨by omega, by omega⟩ ?_
      refine x_iconst dX3_foldAtLevel_28 ?_
      refine x_icmp_ne dX3_foldAtLevel_29 ⟨by omega, by omega⟩ ⟨by omega, by omega⟩ (fun c29 => ?_) (fun c29 => ?_)
      · refine x_iconst dX3_foldAtLevel_36 ?_
        refine x_istore dX3_foldAtLevel_37 rfl rfl rfl ?_
        refine x_aload_n dX3_foldAtLevel_39 rfl ?_
        refine s_get dX3_foldAtLevel_40 fX3_15 hP rfl ?_
        refine x_iload_n dX3_foldAtLevel_43 rfl ?_
        refine s_iald dX3_foldAtLevel_44 hP rfl rfl ⟨by omega, by omega⟩ ?_
        refine x_iload_n dX3_foldAtLevel_45 rfl ?_
        refine x_icmp_ne dX3_foldAtLevel_46 ⟨by omega, by omega⟩ ⟨by omega, by omega⟩ (fun c46 => ?_) (fun c46 => ?_)
        · refine x_iconst dX3_foldAtLevel_70 ?_
          refine x_istore dX3_foldAtLevel_71 rfl rfl rfl ?_
          refine x_iload dX3_foldAtLevel_73 rfl ?_
          refine x_if_ne dX3_foldAtLevel_75 ⟨by omega, by omega⟩ (fun c75 => ?_) (fun c75 => ?_)
          · refine x_aload_n dX3_foldAtLevel_83 rfl ?_
            refine s_get dX3_foldAtLevel_84 fX3_18 hP rfl ?_
            refine x_iload_n dX3_foldAtLevel_87 rfl ?_
            refine x_iload dX3_foldAtLevel_88 rfl ?_
            refine x_if_eq dX3_foldAtLevel_90 ⟨by omega, by omega⟩ (fun c90 => ?_) (fun c90 => ?_)
            · refine x_iconst dX3_foldAtLevel_97 ?_
              refine s_iast dX3_foldAtLevel_98 hP rfl rfl ⟨by omega, by omega⟩ (fun h hP hF => ?_)
              refine x_iconst dX3_foldAtLevel_99 ?_
              refine x_istore_n dX3_foldAtLevel_100 rfl rfl rfl ?_
              refine x_iinc dX3_foldAtLevel_101 rfl rfl rfl ?_
              refine x_goto dX3_foldAtLevel_104 ?_
              refine x_kill 4 (x_kill 5 ?_)
              first | exact hkeep _ (by omega) (by omega) hP | exact hset _ 0 (by omega) (by omega) (by omega) hP | exact hset _ 1 (by omega) (by omega) (by omega) hP
            · refine x_iconst dX3_foldAtLevel_93 ?_
              refine x_goto dX3_foldAtLevel_94 ?_
              refine s_iast dX3_foldAtLevel_98 hP rfl rfl ⟨by omega, by omega⟩ (fun h hP hF => ?_)
              refine x_iconst dX3_foldAtLevel_99 ?_
              refine x_istore_n dX3_foldAtLevel_100 rfl rfl rfl ?_
              refine x_iinc dX3_foldAtLevel_101 rfl rfl rfl ?_
              refine x_goto dX3_foldAtLevel_104 ?_
              refine x_kill 4 (x_kill 5 ?_)
              first | exact hkeep _ (by omega) (by omega) hP | exact hset _ 0 (by omega) (by omega) (by omega) hP | exact hset _ 1 (by omega) (by omega) (by omega) hP
          · refine x_iload dX3_foldAtLevel_78 rfl ?_
            refine x_if_eq dX3_foldAtLevel_80 ⟨by omega, by omega⟩ (fun c80 => ?_) (fun c80 => ?_)
            · refine x_iinc dX3_foldAtLevel_101 rfl rfl rfl ?_
              refine x_goto dX3_foldAtLevel_104 ?_
              refine x_kill 4 (x_kill 5 ?_)
              first | exact hkeep _ (by omega) (by omega) hP | exact hset _ 0 (by omega) (by omega) (by omega) hP | exact hset _ 1 (by omega) (by omega) (by omega) hP
            · refine x_aload_n dX3_foldAtLevel_83 rfl ?_
              refine s_get dX3_foldAtLevel_84 fX3_18 hP rfl ?_
              refine x_iload_n dX3_foldAtLevel_87 rfl ?_
              refine x_iload dX3_foldAtLevel_88 rfl ?_
              refine x_if_eq dX3_foldAtLevel_90 ⟨by omega, by omega⟩ (fun c90 => ?_) (fun c90 => ?_)
              · refine x_iconst dX3_foldAtLevel_97 ?_
                refine s_iast dX3_foldAtLevel_98 hP rfl rfl ⟨by omega, by omega⟩ (fun h hP hF => ?_)
                refine x_iconst dX3_foldAtLevel_99 ?_
                refine x_istore_n dX3_foldAtLevel_100 rfl rfl rfl ?_
                refine x_iinc dX3_foldAtLevel_101 rfl rfl rfl ?_
                refine x_goto dX3_foldAtLevel_104 ?_
                refine x_kill 4 (x_kill 5 ?_)
                first | exact hkeep _ (by omega) (by omega) hP | exact hset _ 0 (by omega) (by omega) (by omega) hP | exact hset _ 1 (by omega) (by omega) (by omega) hP
              · refine x_iconst dX3_foldAtLevel_93 ?_
                refine x_goto dX3_foldAtLevel_94 ?_
                refine s_iast dX3_foldAtLevel_98 hP rfl rfl ⟨by omega, by omega⟩ (fun h hP hF => ?_)
                refine x_iconst dX3_foldAtLevel_99 ?_
                refine x_istore_n dX3_foldAtLevel_100 rfl rfl rfl ?_
                refine x_iinc dX3_foldAtLevel_101 rfl rfl rfl ?_
                refine x_goto dX3_foldAtLevel_104 ?_
                refine x_kill 4 (x_kill 5 ?_)
                first | exact hkeep _ (by omega) (by omega) hP | exact hset _ 0 (by omega) (by omega) (by omega) hP | exact hset _ 1 (by omega) (by omega) (by omega) hP
        · refine x_aload_n dX3_foldAtLevel_49 rfl ?_
          refine s_get dX3_foldAtLevel_50 fX3_18 hP rfl ?_
          refine x_iload_n dX3_foldAtLevel_53 rfl ?_
          refine s_iald dX3_foldAtLevel_54 hP rfl rfl ⟨by omega, by omega⟩ ?_
          refine x_if_ne dX3_foldAtLevel_55 ⟨by omega, by omega⟩ (fun c55 => ?_) (fun c55 => ?_)
          · refine x_iconst dX3_foldAtLevel_70 ?_
            refine x_istore dX3_foldAtLevel_71 rfl rfl rfl ?_
            refine x_iload dX3_foldAtLevel_73 rfl ?_
            refine x_if_ne dX3_foldAtLevel_75 ⟨by omega, by omega⟩ (fun c75 => ?_) (fun c75 => ?_)
            · refine x_aload_n dX3_foldAtLevel_83 rfl ?_
              refine s_get dX3_foldAtLevel_84 fX3_18 hP rfl ?_
              refine x_iload_n dX3_foldAtLevel_87 rfl ?_
              refine x_iload dX3_foldAtLevel_88 rfl ?_
              refine x_if_eq dX3_foldAtLevel_90 ⟨by omega, by omega⟩ (fun c90 => ?_) (fun c90 => ?_)
              · refine x_iconst dX3_foldAtLevel_97 ?_
                refine s_iast dX3_foldAtLevel_98 hP rfl rfl ⟨by omega, by omega⟩ (fun h hP hF => ?_)
                refine x_iconst dX3_foldAtLevel_99 ?_
                refine x_istore_n dX3_foldAtLevel_100 rfl rfl rfl ?_
                refine x_iinc dX3_foldAtLevel_101 rfl rfl rfl ?_
                refine x_goto dX3_foldAtLevel_104 ?_
                refine x_kill 4 (x_kill 5 ?_)
                first | exact hkeep _ (by omega) (by omega) hP | exact hset _ 0 (by omega) (by omega) (by omega) hP | exact hset _ 1 (by omega) (by omega) (by omega) hP
              · refine x_iconst dX3_foldAtLevel_93 ?_
                refine x_goto dX3_foldAtLevel_94 ?_
                refine s_iast dX3_foldAtLevel_98 hP rfl rfl ⟨by omega, by omega⟩ (fun h hP hF => ?_)
                refine x_iconst dX3_foldAtLevel_99 ?_
                refine x_istore_n dX3_foldAtLevel_100 rfl rfl rfl ?_
                refine x_iinc dX3_foldAtLevel_101 rfl rfl rfl ?_
                refine x_goto dX3_foldAtLevel_104 ?_
                refine x_kill 4 (x_kill 5 ?_)
                first | exact hkeep _ (by omega) (by omega) hP | exact hset _ 0 (by omega) (by omega) (by omega) hP | exact hset _ 1 (by omega) (by omega) (by omega) hP
            · refine x_iload dX3_foldAtLevel_78 rfl ?_
              refine x_if_eq dX3_foldAtLevel_80 ⟨by omega, by omega⟩ (fun c80 => ?_) (fun c80 => ?_)
              · refine x_iinc dX3_foldAtLevel_101 rfl rfl rfl ?_
                refine x_goto dX3_foldAtLevel_104 ?_
                refine x_kill 4 (x_kill 5 ?_)
                first | exact hkeep _ (by omega) (by omega) hP | exact hset _ 0 (by omega) (by omega) (by omega) hP | exact hset _ 1 (by omega) (by omega) (by omega) hP
              · refine x_aload_n dX3_foldAtLevel_83 rfl ?_
                refine s_get dX3_foldAtLevel_84 fX3_18 hP rfl ?_
                refine x_iload_n dX3_foldAtLevel_87 rfl ?_
                refine x_iload dX3_foldAtLevel_88 rfl ?_
                refine x_if_eq dX3_foldAtLevel_90 ⟨by omega, by omega⟩ (fun c90 => ?_) (fun c90 => ?_)
                · refine x_iconst dX3_foldAtLevel_97 ?_
                  refine s_iast dX3_foldAtLevel_98 hP rfl rfl ⟨by omega, by omega⟩ (fun h hP hF => ?_)
                  refine x_iconst dX3_foldAtLevel_99 ?_
                  refine x_istore_n dX3_foldAtLevel_100 rfl rfl rfl ?_
                  refine x_iinc dX3_foldAtLevel_101 rfl rfl rfl ?_
                  refine x_goto dX3_foldAtLevel_104 ?_
                  refine x_kill 4 (x_kill 5 ?_)
                  first | exact hkeep _ (by omega) (by omega) hP | exact hset _ 0 (by omega) (by omega) (by omega) hP | exact hset _ 1 (by omega) (by omega) (by omega) hP
                · refine x_iconst dX3_foldAtLevel_93 ?_
                  refine x_goto dX3_foldAtLevel_94 ?_
                  refine s_iast dX3_foldAtLevel_98 hP rfl rfl ⟨by omega, by omega⟩ (fun h hP hF => ?_)
                  refine x_iconst dX3_foldAtLevel_99 ?_
                  refine x_istore_n dX3_foldAtLevel_100 rfl rfl rfl ?_
                  refine x_iinc dX3_foldAtLevel_101 rfl rfl rfl ?_
                  refine x_goto dX3_foldAtLevel_104 ?_
                  refine x_kill 4 (x_kill 5 ?_)
                  first | exact hkeep _ (by omega) (by omega) hP | exact hset _ 0 (by omega) (by omega) (by omega) hP | exact hset _ 1 (by omega) (by omega) (by omega) hP
          · refine x_aload_n dX3_foldAtLevel_58 rfl ?_
            refine x_iload_n dX3_foldAtLevel_59 rfl ?_
            refine p_V dX3_foldAtLevel_60 lX3_58 (c_X3_hasChildren sz (hPl1 (by omega)) (z := i) (by omega) (by rw [pFL_len]; omega)) hP.1 rfl rfl rfl rfl (by decide) ?_
            refine x_ifB_eq dX3_foldAtLevel_63 (fun c63 => ?_) (fun c63 => ?_)
            · rw [hhas (by omega)] at c63
              refine x_iconst dX3_foldAtLevel_70 ?_
              refine x_istore dX3_foldAtLevel_71 rfl rfl rfl ?_
              refine x_iload dX3_foldAtLevel_73 rfl ?_
              refine x_if_ne dX3_foldAtLevel_75 ⟨by omega, by omega⟩ (fun c75 => ?_) (fun c75 => ?_)
              · refine x_aload_n dX3_foldAtLevel_83 rfl ?_
                refine s_get dX3_foldAtLevel_84 fX3_18 hP rfl ?_
                refine x_iload_n dX3_foldAtLevel_87 rfl ?_
                refine x_iload dX3_foldAtLevel_88 rfl ?_
                refine x_if_eq dX3_foldAtLevel_90 ⟨by omega, by omega⟩ (fun c90 => ?_) (fun c90 => ?_)
                · refine x_iconst dX3_foldAtLevel_97 ?_
                  refine s_iast dX3_foldAtLevel_98 hP rfl rfl ⟨by omega, by omega⟩ (fun h hP hF => ?_)
                  refine x_iconst dX3_foldAtLevel_99 ?_
                  refine x_istore_n dX3_foldAtLevel_100 rfl rfl rfl ?_
                  refine x_iinc dX3_foldAtLevel_101 rfl rfl rfl ?_
                  refine x_goto dX3_foldAtLevel_104 ?_
                  refine x_kill 4 (x_kill 5 ?_)
                  first | exact hkeep _ (by omega) (by omega) hP | exact hset _ 0 (by omega) (by omega) (by omega) hP | exact hset _ 1 (by omega) (by omega) (by omega) hP
                · refine x_iconst dX3_foldAtLevel_93 ?_
                  refine x_goto dX3_foldAtLevel_94 ?_
                  refine s_iast dX3_foldAtLevel_98 hP rfl rfl ⟨by omega, by omega⟩ (fun h hP hF => ?_)
                  refine x_iconst dX3_foldAtLevel_99 ?_
                  refine x_istore_n dX3_foldAtLevel_100 rfl rfl rfl ?_
                  refine x_iinc dX3_foldAtLevel_101 rfl rfl rfl ?_
                  refine x_goto dX3_foldAtLevel_104 ?_
                  refine x_kill 4 (x_kill 5 ?_)
                  first | exact hkeep _ (by omega) (by omega) hP | exact hset _ 0 (by omega) (by omega) (by omega) hP | exact hset _ 1 (by omega) (by omega) (by omega) hP
              · refine x_iload dX3_foldAtLevel_78 rfl ?_
                refine x_if_eq dX3_foldAtLevel_80 ⟨by omega, by omega⟩ (fun c80 => ?_) (fun c80 => ?_)
                · refine x_iinc dX3_foldAtLevel_101 rfl rfl rfl ?_
                  refine x_goto dX3_foldAtLevel_104 ?_
                  refine x_kill 4 (x_kill 5 ?_)
                  first | exact hkeep _ (by omega) (by omega) hP | exact hset _ 0 (by omega) (by omega) (by omega) hP | exact hset _ 1 (by omega) (by omega) (by omega) hP
                · refine x_aload_n dX3_foldAtLevel_83 rfl ?_
                  refine s_get dX3_foldAtLevel_84 fX3_18 hP rfl ?_
                  refine x_iload_n dX3_foldAtLevel_87 rfl ?_
                  refine x_iload dX3_foldAtLevel_88 rfl ?_
                  refine x_if_eq dX3_foldAtLevel_90 ⟨by omega, by omega⟩ (fun c90 => ?_) (fun c90 => ?_)
                  · refine x_iconst dX3_foldAtLevel_97 ?_
                    refine s_iast dX3_foldAtLevel_98 hP rfl rfl ⟨by omega, by omega⟩ (fun h hP hF => ?_)
                    refine x_iconst dX3_foldAtLevel_99 ?_
                    refine x_istore_n dX3_foldAtLevel_100 rfl rfl rfl ?_
                    refine x_iinc dX3_foldAtLevel_101 rfl rfl rfl ?_
                    refine x_goto dX3_foldAtLevel_104 ?_
                    refine x_kill 4 (x_kill 5 ?_)
                    first | exact hkeep _ (by omega) (by omega) hP | exact hset _ 0 (by omega) (by omega) (by omega) hP | exact hset _ 1 (by omega) (by omega) (by omega) hP
                  · refine x_iconst dX3_foldAtLevel_93 ?_
                    refine x_goto dX3_foldAtLevel_94 ?_
                    refine s_iast dX3_foldAtLevel_98 hP rfl rfl ⟨by omega, by omega⟩ (fun h hP hF => ?_)
                    refine x_iconst dX3_foldAtLevel_99 ?_
                    refine x_istore_n dX3_foldAtLevel_100 rfl rfl rfl ?_
                    refine x_iinc dX3_foldAtLevel_101 rfl rfl rfl ?_
                    refine x_goto dX3_foldAtLevel_104 ?_
                    refine x_kill 4 (x_kill 5 ?_)
                    first | exact hkeep _ (by omega) (by omega) hP | exact hset _ 0 (by omega) (by omega) (by omega) hP | exact hset _ 1 (by omega) (by omega) (by omega) hP
            · rw [hhas (by omega)] at c63
              refine x_iconst dX3_foldAtLevel_66 ?_
              refine x_goto dX3_foldAtLevel_67 ?_
              refine x_istore dX3_foldAtLevel_71 rfl rfl rfl ?_
              refine x_iload dX3_foldAtLevel_73 rfl ?_
              refine x_if_ne dX3_foldAtLevel_75 ⟨by omega, by omega⟩ (fun c75 => ?_) (fun c75 => ?_)
              · refine x_aload_n dX3_foldAtLevel_83 rfl ?_
                refine s_get dX3_foldAtLevel_84 fX3_18 hP rfl ?_
                refine x_iload_n dX3_foldAtLevel_87 rfl ?_
                refine x_iload dX3_foldAtLevel_88 rfl ?_
                refine x_if_eq dX3_foldAtLevel_90 ⟨by omega, by omega⟩ (fun c90 => ?_) (fun c90 => ?_)
                · refine x_iconst dX3_foldAtLevel_97 ?_
                  refine s_iast dX3_foldAtLevel_98 hP rfl rfl ⟨by omega, by omega⟩ (fun h hP hF => ?_)
                  refine x_iconst dX3_foldAtLevel_99 ?_
                  refine x_istore_n dX3_foldAtLevel_100 rfl rfl rfl ?_
                  refine x_iinc dX3_foldAtLevel_101 rfl rfl rfl ?_
                  refine x_goto dX3_foldAtLevel_104 ?_
                  refine x_kill 4 (x_kill 5 ?_)
                  first | exact hkeep _ (by omega) (by omega) hP | exact hset _ 0 (by omega) (by omega) (by omega) hP | exact hset _ 1 (by omega) (by omega) (by omega) hP
                · refine x_iconst dX3_foldAtLevel_93 ?_
                  refine x_goto dX3_foldAtLevel_94 ?_
                  refine s_iast dX3_foldAtLevel_98 hP rfl rfl ⟨by omega, by omega⟩ (fun h hP hF => ?_)
                  refine x_iconst dX3_foldAtLevel_99 ?_
                  refine x_istore_n dX3_foldAtLevel_100 rfl rfl rfl ?_
                  refine x_iinc dX3_foldAtLevel_101 rfl rfl rfl ?_
                  refine x_goto dX3_foldAtLevel_104 ?_
                  refine x_kill 4 (x_kill 5 ?_)
                  first | exact hkeep _ (by omega) (by omega) hP | exact hset _ 0 (by omega) (by omega) (by omega) hP | exact hset _ 1 (by omega) (by omega) (by omega) hP
              · refine x_iload dX3_foldAtLevel_78 rfl ?_
                refine x_if_eq dX3_foldAtLevel_80 ⟨by omega, by omega⟩ (fun c80 => ?_) (fun c80 => ?_)
                · refine x_iinc dX3_foldAtLevel_101 rfl rfl rfl ?_
                  refine x_goto dX3_foldAtLevel_104 ?_
                  refine x_kill 4 (x_kill 5 ?_)
                  first | exact hkeep _ (by omega) (by omega) hP | exact hset _ 0 (by omega) (by omega) (by omega) hP | exact hset _ 1 (by omega) (by omega) (by omega) hP
                · refine x_aload_n dX3_foldAtLevel_83 rfl ?_
                  refine s_get dX3_foldAtLevel_84 fX3_18 hP rfl ?_
                  refine x_iload_n dX3_foldAtLevel_87 rfl ?_
                  refine x_iload dX3_foldAtLevel_88 rfl ?_
                  refine x_if_eq dX3_foldAtLevel_90 ⟨by omega, by omega⟩ (fun c90 => ?_) (fun c90 => ?_)
                  · refine x_iconst dX3_foldAtLevel_97 ?_
                    refine s_iast dX3_foldAtLevel_98 hP rfl rfl ⟨by omega, by omega⟩ (fun h hP hF => ?_)
                    refine x_iconst dX3_foldAtLevel_99 ?_
                    refine x_istore_n dX3_foldAtLevel_100 rfl rfl rfl ?_
                    refine x_iinc dX3_foldAtLevel_101 rfl rfl rfl ?_
                    refine x_goto dX3_foldAtLevel_104 ?_
                    refine x_kill 4 (x_kill 5 ?_)
                    first | exact hkeep _ (by omega) (by omega) hP | exact hset _ 0 (by omega) (by omega) (by omega) hP | exact hset _ 1 (by omega) (by omega) (by omega) hP
                  · refine x_iconst dX3_foldAtLevel_93 ?_
                    refine x_goto dX3_foldAtLevel_94 ?_
                    refine s_iast dX3_foldAtLevel_98 hP rfl rfl ⟨by omega, by omega⟩ (fun h hP hF => ?_)
                    refine x_iconst dX3_foldAtLevel_99 ?_
                    refine x_istore_n dX3_foldAtLevel_100 rfl rfl rfl ?_
                    refine x_iinc dX3_foldAtLevel_101 rfl rfl rfl ?_
                    refine x_goto dX3_foldAtLevel_104 ?_
                    refine x_kill 4 (x_kill 5 ?_)
                    first | exact hkeep _ (by omega) (by omega) hP | exact hset _ 0 (by omega) (by omega) (by omega) hP | exact hset _ 1 (by omega) (by omega) (by omega) hP
      · refine x_iconst dX3_foldAtLevel_32 ?_
        refine x_goto dX3_foldAtLevel_33 ?_
        refine x_istore dX3_foldAtLevel_37 rfl rfl rfl ?_
        refine x_aload_n dX3_foldAtLevel_39 rfl ?_
        refine s_get dX3_foldAtLevel_40 fX3_15 hP rfl ?_
        refine x_iload_n dX3_foldAtLevel_43 rfl ?_
        refine s_iald dX3_foldAtLevel_44 hP rfl rfl ⟨by omega, by omega⟩ ?_
        refine x_iload_n dX3_foldAtLevel_45 rfl ?_
        refine x_icmp_ne dX3_foldAtLevel_46 ⟨by omega, by omega⟩ ⟨by omega, by omega⟩ (fun c46 => ?_) (fun c46 => ?_)
        · refine x_iconst dX3_foldAtLevel_70 ?_
          refine x_istore dX3_foldAtLevel_71 rfl rfl rfl ?_
          refine x_iload dX3_foldAtLevel_73 rfl ?_
          refine x_if_ne dX3_foldAtLevel_75 ⟨by omega, by omega⟩ (fun c75 => ?_) (fun c75 => ?_)
          · refine x_aload_n dX3_foldAtLevel_83 rfl ?_
            refine s_get dX3_foldAtLevel_84 fX3_18 hP rfl ?_
            refine x_iload_n dX3_foldAtLevel_87 rfl ?_
            refine x_iload dX3_foldAtLevel_88 rfl ?_
            refine x_if_eq dX3_foldAtLevel_90 ⟨by omega, by omega⟩ (fun c90 => ?_) (fun c90 => ?_)
            · refine x_iconst dX3_foldAtLevel_97 ?_
              refine s_iast dX3_foldAtLevel_98 hP rfl rfl ⟨by omega, by omega⟩ (fun h hP hF => ?_)
              refine x_iconst dX3_foldAtLevel_99 ?_
              refine x_istore_n dX3_foldAtLevel_100 rfl rfl rfl ?_
              refine x_iinc dX3_foldAtLevel_101 rfl rfl rfl ?_
              refine x_goto dX3_foldAtLevel_104 ?_
              refine x_kill 4 (x_kill 5 ?_)
              first | exact hkeep _ (by omega) (by omega) hP | exact hset _ 0 (by omega) (by omega) (by omega) hP | exact hset _ 1 (by omega) (by omega) (by omega) hP
            · refine x_iconst dX3_foldAtLevel_93 ?_
              refine x_goto dX3_foldAtLevel_94 ?_
              refine s_iast dX3_foldAtLevel_98 hP rfl rfl ⟨by omega, by omega⟩ (fun h hP hF => ?_)
              refine x_iconst dX3_foldAtLevel_99 ?_
              refine x_istore_n dX3_foldAtLevel_100 rfl rfl rfl ?_
              refine x_iinc dX3_foldAtLevel_101 rfl rfl rfl ?_
              refine x_goto dX3_foldAtLevel_104 ?_
              refine x_kill 4 (x_kill 5 ?_)
              first | exact hkeep _ (by omega) (by omega) hP | exact hset _ 0 (by omega) (by omega) (by omega) hP | exact hset _ 1 (by omega) (by omega) (by omega) hP
          · refine x_iload dX3_foldAtLevel_78 rfl ?_
            refine x_if_eq dX3_foldAtLevel_80 ⟨by omega, by omega⟩ (fun c80 => ?_) (fun c80 => ?_)
            · refine x_iinc dX3_foldAtLevel_101 rfl rfl rfl ?_
              refine x_goto dX3_foldAtLevel_104 ?_
              refine x_kill 4 (x_kill 5 ?_)
              first | exact hkeep _ (by omega) (by omega) hP | exact hset _ 0 (by omega) (by omega) (by omega) hP | exact hset _ 1 (by omega) (by omega) (by omega) hP
            · refine x_aload_n dX3_foldAtLevel_83 rfl ?_
              refine s_get dX3_foldAtLevel_84 fX3_18 hP rfl ?_
              refine x_iload_n dX3_foldAtLevel_87 rfl ?_
              refine x_iload dX3_foldAtLevel_88 rfl ?_
              refine x_if_eq dX3_foldAtLevel_90 ⟨by omega, by omega⟩ (fun c90 => ?_) (fun c90 => ?_)
              · refine x_iconst dX3_foldAtLevel_97 ?_
                refine s_iast dX3_foldAtLevel_98 hP rfl rfl ⟨by omega, by omega⟩ (fun h hP hF => ?_)
                refine x_iconst dX3_foldAtLevel_99 ?_
                refine x_istore_n dX3_foldAtLevel_100 rfl rfl rfl ?_
                refine x_iinc dX3_foldAtLevel_101 rfl rfl rfl ?_
                refine x_goto dX3_foldAtLevel_104 ?_
                refine x_kill 4 (x_kill 5 ?_)
                first | exact hkeep _ (by omega) (by omega) hP | exact hset _ 0 (by omega) (by omega) (by omega) hP | exact hset _ 1 (by omega) (by omega) (by omega) hP
              · refine x_iconst dX3_foldAtLevel_93 ?_
                refine x_goto dX3_foldAtLevel_94 ?_
                refine s_iast dX3_foldAtLevel_98 hP rfl rfl ⟨by omega, by omega⟩ (fun h hP hF => ?_)
                refine x_iconst dX3_foldAtLevel_99 ?_
                refine x_istore_n dX3_foldAtLevel_100 rfl rfl rfl ?_
                refine x_iinc dX3_foldAtLevel_101 rfl rfl rfl ?_
                refine x_goto dX3_foldAtLevel_104 ?_
                refine x_kill 4 (x_kill 5 ?_)
                first | exact hkeep _ (by omega) (by omega) hP | exact hset _ 0 (by omega) (by omega) (by omega) hP | exact hset _ 1 (by omega) (by omega) (by omega) hP
        · refine x_aload_n dX3_foldAtLevel_49 rfl ?_
          refine s_get dX3_foldAtLevel_50 fX3_18 hP rfl ?_
          refine x_iload_n dX3_foldAtLevel_53 rfl ?_
          refine s_iald dX3_foldAtLevel_54 hP rfl rfl ⟨by omega, by omega⟩ ?_
          refine x_if_ne dX3_foldAtLevel_55 ⟨by omega, by omega⟩ (fun c55 => ?_) (fun c55 => ?_)
          · refine x_iconst dX3_foldAtLevel_70 ?_
            refine x_istore dX3_foldAtLevel_71 rfl rfl rfl ?_
            refine x_iload dX3_foldAtLevel_73 rfl ?_
            refine x_if_ne dX3_foldAtLevel_75 ⟨by omega, by omega⟩ (fun c75 => ?_) (fun c75 => ?_)
            · refine x_aload_n dX3_foldAtLevel_83 rfl ?_
              refine s_get dX3_foldAtLevel_84 fX3_18 hP rfl ?_
              refine x_iload_n dX3_foldAtLevel_87 rfl ?_
              refine x_iload dX3_foldAtLevel_88 rfl ?_
              refine x_if_eq dX3_foldAtLevel_90 ⟨by omega, by omega⟩ (fun c90 => ?_) (fun c90 => ?_)
              · refine x_iconst dX3_foldAtLevel_97 ?_
                refine s_iast dX3_foldAtLevel_98 hP rfl rfl ⟨by omega, by omega⟩ (fun h hP hF => ?_)
                refine x_iconst dX3_foldAtLevel_99 ?_
                refine x_istore_n dX3_foldAtLevel_100 rfl rfl rfl ?_
                refine x_iinc dX3_foldAtLevel_101 rfl rfl rfl ?_
                refine x_goto dX3_foldAtLevel_104 ?_
                refine x_kill 4 (x_kill 5 ?_)
                first | exact hkeep _ (by omega) (by omega) hP | exact hset _ 0 (by omega) (by omega) (by omega) hP | exact hset _ 1 (by omega) (by omega) (by omega) hP
              · refine x_iconst dX3_foldAtLevel_93 ?_
                refine x_goto dX3_foldAtLevel_94 ?_
                refine s_iast dX3_foldAtLevel_98 hP rfl rfl ⟨by omega, by omega⟩ (fun h hP hF => ?_)
                refine x_iconst dX3_foldAtLevel_99 ?_
                refine x_istore_n dX3_foldAtLevel_100 rfl rfl rfl ?_
                refine x_iinc dX3_foldAtLevel_101 rfl rfl rfl ?_
                refine x_goto dX3_foldAtLevel_104 ?_
                refine x_kill 4 (x_kill 5 ?_)
                first | exact hkeep _ (by omega) (by omega) hP | exact hset _ 0 (by omega) (by omega) (by omega) hP | exact hset _ 1 (by omega) (by omega) (by omega) hP
            · refine x_iload dX3_foldAtLevel_78 rfl ?_
              refine x_if_eq dX3_foldAtLevel_80 ⟨by omega, by omega⟩ (fun c80 => ?_) (fun c80 => ?_)
              · refine x_iinc dX3_foldAtLevel_101 rfl rfl rfl ?_
                refine x_goto dX3_foldAtLevel_104 ?_
                refine x_kill 4 (x_kill 5 ?_)
                first | exact hkeep _ (by omega) (by omega) hP | exact hset _ 0 (by omega) (by omega) (by omega) hP | exact hset _ 1 (by omega) (by omega) (by omega) hP
              · refine x_aload_n dX3_foldAtLevel_83 rfl ?_
                refine s_get dX3_foldAtLevel_84 fX3_18 hP rfl ?_
                refine x_iload_n dX3_foldAtLevel_87 rfl ?_
                refine x_iload dX3_foldAtLevel_88 rfl ?_
                refine x_if_eq dX3_foldAtLevel_90 ⟨by omega, by omega⟩ (fun c90 => ?_) (fun c90 => ?_)
                · refine x_iconst dX3_foldAtLevel_97 ?_
                  refine s_iast dX3_foldAtLevel_98 hP rfl rfl ⟨by omega, by omega⟩ (fun h hP hF => ?_)
                  refine x_iconst dX3_foldAtLevel_99 ?_
                  refine x_istore_n dX3_foldAtLevel_100 rfl rfl rfl ?_
                  refine x_iinc dX3_foldAtLevel_101 rfl rfl rfl ?_
                  refine x_goto dX3_foldAtLevel_104 ?_
                  refine x_kill 4 (x_kill 5 ?_)
                  first | exact hkeep _ (by omega) (by omega) hP | exact hset _ 0 (by omega) (by omega) (by omega) hP | exact hset _ 1 (by omega) (by omega) (by omega) hP
                · refine x_iconst dX3_foldAtLevel_93 ?_
                  refine x_goto dX3_foldAtLevel_94 ?_
                  refine s_iast dX3_foldAtLevel_98 hP rfl rfl ⟨by omega, by omega⟩ (fun h hP hF => ?_)
                  refine x_iconst dX3_foldAtLevel_99 ?_
                  refine x_istore_n dX3_foldAtLevel_100 rfl rfl rfl ?_
                  refine x_iinc dX3_foldAtLevel_101 rfl rfl rfl ?_
                  refine x_goto dX3_foldAtLevel_104 ?_
                  refine x_kill 4 (x_kill 5 ?_)
                  first | exact hkeep _ (by omega) (by omega) hP | exact hset _ 0 (by omega) (by omega) (by omega) hP | exact hset _ 1 (by omega) (by omega) (by omega) hP
          · refine x_aload_n dX3_foldAtLevel_58 rfl ?_
            refine x_iload_n dX3_foldAtLevel_59 rfl ?_
            refine p_V dX3_foldAtLevel_60 lX3_58 (c_X3_hasChildren sz (hPl1 (by omega)) (z := i) (by omega) (by rw [pFL_len]; omega)) hP.1 rfl rfl rfl rfl (by decide) ?_
            refine x_ifB_eq dX3_foldAtLevel_63 (fun c63 => ?_) (fun c63 => ?_)
            · rw [hhas (by omega)] at c63
              refine x_iconst dX3_foldAtLevel_70 ?_
              refine x_istore dX3_foldAtLevel_71 rfl rfl rfl ?_
              refine x_iload dX3_foldAtLevel_73 rfl ?_
              refine x_if_ne dX3_foldAtLevel_75 ⟨by omega, by omega⟩ (fun c75 => ?_) (fun c75 => ?_)
              · refine x_aload_n dX3_foldAtLevel_83 rfl ?_
                refine s_get dX3_foldAtLevel_84 fX3_18 hP rfl ?_
                refine x_iload_n dX3_foldAtLevel_87 rfl ?_
                refine x_iload dX3_foldAtLevel_88 rfl ?_
                refine x_if_eq dX3_foldAtLevel_90 ⟨by omega, by omega⟩ (fun c90 => ?_) (fun c90 => ?_)
                · refine x_iconst dX3_foldAtLevel_97 ?_
                  refine s_iast dX3_foldAtLevel_98 hP rfl rfl ⟨by omega, by omega⟩ (fun h hP hF => ?_)
                  refine x_iconst dX3_foldAtLevel_99 ?_
                  refine x_istore_n dX3_foldAtLevel_100 rfl rfl rfl ?_
                  refine x_iinc dX3_foldAtLevel_101 rfl rfl rfl ?_
                  refine x_goto dX3_foldAtLevel_104 ?_
                  refine x_kill 4 (x_kill 5 ?_)
                  first | exact hkeep _ (by omega) (by omega) hP | exact hset _ 0 (by omega) (by omega) (by omega) hP | exact hset _ 1 (by omega) (by omega) (by omega) hP
                · refine x_iconst dX3_foldAtLevel_93 ?_
                  refine x_goto dX3_foldAtLevel_94 ?_
                  refine s_iast dX3_foldAtLevel_98 hP rfl rfl ⟨by omega, by omega⟩ (fun h hP hF => ?_)
                  refine x_iconst dX3_foldAtLevel_99 ?_
                  refine x_istore_n dX3_foldAtLevel_100 rfl rfl rfl ?_
                  refine x_iinc dX3_foldAtLevel_101 rfl rfl rfl ?_
                  refine x_goto dX3_foldAtLevel_104 ?_
                  refine x_kill 4 (x_kill 5 ?_)
                  first | exact hkeep _ (by omega) (by omega) hP | exact hset _ 0 (by omega) (by omega) (by omega) hP | exact hset _ 1 (by omega) (by omega) (by omega) hP
              · refine x_iload dX3_foldAtLevel_78 rfl ?_
                refine x_if_eq dX3_foldAtLevel_80 ⟨by omega, by omega⟩ (fun c80 => ?_) (fun c80 => ?_)
                · refine x_iinc dX3_foldAtLevel_101 rfl rfl rfl ?_
                  refine x_goto dX3_foldAtLevel_104 ?_
                  refine x_kill 4 (x_kill 5 ?_)
                  first | exact hkeep _ (by omega) (by omega) hP | exact hset _ 0 (by omega) (by omega) (by omega) hP | exact hset _ 1 (by omega) (by omega) (by omega) hP
                · refine x_aload_n dX3_foldAtLevel_83 rfl ?_
                  refine s_get dX3_foldAtLevel_84 fX3_18 hP rfl ?_
                  refine x_iload_n dX3_foldAtLevel_87 rfl ?_
                  refine x_iload dX3_foldAtLevel_88 rfl ?_
                  refine x_if_eq dX3_foldAtLevel_90 ⟨by omega, by omega⟩ (fun c90 => ?_) (fun c90 => ?_)
                  · refine x_iconst dX3_foldAtLevel_97 ?_
                    refine s_iast dX3_foldAtLevel_98 hP rfl rfl ⟨by omega, by omega⟩ (fun h hP hF => ?_)
                    refine x_iconst dX3_foldAtLevel_99 ?_
                    refine x_istore_n dX3_foldAtLevel_100 rfl rfl rfl ?_
                    refine x_iinc dX3_foldAtLevel_101 rfl rfl rfl ?_
                    refine x_goto dX3_foldAtLevel_104 ?_
                    refine x_kill 4 (x_kill 5 ?_)
                    first | exact hkeep _ (by omega) (by omega) hP | exact hset _ 0 (by omega) (by omega) (by omega) hP | exact hset _ 1 (by omega) (by omega) (by omega) hP
                  · refine x_iconst dX3_foldAtLevel_93 ?_
                    refine x_goto dX3_foldAtLevel_94 ?_
                    refine s_iast dX3_foldAtLevel_98 hP rfl rfl ⟨by omega, by omega⟩ (fun h hP hF => ?_)
                    refine x_iconst dX3_foldAtLevel_99 ?_
                    refine x_istore_n dX3_foldAtLevel_100 rfl rfl rfl ?_
                    refine x_iinc dX3_foldAtLevel_101 rfl rfl rfl ?_
                    refine x_goto dX3_foldAtLevel_104 ?_
                    refine x_kill 4 (x_kill 5 ?_)
                    first | exact hkeep _ (by omega) (by omega) hP | exact hset _ 0 (by omega) (by omega) (by omega) hP | exact hset _ 1 (by omega) (by omega) (by omega) hP
            · rw [hhas (by omega)] at c63
              refine x_iconst dX3_foldAtLevel_66 ?_
              refine x_goto dX3_foldAtLevel_67 ?_
              refine x_istore dX3_foldAtLevel_71 rfl rfl rfl ?_
              refine x_iload dX3_foldAtLevel_73 rfl ?_
              refine x_if_ne dX3_foldAtLevel_75 ⟨by omega, by omega⟩ (fun c75 => ?_) (fun c75 => ?_)
              · refine x_aload_n dX3_foldAtLevel_83 rfl ?_
                refine s_get dX3_foldAtLevel_84 fX3_18 hP rfl ?_
                refine x_iload_n dX3_foldAtLevel_87 rfl ?_
                refine x_iload dX3_foldAtLevel_88 rfl ?_
                refine x_if_eq dX3_foldAtLevel_90 ⟨by omega, by omega⟩ (fun c90 => ?_) (fun c90 => ?_)
                · refine x_iconst dX3_foldAtLevel_97 ?_
                  refine s_iast dX3_foldAtLevel_98 hP rfl rfl ⟨by omega, by omega⟩ (fun h hP hF => ?_)
                  refine x_iconst dX3_foldAtLevel_99 ?_
                  refine x_istore_n dX3_foldAtLevel_100 rfl rfl rfl ?_
                  refine x_iinc dX3_foldAtLevel_101 rfl rfl rfl ?_
                  refine x_goto dX3_foldAtLevel_104 ?_
                  refine x_kill 4 (x_kill 5 ?_)
                  first | exact hkeep _ (by omega) (by omega) hP | exact hset _ 0 (by omega) (by omega) (by omega) hP | exact hset _ 1 (by omega) (by omega) (by omega) hP
                · refine x_iconst dX3_foldAtLevel_93 ?_
                  refine x_goto dX3_foldAtLevel_94 ?_
                  refine s_iast dX3_foldAtLevel_98 hP rfl rfl ⟨by omega, by omega⟩ (fun h hP hF => ?_)
                  refine x_iconst dX3_foldAtLevel_99 ?_
                  refine x_istore_n dX3_foldAtLevel_100 rfl rfl rfl ?_
                  refine x_iinc dX3_foldAtLevel_101 rfl rfl rfl ?_
                  refine x_goto dX3_foldAtLevel_104 ?_
                  refine x_kill 4 (x_kill 5 ?_)
                  first | exact hkeep _ (by omega) (by omega) hP | exact hset _ 0 (by omega) (by omega) (by omega) hP | exact hset _ 1 (by omega) (by omega) (by omega) hP
              · refine x_iload dX3_foldAtLevel_78 rfl ?_
                refine x_if_eq dX3_foldAtLevel_80 ⟨by omega, by omega⟩ (fun c80 => ?_) (fun c80 => ?_)
                · refine x_iinc dX3_foldAtLevel_101 rfl rfl rfl ?_
                  refine x_goto dX3_foldAtLevel_104 ?_
                  refine x_kill 4 (x_kill 5 ?_)
                  first | exact hkeep _ (by omega) (by omega) hP | exact hset _ 0 (by omega) (by omega) (by omega) hP | exact hset _ 1 (by omega) (by omega) (by omega) hP
                · refine x_aload_n dX3_foldAtLevel_83 rfl ?_
                  refine s_get dX3_foldAtLevel_84 fX3_18 hP rfl ?_
                  refine x_iload_n dX3_foldAtLevel_87 rfl ?_
                  refine x_iload dX3_foldAtLevel_88 rfl ?_
                  refine x_if_eq dX3_foldAtLevel_90 ⟨by omega, by omega⟩ (fun c90 => ?_) (fun c90 => ?_)
                  · refine x_iconst dX3_foldAtLevel_97 ?_
                    refine s_iast dX3_foldAtLevel_98 hP rfl rfl ⟨by omega, by omega⟩ (fun h hP hF => ?_)
                    refine x_iconst dX3_foldAtLevel_99 ?_
                    refine x_istore_n dX3_foldAtLevel_100 rfl rfl rfl ?_
                    refine x_iinc dX3_foldAtLevel_101 rfl rfl rfl ?_
                    refine x_goto dX3_foldAtLevel_104 ?_
                    refine x_kill 4 (x_kill 5 ?_)
                    first | exact hkeep _ (by omega) (by omega) hP | exact hset _ 0 (by omega) (by omega) (by omega) hP | exact hset _ 1 (by omega) (by omega) (by omega) hP
                  · refine x_iconst dX3_foldAtLevel_93 ?_
                    refine x_goto dX3_foldAtLevel_94 ?_
                    refine s_iast dX3_foldAtLevel_98 hP rfl rfl ⟨by omega, by omega⟩ (fun h hP hF => ?_)
                    refine x_iconst dX3_foldAtLevel_99 ?_
                    refine x_istore_n dX3_foldAtLevel_100 rfl rfl rfl ?_
                    refine x_iinc dX3_foldAtLevel_101 rfl rfl rfl ?_
                    refine x_goto dX3_foldAtLevel_104 ?_
                    refine x_kill 4 (x_kill 5 ?_)
                    first | exact hkeep _ (by omega) (by omega) hP | exact hset _ 0 (by omega) (by omega) (by omega) hP | exact hset _ 1 (by omega) (by omega) (by omega) hP
