-- the outline at x: 107 cells
def ReR (h : AH) (p : Nat) : Prop := ∃ (a b : Nat → Int) (u v y : Int), SO h h p 3 4 [.ref (p + 1 + 0), .ref (p + 1 + 1), .int (zI u), .int (zI v), .int (zI y)] [(0, 61, a), (0, 26, b)]
theorem ReR.mv {h h' : AH} {p lo hi : Nat} (a : ReR h p) (f : Fr h h' lo hi) (d : hi ≤ p ∨ p + 3 ≤ lo) : ReR h' p := by
  obtain ⟨n, l, u, v, y, hP⟩ := a
  exact ⟨n, l, u, v, y, hP.mv f d⟩
abbrev ouF (x b c d : Nat) : List Value := [.ref (x + 1), .ref (x + 3), .ref (x + 6), .ref (x + 9), .ref (x + 71), .int (zI b), .ref c, .ref d]
/-- what all see: the text, the history, the snapshot, whether there is one, the state -/
abbrev AS : Type := List Int × List CS × CS × Nat × CS
def OuR (h : AH) (x : Nat) (t : List Int) (hs : List CS) (sp : CS) (b : Nat) (c d : Nat) (S D : CS) : Prop :=
  SO h h x 1 8 (ouF x b c d) [] ∧ TyR h (x + 1) t ∧ ReR h (x + 3) ∧ RoR h (x + 6) S.2.2.2.2 ∧ HiR h (x + 9) hs ∧ StR h (x + 71) sp ∧ StR h c S ∧ StR h d D ∧ ((c = x + 83 ∧ d = x + 95) ∨ (c = x + 95 ∧ d = x + 83))
def OuA (h : AH) (x : Nat) (A : AS) : Prop := ∃ c d D, OuR h x A.1 A.2.1 A.2.2.1 A.2.2.2.1 c d A.2.2.2.2 D
theorem OuR.mv {h h' : AH} {x lo hi b c d : Nat} {t : List Int} {hs : List CS} {sp S D : CS} (a : OuR h x t hs sp b c d S D) (f : Fr h h' lo hi) (e : hi ≤ x ∨ x + 107 ≤ lo) : OuR h' x t hs sp b c d S D := by
  obtain ⟨a1, a2, a3, a4, a5, a6, a7, a8, a9⟩ := a
  exact ⟨a1.mv f (by omega), a2.mv f (by omega), a3.mv f (by omega), a4.mv f (by omega), a5.mv f (by omega), a6.mv f (by omega), a7.mv f (by omega), a8.mv f (by omega), a9⟩
theorem OuA.mv {h h' : AH} {x lo hi : Nat} {A : AS} (a : OuA h x A) (f : Fr h h' lo hi) (e : hi ≤ x ∨ x + 107 ≤ lo) : OuA h' x A := by
  obtain ⟨c, d, D, a⟩ := a
  exact ⟨c, d, D, a.mv f e⟩

def plR (pl : List PE) (r : Int) : Int := if r = -1 then -1 else plZ pl r
theorem c_X8_placeOrRoot (sz : Nat) {h : AH} {x b c d : Nat} {t : List Int} {hs : List CS} {sp S D : CS} (hO : OuR h x t hs sp b c d S D) {r : Int} (hr : inR r) : CC mX8_placeOrRoot 1 0 0 [.ref x, .int (zI r)] sz h (QR (plR S.2.2.2.2 r) h) := by
  refine CC.intro [some (.ref x), some (.int (zI r))] pfX8_placeOrRoot rfl rfl ?_
  have hO0 := hO
  obtain ⟨hX, hT, hRe, hRo, hHi, hSp, hC, hD, hcd⟩ := hO
  have hC0 := hC.1
  have hD0 := hD.1
  obtain ⟨_, hTs, -, -⟩ := id hT
  obtain ⟨_, _, hRs, -, -⟩ := id hRo
  obtain ⟨_, _, _, hCN, -, -⟩ := id hC.2.1
  obtain ⟨_, _, hCL, -, -⟩ := id hC.2.2.1
  obtain ⟨_, _, _, hCP, -, -⟩ := id hC.2.2.2
  have hpB := hC.2.2.2.B
  have hpl := hpB.1
  refine x_iload_n dX8_placeOrRoot_0 rfl ?_
  refine x_iconst dX8_placeOrRoot_1 ?_
  refine x_icmp_ne dX8_placeOrRoot_2 ⟨by omega, by omega⟩ ⟨by omega, by omega⟩ (fun qc2q => ?_) (fun qc2q => ?_)
  · refine x_aload_n dX8_placeOrRoot_9 rfl ?_
    refine s_get dX8_placeOrRoot_10 fX8_26 hX rfl ?_
    refine x_iload_n dX8_placeOrRoot_13 rfl ?_
    refine p_V dX8_placeOrRoot_14 lX8_107 (c_X5_placeOf sz hRo hr) hRs.1 rfl rfl rfl rfl (by decide) ?_
    refine x_ireturn dX8_placeOrRoot_17 rfl ?_
    refine ⟨?_, rfl⟩
    unfold plR
    first | (rw [if_pos (by omega)]; done) | (rw [if_neg (by omega)]; done)
  · refine x_iconst dX8_placeOrRoot_5 ?_
    refine x_goto dX8_placeOrRoot_6 ?_
    refine x_ireturn dX8_placeOrRoot_17 rfl ?_
    refine ⟨?_, rfl⟩
    unfold plR
    first | (rw [if_pos (by omega)]; done) | (rw [if_neg (by omega)]; done)
theorem c_X8_nodeOfRow (sz : Nat) {h : AH} {x b c d : Nat} {t : List Int} {hs : List CS} {sp S D : CS} (hO : OuR h x t hs sp b c d S D) {r : Int} (hr : inR r) : CC mX8_nodeOfRow 2 0 0 [.ref x, .int (zI r)] sz h (QR (gN S.2.2.2.2 (plZ S.2.2.2.2 r)) h) := by
  refine CC.intro [some (.ref x), some (.int (zI r))] pfX8_nodeOfRow rfl rfl ?_
  have hO0 := hO
  obtain ⟨hX, hT, hRe, hRo, hHi, hSp, hC, hD, hcd⟩ := hO
  have hC0 := hC.1
  have hD0 := hD.1
  obtain ⟨_, hTs, -, -⟩ := id hT
  obtain ⟨_, _, hRs, -, -⟩ := id hRo
  obtain ⟨_, _, _, hCN, -, -⟩ := id hC.2.1
  obtain ⟨_, _, hCL, -, -⟩ := id hC.2.2.1
  obtain ⟨_, _, _, hCP, -, -⟩ := id hC.2.2.2
  have hpB := hC.2.2.2.B
  have hpl := hpB.1
  have hz := plZ_r S.2.2.2.2 r
  refine x_aload_n dX8_nodeOfRow_0 rfl ?_
  refine s_get dX8_nodeOfRow_1 fX8_48 hX rfl ?_
  refine s_get dX8_nodeOfRow_4 fX8_84 hC0 rfl ?_
  refine x_aload_n dX8_nodeOfRow_7 rfl ?_
  refine s_get dX8_nodeOfRow_8 fX8_26 hX rfl ?_
  refine x_iload_n dX8_nodeOfRow_11 rfl ?_
  refine p_V dX8_nodeOfRow_12 lX8_107 (c_X5_placeOf sz hRo hr) hRs.1 rfl rfl rfl rfl (by decide) ?_
  refine p_V dX8_nodeOfRow_15 lX8_88 (c_X3_nodeOf sz hC.2.2.2 (z := plZ S.2.2.2.2 r) ⟨by omega, by omega⟩) hCP.1 rfl rfl rfl rfl (by decide) ?_
  refine x_ireturn dX8_nodeOfRow_18 rfl ?_
  exact ⟨rfl, rfl⟩
theorem pAt_r (pl : List PE) (z L : Int) (h : -1 ≤ z) : -1 ≤ pAt pl z L ∧ pAt pl z L ≤ z := by
  unfold pAt bZ
  rcases bB_spec (fun k => decide ((pv pl k : Int) = L)) (z + 1).toNat with ⟨q, -⟩ | ⟨j, q, q2, -⟩ <;> omega
theorem c_X8_parentNodeOf (sz : Nat) {h : AH} {x b c d : Nat} {t : List Int} {hs : List CS} {sp S D : CS} (hO : OuR h x t hs sp b c d S D) {z : Int} (h0 : 0 ≤ z) (h1 : z < S.2.2.2.2.length) : CC mX8_parentNodeOf 3 0 0 [.ref x, .int (zI z)] sz h (QR (gN S.2.2.2.2 (pPar S.2.2.2.2 z)) h) := by
  refine CC.intro [some (.ref x), some (.int (zI z))] pfX8_parentNodeOf rfl rfl ?_
  have hO0 := hO
  obtain ⟨hX, hT, hRe, hRo, hHi, hSp, hC, hD, hcd⟩ := hO
  have hC0 := hC.1
  have hD0 := hD.1
  obtain ⟨_, hTs, -, -⟩ := id hT
  obtain ⟨_, _, hRs, -, -⟩ := id hRo
  obtain ⟨_, _, _, hCN, -, -⟩ := id hC.2.1
  obtain ⟨_, _, hCL, -, -⟩ := id hC.2.2.1
  obtain ⟨_, _, _, hCP, -, -⟩ := id hC.2.2.2
  have hpB := hC.2.2.2.B
  have hpl := hpB.1
  have hz : -1 ≤ pPar S.2.2.2.2 z ∧ pPar S.2.2.2.2 z ≤ z := pAt_r _ _ _ (by omega)
  refine x_aload_n dX8_parentNodeOf_0 rfl ?_
  refine s_get dX8_parentNodeOf_1 fX8_48 hX rfl ?_
  refine s_get dX8_parentNodeOf_4 fX8_84 hC0 rfl ?_
  refine x_aload_n dX8_parentNodeOf_7 rfl ?_
  refine s_get dX8_parentNodeOf_8 fX8_48 hX rfl ?_
  refine s_get dX8_parentNodeOf_11 fX8_84 hC0 rfl ?_
  refine x_iload_n dX8_parentNodeOf_14 rfl ?_
  refine p_V dX8_parentNodeOf_15 lX8_263 (c_X3_parentOf sz hC.2.2.2 (z := z) (by omega) h1) hCP.1 rfl rfl rfl rfl (by decide) ?_
  refine p_V dX8_parentNodeOf_18 lX8_88 (c_X3_nodeOf sz hC.2.2.2 (z := pPar S.2.2.2.2 z) ⟨by omega, by omega⟩) hCP.1 rfl rfl rfl rfl (by decide) ?_
  refine x_ireturn dX8_parentNodeOf_21 rfl ?_
  exact ⟨rfl, rfl⟩
def paR (pl : List PE) (z : Int) : Int := if pPar pl z = -1 then -1 else rwZ pl (pPar pl z)
theorem c_X8_parentRow (sz : Nat) {h : AH} {x b c d : Nat} {t : List Int} {hs : List CS} {sp S D : CS} (hO : OuR h x t hs sp b c d S D) {z : Int} (h0 : 0 ≤ z) (h1 : z < S.2.2.2.2.length) : CC mX8_parentRow 3 0 0 [.ref x, .int (zI z)] sz h (QR (paR S.2.2.2.2 z) h) := by
  refine CC.intro [some (.ref x), some (.int (zI z)), none] pfX8_parentRow rfl rfl ?_
  have hO0 := hO
  obtain ⟨hX, hT, hRe, hRo, hHi, hSp, hC, hD, hcd⟩ := hO
  have hC0 := hC.1
  have hD0 := hD.1
  obtain ⟨_, hTs, -, -⟩ := id hT
  obtain ⟨_, _, hRs, -, -⟩ := id hRo
  obtain ⟨_, _, _, hCN, -, -⟩ := id hC.2.1
  obtain ⟨_, _, hCL, -, -⟩ := id hC.2.2.1
  obtain ⟨_, _, _, hCP, -, -⟩ := id hC.2.2.2
  have hpB := hC.2.2.2.B
  have hpl := hpB.1
  have hz : -1 ≤ pPar S.2.2.2.2 z ∧ pPar S.2.2.2.2 z ≤ z := pAt_r _ _ _ (by omega)
  refine x_aload_n dX8_parentRow_0 rfl ?_
  refine s_get dX8_parentRow_1 fX8_48 hX rfl ?_
  refine s_get dX8_parentRow_4 fX8_84 hC0 rfl ?_
  refine x_iload_n dX8_parentRow_7 rfl ?_
  refine p_V dX8_parentRow_8 lX8_263 (c_X3_parentOf sz hC.2.2.2 (z := z) (by omega) h1) hCP.1 rfl rfl rfl rfl (by decide) ?_
  refine x_istore_n dX8_parentRow_11 rfl rfl rfl ?_
  refine x_iload_n dX8_parentRow_12 rfl ?_
  refine x_iconst dX8_parentRow_13 ?_
  refine x_icmp_ne dX8_parentRow_14 ⟨by omega, by omega⟩ ⟨by omega, by omega⟩ (fun qc14q => ?_) (fun qc14q => ?_)
  · refine x_aload_n dX8_parentRow_21 rfl ?_
    refine s_get dX8_parentRow_22 fX8_26 hX rfl ?_
    refine x_iload_n dX8_parentRow_25 rfl ?_
    refine p_V dX8_parentRow_26 lX8_182 (c_X5_rowOf sz hRo (z := pPar S.2.2.2.2 z) (by omega) (by omega)) hRs.1 rfl rfl rfl rfl (by decide) ?_
    refine x_ireturn dX8_parentRow_29 rfl ?_
    refine ⟨?_, rfl⟩
    unfold paR
    first | (rw [if_pos (by omega)]; done) | (rw [if_neg (by omega)]; done)
  · refine x_iconst dX8_parentRow_17 ?_
    refine x_goto dX8_parentRow_18 ?_
    refine x_ireturn dX8_parentRow_29 rfl ?_
    refine ⟨?_, rfl⟩
    unfold paR
    first | (rw [if_pos (by omega)]; done) | (rw [if_neg (by omega)]; done)
def poA (S : CS) (z : Int) : Int := lfi (kid S.2.2.2.1 (gN S.2.2.2.2 (pPar S.2.2.2.2 z)).toNat) (gN S.2.2.2.2 z).toNat
theorem c_X8_positionAt (sz : Nat) {h : AH} {x b c d : Nat} {t : List Int} {hs : List CS} {sp S D : CS} (hO : OuR h x t hs sp b c d S D) {z : Int} (h0 : 0 ≤ z) (h1 : z < S.2.2.2.2.length) : CC mX8_positionAt 4 0 0 [.ref x, .int (zI z)] sz h (QR (poA S z) h) := by
  refine CC.intro [some (.ref x), some (.int (zI z))] pfX8_positionAt rfl rfl ?_
  have hO0 := hO
  obtain ⟨hX, hT, hRe, hRo, hHi, hSp, hC, hD, hcd⟩ := hO
  have hC0 := hC.1
  have hD0 := hD.1
  obtain ⟨_, hTs, -, -⟩ := id hT
  obtain ⟨_, _, hRs, -, -⟩ := id hRo
  obtain ⟨_, _, _, hCN, -, -⟩ := id hC.2.1
  obtain ⟨_, _, hCL, -, -⟩ := id hC.2.2.1
  obtain ⟨_, _, _, hCP, -, -⟩ := id hC.2.2.2
  have hpB := hC.2.2.2.B
  have hpl := hpB.1
  have hg := gN_r hpB z
  have hg2 := gN_r hpB (pPar S.2.2.2.2 z)
  refine x_aload_n dX8_positionAt_0 rfl ?_
  refine s_get dX8_positionAt_1 fX8_48 hX rfl ?_
  refine s_get dX8_positionAt_4 fX8_103 hC0 rfl ?_
  refine x_aload_n dX8_positionAt_7 rfl ?_
  refine x_iload_n dX8_positionAt_8 rfl ?_
  refine p_V dX8_positionAt_9 lX8_110 (c_X8_parentNodeOf sz hO0 h0 h1) hX.1 rfl rfl rfl rfl (by decide) ?_
  refine x_aload_n dX8_positionAt_12 rfl ?_
  refine s_get dX8_positionAt_13 fX8_48 hX rfl ?_
  refine s_get dX8_positionAt_16 fX8_84 hC0 rfl ?_
  refine x_iload_n dX8_positionAt_19 rfl ?_
  refine p_V dX8_positionAt_20 lX8_88 (c_X3_nodeOf sz hC.2.2.2 (z := z) ⟨by omega, by omega⟩) hCP.1 rfl rfl rfl rfl (by decide) ?_
  rw [show gN S.2.2.2.2 (pPar S.2.2.2.2 z) = (((gN S.2.2.2.2 (pPar S.2.2.2.2 z)).toNat : Nat) : Int) by omega, show gN S.2.2.2.2 z = (((gN S.2.2.2.2 z).toNat : Nat) : Int) by omega]
  refine p_V dX8_positionAt_23 lX8_134 (c_X1_position sz hC.2.2.1 (x := (gN S.2.2.2.2 (pPar S.2.2.2.2 z)).toNat) (y := (gN S.2.2.2.2 z).toNat) (by omega) (by omega)) hCL.1 rfl rfl rfl rfl (by decide) ?_
  refine x_ireturn dX8_positionAt_26 rfl ?_
  exact ⟨rfl, rfl⟩
/-- whether a node may not become a child: its place z, the other's place u (-1: the root) -/
def rfP (S : CS) (z u : Int) : Prop := gN S.2.2.2.2 u = gN S.2.2.2.2 z ∨ (gN S.2.2.2.2 u).toNat ∈ pWit S.2.2.2.2 z ∨ ((gN S.2.2.2.2 u).toNat, (gN S.2.2.2.2 z).toNat) ∈ S.2.2.2.1
theorem lfi_iff {α : Type} [DecidableEq α] (l : List α) (y : α) : lfi l y = -1 ↔ y ∉ l := by
  constructor
  · intro h hy
    obtain ⟨a, b, q⟩ := List.append_of_mem hy
    have key : ∀ (l : List α), y ∈ l → 0 ≤ lfi l y := by
      intro l
      induction l with
      | nil => intro h; cases h
      | cons c l ihq =>
        intro hm
        rw [lfi]
        by_cases e : c = y
        · rw [if_pos e]; omega
        · rw [if_neg e]
          rcases List.mem_cons.mp hm with q | q
          · exact absurd q.symm e
          · have := ihq q
            rw [if_neg (by omega)]
            omega
    have := key l hy
    omega
  · exact lfi_no l y
theorem lfi_r {α : Type} [DecidableEq α] : ∀ (l : List α) (y : α), -1 ≤ lfi l y ∧ lfi l y < l.length ∨ lfi l y = -1
  | [], y => Or.inr rfl
  | c :: l, y => by
    rw [lfi]
    rcases lfi_r l y with q | q
    · by_cases e : c = y
      · rw [if_pos e, List.length_cons]; omega
      · rw [if_neg e, List.length_cons]
        split <;> omega
    · by_cases e : c = y
      · rw [if_pos e, List.length_cons]; omega
      · rw [if_neg e, q]
        exact Or.inr rfl
theorem c_X8_refusalOfParent (sz : Nat) {h : AH} {x b c d : Nat} {t : List Int} {hs : List CS} {sp S D : CS} (hO : OuR h x t hs sp b c d S D) {r u : Int} (hr : inR r) (hu : inR u) : CC mX8_refusalOfParent 4 0 0 [.ref x, .int (zI r), .int (zI u)] sz h (QI (fun v h' => h' = h ∧ (((plZ S.2.2.2.2 r = -2 ∨ plR S.2.2.2.2 u = -2) ∧ v = -2) ∨ (plZ S.2.2.2.2 r ≠ -2 ∧ plR S.2.2.2.2 u ≠ -2 ∧ ((rfP S (plZ S.2.2.2.2 r) (plR S.2.2.2.2 u) ∧ v = -5) ∨ (¬ rfP S (plZ S.2.2.2.2 r) (plR S.2.2.2.2 u) ∧ v = 0)))))) := by
  refine CC.intro [some (.ref x), some (.int (zI r)), some (.int (zI u)), none, none, none, none, none, none] pfX8_refusalOfParent rfl rfl ?_
  have hO0 := hO
  obtain ⟨hX, hT, hRe, hRo, hHi, hSp, hC, hD, hcd⟩ := hO
  have hC0 := hC.1
  have hD0 := hD.1
  obtain ⟨_, hTs, -, -⟩ := id hT
  obtain ⟨_, _, hRs, -, -⟩ := id hRo
  obtain ⟨_, _, _, hCN, -, -⟩ := id hC.2.1
  obtain ⟨_, _, hCL, -, -⟩ := id hC.2.2.1
  obtain ⟨_, _, _, hCP, -, -⟩ := id hC.2.2.2
  have hpB := hC.2.2.2.B
  have hpl := hpB.1
  have hz := plZ_r S.2.2.2.2 r
  have hz2 := plZ_r S.2.2.2.2 u
  have hz3 : plR S.2.2.2.2 u = -1 ∨ plR S.2.2.2.2 u = plZ S.2.2.2.2 u := by
    unfold plR
    split
    · exact Or.inl rfl
    · exact Or.inr rfl
  generalize hzz : plZ S.2.2.2.2 r = z at *
  generalize huu : plR S.2.2.2.2 u = w at *
  have hg := gN_r hpB z
  have hg2 := gN_r hpB w
  have hw40 : ∀ y ∈ pWit S.2.2.2.2 z, y ≤ 40 := nds_40 hpB _ _
  have hlb := hC.2.2.1.B.1
  have hlr := lfi_r S.2.2.2.1 ((gN S.2.2.2.2 w).toNat, (gN S.2.2.2.2 z).toNat)
  have hli := lfi_iff S.2.2.2.1 ((gN S.2.2.2.2 w).toNat, (gN S.2.2.2.2 z).toNat)
  have K : ∀ a : Int, a = 0 ∨ a = 1 → (a = 1 ↔ (gN S.2.2.2.2 w = gN S.2.2.2.2 z ∨ (gN S.2.2.2.2 w).toNat ∈ pWit S.2.2.2.2 z)) → z ≠ -2 → w ≠ -2 → XM mX8_refusalOfParent 4 0 0 (QI (fun v h' => h' = h ∧ (((z = -2 ∨ w = -2) ∧ v = -2) ∨ (z ≠ -2 ∧ w ≠ -2 ∧ ((rfP S (z) (w) ∧ v = -5) ∨ (¬ rfP S (z) (w) ∧ v = 0)))))) 0 0 sz h 92 [some (.ref x), some (.int (zI r)), some (.int (zI u)), some (.int (zI z)), some (.int (zI w)), some (.int (zI (gN S.2.2.2.2 z))), some (.int (zI (gN S.2.2.2.2 w))), none, none] [.int (zI a)] := by
    intro a ha hiff hzn hwn
    refine x_istore dX8_refusalOfParent_92 rfl rfl rfl ?_
    refine x_aload_n dX8_refusalOfParent_94 rfl ?_
    refine s_get dX8_refusalOfParent_95 fX8_48 hX rfl ?_
    refine s_get dX8_refusalOfParent_98 fX8_103 hC0 rfl ?_
    refine x_iload dX8_refusalOfParent_101 rfl ?_
    refine x_iload dX8_refusalOfParent_103 rfl ?_
    rw [show gN S.2.2.2.2 w = (((gN S.2.2.2.2 w).toNat : Nat) : Int) by omega, show gN S.2.2.2.2 z = (((gN S.2.2.2.2 z).toNat : Nat) : Int) by omega]
    refine p_V dX8_refusalOfParent_105 lX8_266 (c_X1_indexOf sz hC.2.2.1 (x := (gN S.2.2.2.2 w).toNat) (y := (gN S.2.2.2.2 z).toNat) (by omega) (by omega)) hCL.1 rfl rfl rfl rfl (by decide) ?_
    refine x_iconst dX8_refusalOfParent_108 ?_
    refine x_icmp_eq dX8_refusalOfParent_109 ⟨by omega, by omega⟩ ⟨by omega, by omega⟩ (fun qc109q => ?_) (fun qc109q => ?_)
    · refine x_iconst dX8_refusalOfParent_116 ?_
      refine x_istore dX8_refusalOfParent_117 rfl rfl rfl ?_
      refine x_iload dX8_refusalOfParent_119 rfl ?_
      refine x_if_ne dX8_refusalOfParent_121 ⟨by omega, by omega⟩ (fun qc121q => ?_) (fun qc121q => ?_)
      · refine x_bipush dX8_refusalOfParent_129 (by decide) ?_
        refine x_goto dX8_refusalOfParent_131 ?_
        refine x_ireturn dX8_refusalOfParent_135 rfl ?_
        refine ⟨_, rfl, rfl, Or.inr ⟨hzn, hwn, ?_⟩⟩
        first
          | (refine Or.inl ⟨?_, rfl⟩
             unfold rfP
             first
               | (have q1 := hiff.mp (by omega); rcases q1 with q1 | q1; exact Or.inl q1; exact Or.inr (Or.inl q1); done)
               | (exact Or.inr (Or.inr (Classical.byContradiction fun q1 => by have := hli.mpr q1; omega)); done))
          | (refine Or.inr ⟨?_, rfl⟩
             unfold rfP
             rintro (q1 | q1 | q1)
             · have := hiff.mpr (Or.inl q1)
               omega
             · have := hiff.mpr (Or.inr q1)
               omega
             · have q2 : lfi S.2.2.2.1 ((gN S.2.2.2.2 w).toNat, (gN S.2.2.2.2 z).toNat) = -1 := by omega
               exact hli.mp q2 q1)
      · refine x_iload dX8_refusalOfParent_124 rfl ?_
        refine x_if_eq dX8_refusalOfParent_126 ⟨by omega, by omega⟩ (fun qc126q => ?_) (fun qc126q => ?_)
        · refine x_iconst dX8_refusalOfParent_134 ?_
          refine x_ireturn dX8_refusalOfParent_135 rfl ?_
          refine ⟨_, rfl, rfl, Or.inr ⟨hzn, hwn, ?_⟩⟩
          first
            | (refine Or.inl ⟨?_, rfl⟩
               unfold rfP
               first
                 | (have q1 := hiff.mp (by omega); rcases q1 with q1 | q1; exact Or.inl q1; exact Or.inr (Or.inl q1); done)
                 | (exact Or.inr (Or.inr (Classical.byContradiction fun q1 => by have := hli.mpr q1; omega)); done))
            | (refine Or.inr ⟨?_, rfl⟩
               unfold rfP
               rintro (q1 | q1 | q1)
               · have := hiff.mpr (Or.inl q1)
                 omega
               · have := hiff.mpr (Or.inr q1)
                 omega
               · have q2 : lfi S.2.2.2.1 ((gN S.2.2.2.2 w).toNat, (gN S.2.2.2.2 z).toNat) = -1 := by omega
                 exact hli.mp q2 q1)
        · refine x_bipush dX8_refusalOfParent_129 (by decide) ?_
          refine x_goto dX8_refusalOfParent_131 ?_
          refine x_ireturn dX8_refusalOfParent_135 rfl ?_
          refine ⟨_, rfl, rfl, Or.inr ⟨hzn, hwn, ?_⟩⟩
          first
            | (refine Or.inl ⟨?_, rfl⟩
               unfold rfP
               first
                 | (have q1 := hiff.mp (by omega); rcases q1 with q1 | q1; exact Or.inl q1; exact Or.inr (Or.inl q1); done)
                 | (exact Or.inr (Or.inr (Classical.byContradiction fun q1 => by have := hli.mpr q1; omega)); done))
            | (refine Or.inr ⟨?_, rfl⟩
               unfold rfP
               rintro (q1 | q1 | q1)
               · have := hiff.mpr (Or.inl q1)
                 omega
               · have := hiff.mpr (Or.inr q1)
                 omega
               · have q2 : lfi S.2.2.2.1 ((gN S.2.2.2.2 w).toNat, (gN S.2.2.2.2 z).toNat) = -1 := by omega
                 exact hli.mp q2 q1)
    · refine x_iconst dX8_refusalOfParent_112 ?_
      refine x_goto dX8_refusalOfParent_113 ?_
      refine x_istore dX8_refusalOfParent_117 rfl rfl rfl ?_
      refine x_iload dX8_refusalOfParent_119 rfl ?_
      refine x_if_ne dX8_refusalOfParent_121 ⟨by omega, by omega⟩ (fun qc121q => ?_) (fun qc121q => ?_)
      · refine x_bipush dX8_refusalOfParent_129 (by decide) ?_
        refine x_goto dX8_refusalOfParent_131 ?_
        refine x_ireturn dX8_refusalOfParent_135 rfl ?_
        refine ⟨_, rfl, rfl, Or.inr ⟨hzn, hwn, ?_⟩⟩
        first
          | (refine Or.inl ⟨?_, rfl⟩
             unfold rfP
             first
               | (have q1 := hiff.mp (by omega); rcases q1 with q1 | q1; exact Or.inl q1; exact Or.inr (Or.inl q1); done)
               | (exact Or.inr (Or.inr (Classical.byContradiction fun q1 => by have := hli.mpr q1; omega)); done))
          | (refine Or.inr ⟨?_, rfl⟩
             unfold rfP
             rintro (q1 | q1 | q1)
             · have := hiff.mpr (Or.inl q1)
               omega
             · have := hiff.mpr (Or.inr q1)
               omega
             · have q2 : lfi S.2.2.2.1 ((gN S.2.2.2.2 w).toNat, (gN S.2.2.2.2 z).toNat) = -1 := by omega
               exact hli.mp q2 q1)
      · refine x_iload dX8_refusalOfParent_124 rfl ?_
        refine x_if_eq dX8_refusalOfParent_126 ⟨by omega, by omega⟩ (fun qc126q => ?_) (fun qc126q => ?_)
        · refine x_iconst dX8_refusalOfParent_134 ?_
          refine x_ireturn dX8_refusalOfParent_135 rfl ?_
          refine ⟨_, rfl, rfl, Or.inr ⟨hzn, hwn, ?_⟩⟩
          first
            | (refine Or.inl ⟨?_, rfl⟩
               unfold rfP
               first
                 | (have q1 := hiff.mp (by omega); rcases q1 with q1 | q1; exact Or.inl q1; exact Or.inr (Or.inl q1); done)
                 | (exact Or.inr (Or.inr (Classical.byContradiction fun q1 => by have := hli.mpr q1; omega)); done))
            | (refine Or.inr ⟨?_, rfl⟩
               unfold rfP
               rintro (q1 | q1 | q1)
               · have := hiff.mpr (Or.inl q1)
                 omega
               · have := hiff.mpr (Or.inr q1)
                 omega
               · have q2 : lfi S.2.2.2.1 ((gN S.2.2.2.2 w).toNat, (gN S.2.2.2.2 z).toNat) = -1 := by omega
                 exact hli.mp q2 q1)
        · refine x_bipush dX8_refusalOfParent_129 (by decide) ?_
          refine x_goto dX8_refusalOfParent_131 ?_
          refine x_ireturn dX8_refusalOfParent_135 rfl ?_
          refine ⟨_, rfl, rfl, Or.inr ⟨hzn, hwn, ?_⟩⟩
          first
            | (refine Or.inl ⟨?_, rfl⟩
               unfold rfP
               first
                 | (have q1 := hiff.mp (by omega); rcases q1 with q1 | q1; exact Or.inl q1; exact Or.inr (Or.inl q1); done)
                 | (exact Or.inr (Or.inr (Classical.byContradiction fun q1 => by have := hli.mpr q1; omega)); done))
            | (refine Or.inr ⟨?_, rfl⟩
               unfold rfP
               rintro (q1 | q1 | q1)
               · have := hiff.mpr (Or.inl q1)
                 omega
               · have := hiff.mpr (Or.inr q1)
                 omega
               · have q2 : lfi S.2.2.2.1 ((gN S.2.2.2.2 w).toNat, (gN S.2.2.2.2 z).toNat) = -1 := by omega
                 exact hli.mp q2 q1)
  refine x_aload_n dX8_refusalOfParent_0 rfl ?_
  refine s_get dX8_refusalOfParent_1 fX8_26 hX rfl ?_
  refine x_iload_n dX8_refusalOfParent_4 rfl ?_
  refine p_V dX8_refusalOfParent_5 lX8_107 (c_X5_placeOf sz hRo hr) hRs.1 rfl rfl rfl rfl (by decide) ?_
  rw [hzz]
  refine x_istore_n dX8_refusalOfParent_8 rfl rfl rfl ?_
  refine x_aload_n dX8_refusalOfParent_9 rfl ?_
  refine x_iload_n dX8_refusalOfParent_10 rfl ?_
  refine p_V dX8_refusalOfParent_11 lX8_54 (c_X8_placeOrRoot sz hO0 hu) hX.1 rfl rfl rfl rfl (by decide) ?_
  rw [huu]
  refine x_istore dX8_refusalOfParent_14 rfl rfl rfl ?_
  refine x_iload_n dX8_refusalOfParent_16 rfl ?_
  refine x_bipush dX8_refusalOfParent_17 (by decide) ?_
  refine x_icmp_eq dX8_refusalOfParent_19 ⟨by omega, by omega⟩ ⟨by omega, by omega⟩ (fun qc19q => ?_) (fun qc19q => ?_)
  · refine x_bipush dX8_refusalOfParent_29 (by decide) ?_
    refine x_ireturn dX8_refusalOfParent_31 rfl ?_
    exact ⟨_, rfl, rfl, Or.inl ⟨by omega, rfl⟩⟩
  · refine x_iload dX8_refusalOfParent_22 rfl ?_
    refine x_bipush dX8_refusalOfParent_24 (by decide) ?_
    refine x_icmp_ne dX8_refusalOfParent_26 ⟨by omega, by omega⟩ ⟨by omega, by omega⟩ (fun qc26q => ?_) (fun qc26q => ?_)
    · refine x_aload_n dX8_refusalOfParent_32 rfl ?_
      refine s_get dX8_refusalOfParent_33 fX8_48 hX rfl ?_
      refine s_get dX8_refusalOfParent_36 fX8_84 hC0 rfl ?_
      refine x_iload_n dX8_refusalOfParent_39 rfl ?_
      refine p_V dX8_refusalOfParent_40 lX8_88 (c_X3_nodeOf sz hC.2.2.2 (z := z) ⟨by omega, by omega⟩) hCP.1 rfl rfl rfl rfl (by decide) ?_
      refine x_istore dX8_refusalOfParent_43 rfl rfl rfl ?_
      refine x_aload_n dX8_refusalOfParent_45 rfl ?_
      refine s_get dX8_refusalOfParent_46 fX8_48 hX rfl ?_
      refine s_get dX8_refusalOfParent_49 fX8_84 hC0 rfl ?_
      refine x_iload dX8_refusalOfParent_52 rfl ?_
      refine p_V dX8_refusalOfParent_54 lX8_88 (c_X3_nodeOf sz hC.2.2.2 (z := w) ⟨by omega, by omega⟩) hCP.1 rfl rfl rfl rfl (by decide) ?_
      refine x_istore dX8_refusalOfParent_57 rfl rfl rfl ?_
      refine x_iload dX8_refusalOfParent_59 rfl ?_
      refine x_iload dX8_refusalOfParent_61 rfl ?_
      refine x_icmp_eq dX8_refusalOfParent_63 ⟨by omega, by omega⟩ ⟨by omega, by omega⟩ (fun qc63q => ?_) (fun qc63q => ?_)
      · refine x_iconst dX8_refusalOfParent_87 ?_
        refine x_goto dX8_refusalOfParent_88 ?_
        first
          | exact K 1 (Or.inr rfl) ⟨fun _ => Or.inl (by omega), fun _ => rfl⟩ (by omega) (by omega)
          | exact K 1 (Or.inr rfl) ⟨fun _ => Or.inr (Classical.byContradiction fun q => by rw [if_neg q] at qc84q; omega), fun _ => rfl⟩ (by omega) (by omega)
          | exact K 0 (Or.inl rfl) ⟨fun q => by omega, fun q => by rcases q with q | q; omega; rw [if_pos q] at qc84q; omega⟩ (by omega) (by omega)
      · refine x_aload_n dX8_refusalOfParent_66 rfl ?_
        refine s_get dX8_refusalOfParent_67 fX8_48 hX rfl ?_
        refine s_get dX8_refusalOfParent_70 fX8_84 hC0 rfl ?_
        refine x_iload_n dX8_refusalOfParent_73 rfl ?_
        refine l_V dX8_refusalOfParent_74 lX8_245 (c_X3_nodesWithin sz hC.2.2.2 (z := z) (by omega) (by omega)) hCP.1 rfl rfl rfl rfl (by decide) ?_
        refine x_iload dX8_refusalOfParent_77 rfl ?_
        refine x_lshr dX8_refusalOfParent_79 (v := lN (nbs (pWit S.2.2.2.2 z) / 2 ^ (gN S.2.2.2.2 w).toNat)) (by rw [show gN S.2.2.2.2 w = (((gN S.2.2.2.2 w).toNat : Nat) : Int) by omega]; exact nbs_shr _ hw40 (by omega)) ?_
        refine x_lconst dX8_refusalOfParent_80 rfl ?_
        refine x_land dX8_refusalOfParent_81 (v := lN (if (gN S.2.2.2.2 w).toNat ∈ pWit S.2.2.2.2 z then 1 else 0)) (nbs_and _) ?_
        refine x_lconst dX8_refusalOfParent_82 rfl ?_
        refine x_lcmp dX8_refusalOfParent_83 (cmp1 _) ?_
        refine x_if_ne dX8_refusalOfParent_84 ⟨by split <;> omega, by split <;> omega⟩ (fun qc84q => ?_) (fun qc84q => ?_)
        · refine x_iconst dX8_refusalOfParent_91 ?_
          first
            | exact K 1 (Or.inr rfl) ⟨fun _ => Or.inl (by omega), fun _ => rfl⟩ (by omega) (by omega)
            | exact K 1 (Or.inr rfl) ⟨fun _ => Or.inr (Classical.byContradiction fun q => by rw [if_neg q] at qc84q; omega), fun _ => rfl⟩ (by omega) (by omega)
            | exact K 0 (Or.inl rfl) ⟨fun q => by omega, fun q => by rcases q with q | q; omega; rw [if_pos q] at qc84q; omega⟩ (by omega) (by omega)
        · refine x_iconst dX8_refusalOfParent_87 ?_
          refine x_goto dX8_refusalOfParent_88 ?_
          first
            | exact K 1 (Or.inr rfl) ⟨fun _ => Or.inl (by omega), fun _ => rfl⟩ (by omega) (by omega)
            | exact K 1 (Or.inr rfl) ⟨fun _ => Or.inr (Classical.byContradiction fun q => by rw [if_neg q] at qc84q; omega), fun _ => rfl⟩ (by omega) (by omega)
            | exact K 0 (Or.inl rfl) ⟨fun q => by omega, fun q => by rcases q with q | q; omega; rw [if_pos q] at qc84q; omega⟩ (by omega) (by omega)
    · refine x_bipush dX8_refusalOfParent_29 (by decide) ?_
      refine x_ireturn dX8_refusalOfParent_31 rfl ?_
      exact ⟨_, rfl, rfl, Or.inl ⟨by omega, rfl⟩⟩
theorem c_X8_accept (sz : Nat) {h : AH} {x b c d : Nat} {t : List Int} {hs : List CS} {sp S D : CS} (hO : OuR h x t hs sp b c d S D) : CC mX8_accept 4 0 0 [.ref x] sz h (QV (fun h' => OuR h' x t (hPush hs S) sp b d c D S ∧ Fr h h' x (x + 107))) := by
  refine CC.intro [some (.ref x), none] pfX8_accept rfl rfl ?_
  have hO0 := hO
  obtain ⟨hX, hT, hRe, hRo, hHi, hSp, hC, hD, hcd⟩ := hO
  have hC0 := hC.1
  have hD0 := hD.1
  obtain ⟨_, _, _, ⟨hHs, -⟩, -⟩ := id hHi
  obtain ⟨_, _, hRs, -, -⟩ := id hRo
  refine x_aload_n dX8_accept_0 rfl ?_
  refine s_get dX8_accept_1 fX8_33 hX rfl ?_
  refine x_aload_n dX8_accept_4 rfl ?_
  refine s_get dX8_accept_5 fX8_48 hX rfl ?_
  refine v_V dX8_accept_8 lX8_272 (c_X0_push sz hHi hC (by omega)) hHs.1 rfl rfl rfl rfl (by decide) (fun h1 ⟨hHi, hFa⟩ => ?_)
  have hX := hX.mv hFa (by omega)
  have hT := hT.mv hFa (by omega)
  have hRe := hRe.mv hFa (by omega)
  have hRo := hRo.mv hFa (by omega)
  have hRs := hRs.mv hFa (by omega)
  have hSp := hSp.mv hFa (by omega)
  have hC := hC.mv hFa (by omega)
  have hD := hD.mv hFa (by omega)
  have hC0 := hC.1
  have hD0 := hD.1
  have hG1 := hFa.wd (lo' := x) (hi' := x + 107) (by omega) (by omega)
  clear hO0
  refine x_aload_n dX8_accept_11 rfl ?_
  refine s_get dX8_accept_12 fX8_48 hX rfl ?_
  refine x_astore_n dX8_accept_15 rfl rfl rfl ?_
  refine x_aload_n dX8_accept_16 rfl ?_
  refine x_aload_n dX8_accept_17 rfl ?_
  refine s_get dX8_accept_18 fX8_51 hX rfl ?_
  refine s_putr dX8_accept_21 fX8_48 hX rfl (fun h2 hX hF => ?_)
  have hFb := hF
  refine x_aload_n dX8_accept_24 rfl ?_
  refine x_aload_n dX8_accept_25 rfl ?_
  refine s_putr dX8_accept_26 fX8_51 hX rfl (fun h3 hX hF => ?_)
  have hFc := hF
  have hFd := hX.fr
  have hG2 := hG1.tr (hFd.wd (lo' := x) (hi' := x + 107) (by omega) (by omega))
  have hT := hT.mv hFd (by omega)
  have hRe := hRe.mv hFd (by omega)
  have hRo := hRo.mv hFd (by omega)
  have hRs := hRs.mv hFd (by omega)
  have hHi := hHi.mv hFd (by omega)
  have hSp := hSp.mv hFd (by omega)
  have hC := hC.mv hFd (by omega)
  have hD := hD.mv hFd (by omega)
  have hD0 := hD.1
  refine x_aload_n dX8_accept_29 rfl ?_
  refine s_get dX8_accept_30 fX8_26 hX rfl ?_
  refine x_aload_n dX8_accept_33 rfl ?_
  refine s_get dX8_accept_34 fX8_48 hX rfl ?_
  refine s_get dX8_accept_37 fX8_84 hD0 rfl ?_
  refine v_V dX8_accept_40 lX8_207 (c_X5_refresh sz hRo hD.2.2.2 (by omega)) hRs.1 rfl rfl rfl rfl (by decide) (fun h4 ⟨hRo, hFe⟩ => ?_)
  refine x_vreturn dX8_accept_43 rfl ?_
  exact ⟨rfl, ⟨hX.st.mv hFe (by omega), hT.mv hFe (by omega), hRe.mv hFe (by omega), hRo, hHi.mv hFe (by omega), hSp.mv hFe (by omega), hD.mv hFe (by omega), hC.mv hFe (by omega), by omega⟩, hG2.tr (hFe.wd (by omega) (by omega))⟩
