theorem SO.at {h h' : AH} {p w ci : Nat} {fs : List Value} {as : List (Nat × Nat × (Nat → Int))} (a : SO h h p w ci fs as) (f : ∀ q, p ≤ q → q < p + w → h' q = h q) : SO h' h' p w ci fs as := by
  have hw := a.2.2.1
  refine ⟨(f p (by omega) (by omega)).trans a.1, fun j x hx => (f _ (by omega) ?_).trans (a.2.1 j x hx), a.2.2.1, fun _ _ => rfl⟩
  have hj := (List.getElem?_eq_some_iff.mp hx).1
  omega
theorem StR.at {h h' : AH} {q : Nat} {S : CS} (a : StR h q S) (f : ∀ a, q ≤ a → a < q + 12 → h' a = h a) : StR h' q S := by
  obtain ⟨a1, ⟨m, l, c, a2, a2'⟩, ⟨u, v, a3, a3'⟩, ⟨n, y, z, a4, a4'⟩⟩ := a
  exact ⟨a1.at (fun a h1 h2 => f a (by omega) (by omega)), ⟨m, l, c, a2.at (fun a h1 h2 => f a (by omega) (by omega)), a2'⟩, ⟨u, v, a3.at (fun a h1 h2 => f a (by omega) (by omega)), a3'⟩, ⟨n, y, z, a4.at (fun a h1 h2 => f a (by omega) (by omega)), a4'⟩⟩
theorem OuR.dr {h h' : AH} {x b c d : Nat} {t : List Int} {hs : List CS} {sp S D D' : CS} (a : OuR h x t hs sp b c d S D) (hD : StR h' d D') (f : Fr h h' d (d + 12)) : OuR h' x t hs sp b c d S D' := by
  obtain ⟨a1, a2, a3, a4, a5, a6, a7, a8, a9⟩ := a
  exact ⟨a1.mv f (by omega), a2.mv f (by omega), a3.mv f (by omega), a4.mv f (by omega), a5.mv f (by omega), a6.mv f (by omega), a7.mv f (by omega), hD, a9⟩
theorem OuR.dP {h h' : AH} {x b c d : Nat} {t : List Int} {hs : List CS} {sp S D : CS} {pl : List PE} (a : OuR h x t hs sp b c d S D) (hP : PlR h' (d + 8) pl) (f : Fr h h' (d + 8) (d + 8 + 4)) : OuR h' x t hs sp b c d S (D.1, D.2.1, D.2.2.1, D.2.2.2.1, pl) := by
  have hD := a.2.2.2.2.2.2.2.1
  exact a.dr ⟨hD.1.mv f (by omega), hD.2.1.mv f (by omega), hD.2.2.1.mv f (by omega), hP⟩ (f.wd (by omega) (by omega))
theorem OuR.dN {h h' : AH} {x b c d e : Nat} {t : List Int} {hs : List CS} {sp S D : CS} {tx : Nat → List Int} {mk : Nat → Nat} (a : OuR h x t hs sp b c d S D) (hN : NoR h' (d + 1) e tx mk) (f : Fr h h' (d + 1) (d + 1 + 4)) : OuR h' x t hs sp b c d S (e, tx, mk, D.2.2.2.1, D.2.2.2.2) := by
  have hD := a.2.2.2.2.2.2.2.1
  exact a.dr ⟨hD.1.mv f (by omega), hN, hD.2.2.1.mv f (by omega), hD.2.2.2.mv f (by omega)⟩ (f.wd (by omega) (by omega))
theorem OuR.dL {h h' : AH} {x b c d : Nat} {t : List Int} {hs : List CS} {sp S D : CS} {L : List LK} (a : OuR h x t hs sp b c d S D) (hL : LiR h' (d + 5) L) (f : Fr h h' (d + 5) (d + 5 + 3)) : OuR h' x t hs sp b c d S (D.1, D.2.1, D.2.2.1, L, D.2.2.2.2) := by
  have hD := a.2.2.2.2.2.2.2.1
  exact a.dr ⟨hD.1.mv f (by omega), hD.2.1.mv f (by omega), hL, hD.2.2.2.mv f (by omega)⟩ (f.wd (by omega) (by omega))
theorem OuR.A {h : AH} {x b c d : Nat} {t : List Int} {hs : List CS} {sp S D : CS} (a : OuR h x t hs sp b c d S D) : OuA h x (t, hs, sp, b, S) := ⟨c, d, D, a⟩
def rwN (S : CS) : Int := (cB (sn S.2.2.2.2) S.2.2.2.2.length : Int)
/-- an act is done: the state was pushed -/
def Done (A : AS) (S' : CS) : AS := (A.1, hPush A.2.1 A.2.2.2.2, A.2.2.1, A.2.2.2.1, S')
def SpType (A : AS) (c z : Int) (A' : AS) : Prop := (A.1.length < 60 ∧ z = (A.1.length : Int) + 1 ∧ A' = (A.1 ++ [c], A.2)) ∨ (60 ≤ A.1.length ∧ z = -4 ∧ A' = A)
def SpClear (A : AS) (z : Int) (A' : AS) : Prop := z = (A.1.length : Int) ∧ A' = ([], A.2)
def SpUndo (A : AS) (z : Int) (A' : AS) : Prop := (A.2.1 = [] ∧ z = -6 ∧ A' = A) ∨ (∃ hs1 S1, A.2.1 = hs1 ++ [S1] ∧ z = (hs1.length : Int) ∧ A' = (A.1, hs1, A.2.2.1, A.2.2.2.1, S1))
def SpKeep (A : AS) (z : Int) (A' : AS) : Prop := z = rwN A.2.2.2.2 ∧ A' = (A.1, A.2.1, A.2.2.2.2, 1, A.2.2.2.2)
def SpRest (A : AS) (z : Int) (A' : AS) : Prop := (A.2.2.2.1 = 0 ∧ z = -6 ∧ A' = A) ∨ (A.2.2.2.1 ≠ 0 ∧ z = rwN A.2.2.1 ∧ A' = Done A A.2.2.1)
def SpFold (A : AS) (r f z : Int) (A' : AS) : Prop := let S := A.2.2.2.2; let k := plZ S.2.2.2.2 r
  (k = -2 ∧ z = -2 ∧ A' = A) ∨ (k ≠ -2 ∧ ¬ gV S.2.2.2.2 k < gV S.2.2.2.2 (k + 1) ∧ z = -5 ∧ A' = A) ∨ (k ≠ -2 ∧ gV S.2.2.2.2 k < gV S.2.2.2.2 (k + 1) ∧ gF S.2.2.2.2 k = f ∧ z = -6 ∧ A' = A) ∨
  (k ≠ -2 ∧ gV S.2.2.2.2 k < gV S.2.2.2.2 (k + 1) ∧ gF S.2.2.2.2 k ≠ f ∧ A' = Done A (S.1, S.2.1, S.2.2.1, S.2.2.2.1, pSet S.2.2.2.2 k.toNat f.toNat) ∧ z = rwN A'.2.2.2.2)
def SpFLev (A : AS) (v z : Int) (A' : AS) : Prop := let S := A.2.2.2.2; let ch := ∃ k, k < S.2.2.2.2.length ∧ fLv S.2.2.2.2 v k ≠ pf S.2.2.2.2 k
  (¬ (1 ≤ v ∧ v ≤ 40) ∧ z = -3 ∧ A' = A) ∨ ((1 ≤ v ∧ v ≤ 40) ∧ ¬ ch ∧ z = -6 ∧ A' = A) ∨ ((1 ≤ v ∧ v ≤ 40) ∧ ch ∧ A' = Done A (S.1, S.2.1, S.2.2.1, S.2.2.2.1, pFL S.2.2.2.2 v S.2.2.2.2.length) ∧ z = rwN A'.2.2.2.2)
def SpShow (A : AS) (y z : Int) (A' : AS) : Prop := let S := A.2.2.2.2; let k := pFst S.2.2.2.2 y; let l := arr S.2.2.2.2 k.toNat (gV S.2.2.2.2 k); let ch := l.any (fun j => decide (pf S.2.2.2.2 j = 1)) = true
  (k = -2 ∧ z = -2 ∧ A' = A) ∨ (k ≠ -2 ∧ ¬ ch ∧ z = -6 ∧ A' = A) ∨ (k ≠ -2 ∧ ch ∧ A' = Done A (S.1, S.2.1, S.2.2.1, S.2.2.2.1, pUn S.2.2.2.2 l) ∧ z = rwZ A'.2.2.2.2.2.2.2.2 k)
def SpEdit (A : AS) (r z : Int) (A' : AS) : Prop := let S := A.2.2.2.2; let k := plZ S.2.2.2.2 r; let n := (gN S.2.2.2.2 k).toNat
  (k = -2 ∧ z = -2 ∧ A' = A) ∨ (k ≠ -2 ∧ ¬ (1 ≤ A.1.length ∧ A.1.length ≤ 8) ∧ z = -3 ∧ A' = A) ∨ (k ≠ -2 ∧ (1 ≤ A.1.length ∧ A.1.length ≤ 8) ∧ S.2.1 n = A.1 ∧ z = -6 ∧ A' = A) ∨
  (k ≠ -2 ∧ (1 ≤ A.1.length ∧ A.1.length ≤ 8) ∧ S.2.1 n ≠ A.1 ∧ A' = Done A (S.1, fU S.2.1 n A.1, S.2.2.1, S.2.2.2.1, S.2.2.2.2) ∧ z = pCnt S.2.2.2.2 (gN S.2.2.2.2 k))
def SpMark (A : AS) (r v z : Int) (A' : AS) : Prop := let S := A.2.2.2.2; let k := plZ S.2.2.2.2 r; let n := (gN S.2.2.2.2 k).toNat
  (k = -2 ∧ z = -2 ∧ A' = A) ∨ (k ≠ -2 ∧ ¬ (0 ≤ v ∧ v < 5) ∧ z = -3 ∧ A' = A) ∨ (k ≠ -2 ∧ (0 ≤ v ∧ v < 5) ∧ A' = Done A (S.1, S.2.1, fU S.2.2.1 n (S.2.2.1 n ^^^ 2 ^ v.toNat), S.2.2.2.1, S.2.2.2.2) ∧ z = ((S.2.2.1 n ^^^ 2 ^ v.toNat : Nat) : Int))

theorem c_X8_type (sz : Nat) {h : AH} {x b c d : Nat} {t : List Int} {hs : List CS} {sp S D : CS} (hO : OuR h x t hs sp b c d S D) {ch : Int} (hch : 0 ≤ ch ∧ ch < 65536) : CC mX8_type 1 0 0 [.ref x, .int (zI ch)] sz h (QI (fun z h' => ∃ A', SpType (t, hs, sp, b, S) ch z A' ∧ OuA h' x A' ∧ Fr h h' x (x + 107))) := by
  refine CC.intro [some (.ref x), some (.int (zI ch))] pfX8_type rfl rfl ?_
  have hO0 := hO
  obtain ⟨hX, hT, hRe, hRo, hHi, hSp, hC, hD, hcd⟩ := id hO
  have hC0 := hC.1
  have hD0 := hD.1
  have hSp0 := hSp.1
  obtain ⟨_, hTs, -, -⟩ := id hT
  obtain ⟨_, _, hRs, -, -⟩ := id hRo
  obtain ⟨_, _, _, hCN, -, -⟩ := id hC.2.1
  obtain ⟨_, _, hCL, -, -⟩ := id hC.2.2.1
  obtain ⟨_, _, _, hCP, -, -⟩ := id hC.2.2.2
  obtain ⟨_, _, _, hDN, -, -⟩ := id hD.2.1
  obtain ⟨_, _, hDL, -, -⟩ := id hD.2.2.1
  obtain ⟨_, _, _, hDP, -, -⟩ := id hD.2.2.2
  obtain ⟨_, _, _, ⟨hHs, -⟩, -⟩ := id hHi
  have hpB := hC.2.2.2.B
  have hpl := hpB.1
  refine x_aload_n dX8_type_0 rfl ?_
  refine s_get dX8_type_1 fX8_10 hX rfl ?_
  refine x_iload_n dX8_type_4 rfl ?_
  refine i_V dX8_type_5 lX8_185 (c_X7_append sz hT hch) hTs.1 rfl rfl rfl rfl (by decide) (fun r h1 hr => ?_)
  refine x_if_eq dX8_type_8 ⟨by rcases hr with q | q <;> omega, by rcases hr with q | q <;> omega⟩ (fun qc8q => ?_) (fun qc8q => ?_)
  · obtain ⟨q1, q2, q3⟩ : 60 ≤ t.length ∧ r = 0 ∧ h1 = h := by
      rcases hr with q | q
      · omega
      · exact q
    subst q3
    refine x_bipush dX8_type_21 (by decide) ?_
    refine x_ireturn dX8_type_23 rfl ?_
    first
      | (refine ⟨_, rfl, (t ++ [ch], hs, sp, b, S), Or.inl ⟨q1, ?_, rfl⟩, OuR.A ⟨hX, q3, hRe.mv q4 (by omega), hRo.mv q4 (by omega), hHi.mv q4 (by omega), hSp.mv q4 (by omega), hC.mv q4 (by omega), hD.mv q4 (by omega), hcd⟩, q4.wd (by omega) (by omega)⟩
         rw [List.length_append]; simp; done)
      | exact ⟨_, rfl, (t, hs, sp, b, S), Or.inr ⟨q1, rfl, rfl⟩, hO0.A, Fr.rf⟩
  · obtain ⟨q1, q2, q3, q4⟩ : t.length < 60 ∧ r = 1 ∧ TyR h1 (x + 1) (t ++ [ch]) ∧ Fr h h1 (x + 1) (x + 1 + 2) := by
      rcases hr with q | q
      · exact q
      · omega
    have hX := hX.mv q4 (by omega)
    obtain ⟨_, hTs, -, -⟩ := id q3
    refine x_aload_n dX8_type_11 rfl ?_
    refine s_get dX8_type_12 fX8_10 hX rfl ?_
    refine s_get dX8_type_15 fX8_189 hTs rfl ?_
    refine x_goto dX8_type_18 ?_
    refine x_ireturn dX8_type_23 rfl ?_
    first
      | (refine ⟨_, rfl, (t ++ [ch], hs, sp, b, S), Or.inl ⟨q1, ?_, rfl⟩, OuR.A ⟨hX, q3, hRe.mv q4 (by omega), hRo.mv q4 (by omega), hHi.mv q4 (by omega), hSp.mv q4 (by omega), hC.mv q4 (by omega), hD.mv q4 (by omega), hcd⟩, q4.wd (by omega) (by omega)⟩
         rw [List.length_append]; simp; done)
      | exact ⟨_, rfl, (t, hs, sp, b, S), Or.inr ⟨q1, rfl, rfl⟩, hO0.A, Fr.rf⟩
theorem c_X8_clearText (sz : Nat) {h : AH} {x b c d : Nat} {t : List Int} {hs : List CS} {sp S D : CS} (hO : OuR h x t hs sp b c d S D) : CC mX8_clearText 0 0 0 [.ref x] sz h (QI (fun z h' => ∃ A', SpClear (t, hs, sp, b, S) z A' ∧ OuA h' x A' ∧ Fr h h' x (x + 107))) := by
  refine CC.intro [some (.ref x), none] pfX8_clearText rfl rfl ?_
  have hO0 := hO
  obtain ⟨hX, hT, hRe, hRo, hHi, hSp, hC, hD, hcd⟩ := id hO
  have hC0 := hC.1
  have hD0 := hD.1
  have hSp0 := hSp.1
  obtain ⟨_, hTs, -, -⟩ := id hT
  obtain ⟨_, _, hRs, -, -⟩ := id hRo
  obtain ⟨_, _, _, hCN, -, -⟩ := id hC.2.1
  obtain ⟨_, _, hCL, -, -⟩ := id hC.2.2.1
  obtain ⟨_, _, _, hCP, -, -⟩ := id hC.2.2.2
  obtain ⟨_, _, _, hDN, -, -⟩ := id hD.2.1
  obtain ⟨_, _, hDL, -, -⟩ := id hD.2.2.1
  obtain ⟨_, _, _, hDP, -, -⟩ := id hD.2.2.2
  obtain ⟨_, _, _, ⟨hHs, -⟩, -⟩ := id hHi
  have hpB := hC.2.2.2.B
  have hpl := hpB.1
  refine x_aload_n dX8_clearText_0 rfl ?_
  refine s_get dX8_clearText_1 fX8_10 hX rfl ?_
  refine s_get dX8_clearText_4 fX8_189 hTs rfl ?_
  refine x_istore_n dX8_clearText_7 rfl rfl rfl ?_
  refine x_aload_n dX8_clearText_8 rfl ?_
  refine s_get dX8_clearText_9 fX8_10 hX rfl ?_
  refine x_iconst dX8_clearText_12 ?_
  refine s_puti dX8_clearText_13 fX8_189 hTs rfl (fun h1 hTs hF => ?_)
  have hX := hX.mv hF (by omega)
  refine x_iload_n dX8_clearText_16 rfl ?_
  refine x_ireturn dX8_clearText_17 rfl ?_
  refine ⟨_, rfl, ([], hs, sp, b, S), ⟨rfl, rfl⟩, OuR.A ⟨hX, ⟨_, hTs.st, ⟨by simp, by simp⟩, fun i hi => by simp at hi⟩, hRe.mv hF (by omega), hRo.mv hF (by omega), hHi.mv hF (by omega), hSp.mv hF (by omega), hC.mv hF (by omega), hD.mv hF (by omega), hcd⟩, hF.wd (by omega) (by omega)⟩
theorem c_X8_undo (sz : Nat) {h : AH} {x b c d : Nat} {t : List Int} {hs : List CS} {sp S D : CS} (hO : OuR h x t hs sp b c d S D) : CC mX8_undo 4 0 0 [.ref x] sz h (QI (fun z h' => ∃ A', SpUndo (t, hs, sp, b, S) z A' ∧ OuA h' x A' ∧ Fr h h' x (x + 107))) := by
  refine CC.intro [some (.ref x)] pfX8_undo rfl rfl ?_
  have hO0 := hO
  obtain ⟨hX, hT, hRe, hRo, hHi, hSp, hC, hD, hcd⟩ := id hO
  have hC0 := hC.1
  have hD0 := hD.1
  have hSp0 := hSp.1
  obtain ⟨_, hTs, -, -⟩ := id hT
  obtain ⟨_, _, hRs, -, -⟩ := id hRo
  obtain ⟨_, _, _, hCN, -, -⟩ := id hC.2.1
  obtain ⟨_, _, hCL, -, -⟩ := id hC.2.2.1
  obtain ⟨_, _, _, hCP, -, -⟩ := id hC.2.2.2
  obtain ⟨_, _, _, hDN, -, -⟩ := id hD.2.1
  obtain ⟨_, _, hDL, -, -⟩ := id hD.2.2.1
  obtain ⟨_, _, _, hDP, -, -⟩ := id hD.2.2.2
  obtain ⟨_, _, _, ⟨hHs, -⟩, -⟩ := id hHi
  have hpB := hC.2.2.2.B
  have hpl := hpB.1
  refine x_aload_n dX8_undo_0 rfl ?_
  refine s_get dX8_undo_1 fX8_33 hX rfl ?_
  refine x_aload_n dX8_undo_4 rfl ?_
  refine s_get dX8_undo_5 fX8_48 hX rfl ?_
  refine i_V dX8_undo_8 lX8_203 (c_X0_popInto sz hHi hC (by omega)) hHs.1 rfl rfl rfl rfl (by decide) (fun r h1 hr => ?_)
  refine x_if_ne dX8_undo_11 ⟨by rcases hr with q | ⟨_, _, q⟩ <;> omega, by rcases hr with q | ⟨_, _, q⟩ <;> omega⟩ (fun qc11q => ?_) (fun qc11q => ?_)
  · obtain ⟨hs1, S1, q1, q2, q3, q4, q5⟩ : ∃ hs1 S1, hs = hs1 ++ [S1] ∧ r = 1 ∧ HiR h1 (x + 9) hs1 ∧ StR h1 c S1 ∧ (∀ a, ¬ (x + 9 ≤ a ∧ a < x + 9 + 62) → ¬ (c ≤ a ∧ a < c + 12) → h1 a = h a) := by
      rcases hr with q | q
      · omega
      · exact q
    have hG : Fr h h1 x (x + 107) := fun a ha => q5 a (by omega) (by omega)
    have f1 : Fr h h1 (x + 9) (x + 107) := fun a ha => q5 a (by omega) (by omega)
    have hX := hX.mv f1 (by omega)
    have hT := hT.mv f1 (by omega)
    have hRe := hRe.mv f1 (by omega)
    have hRo := hRo.mv f1 (by omega)
    have hRs := hRs.mv f1 (by omega)
    have hC0 := q4.1
    obtain ⟨_, _, _, hCP, -, -⟩ := id q4.2.2.2
    have hSp : StR h1 (x + 71) sp := StR.at (h := h) hSp (fun a h1 h2 => q5 a (by omega) (by omega))
    have hD : StR h1 d D := StR.at (h := h) hD (fun a h1 h2 => q5 a (by omega) (by omega))
    refine x_aload_n dX8_undo_17 rfl ?_
    refine s_get dX8_undo_18 fX8_26 hX rfl ?_
    refine x_aload_n dX8_undo_21 rfl ?_
    refine s_get dX8_undo_22 fX8_48 hX rfl ?_
    refine s_get dX8_undo_25 fX8_84 hC0 rfl ?_
    refine v_V dX8_undo_28 lX8_207 (c_X5_refresh sz hRo q4.2.2.2 (by omega)) hRs.1 rfl rfl rfl rfl (by decide) (fun h2 ⟨hRo, hFn⟩ => ?_)
    have hX := hX.mv hFn (by omega)
    have q3 := q3.mv hFn (by omega)
    obtain ⟨_, _, _, ⟨hHs, -⟩, -⟩ := id q3
    refine x_aload_n dX8_undo_31 rfl ?_
    refine s_get dX8_undo_32 fX8_33 hX rfl ?_
    refine s_get dX8_undo_35 fX8_211 hHs rfl ?_
    refine x_ireturn dX8_undo_38 rfl ?_
    exact ⟨_, rfl, (t, hs1, sp, b, S1), Or.inr ⟨hs1, S1, q1, rfl, rfl⟩, OuR.A ⟨hX, hT.mv hFn (by omega), hRe.mv hFn (by omega), hRo, q3, hSp.mv hFn (by omega), q4.mv hFn (by omega), hD.mv hFn (by omega), hcd⟩, hG.tr (hFn.wd (by omega) (by omega))⟩
  · obtain ⟨q1, q2, q3⟩ : hs = [] ∧ r = 0 ∧ h1 = h := by
      rcases hr with q | ⟨_, _, q⟩
      · exact q
      · omega
    subst q3
    refine x_bipush dX8_undo_14 (by decide) ?_
    refine x_ireturn dX8_undo_16 rfl ?_
    exact ⟨_, rfl, (t, hs, sp, b, S), Or.inl ⟨q1, rfl, rfl⟩, hO0.A, Fr.rf⟩
theorem c_X8_restore (sz : Nat) {h : AH} {x b c d : Nat} {t : List Int} {hs : List CS} {sp S D : CS} (hb1 : b ≤ 1) (hO : OuR h x t hs sp b c d S D) : CC mX8_restore 5 0 0 [.ref x] sz h (QI (fun z h' => ∃ A', SpRest (t, hs, sp, b, S) z A' ∧ OuA h' x A' ∧ Fr h h' x (x + 107))) := by
  refine CC.intro [some (.ref x)] pfX8_restore rfl rfl ?_
  have hO0 := hO
  obtain ⟨hX, hT, hRe, hRo, hHi, hSp, hC, hD, hcd⟩ := id hO
  have hC0 := hC.1
  have hD0 := hD.1
  have hSp0 := hSp.1
  obtain ⟨_, hTs, -, -⟩ := id hT
  obtain ⟨_, _, hRs, -, -⟩ := id hRo
  obtain ⟨_, _, _, hCN, -, -⟩ := id hC.2.1
  obtain ⟨_, _, hCL, -, -⟩ := id hC.2.2.1
  obtain ⟨_, _, _, hCP, -, -⟩ := id hC.2.2.2
  obtain ⟨_, _, _, hDN, -, -⟩ := id hD.2.1
  obtain ⟨_, _, hDL, -, -⟩ := id hD.2.2.1
  obtain ⟨_, _, _, hDP, -, -⟩ := id hD.2.2.2
  obtain ⟨_, _, _, ⟨hHs, -⟩, -⟩ := id hHi
  have hpB := hC.2.2.2.B
  have hpl := hpB.1
  refine x_aload_n dX8_restore_0 rfl ?_
  refine s_get dX8_restore_1 fX8_44 hX rfl ?_
  refine x_if_ne dX8_restore_4 ⟨by omega, by omega⟩ (fun qc4q => ?_) (fun qc4q => ?_)
  · refine x_aload_n dX8_restore_10 rfl ?_
    refine s_get dX8_restore_11 fX8_51 hX rfl ?_
    refine x_aload_n dX8_restore_14 rfl ?_
    refine s_get dX8_restore_15 fX8_40 hX rfl ?_
    refine v_V dX8_restore_18 lX8_72 (c_X6_copyFrom sz hD hSp (by omega)) hD0.1 rfl rfl rfl rfl (by decide) (fun h1 ⟨hDn, hFn⟩ => ?_)
    have hO := hO.dr hDn hFn
    have hG : Fr h h1 x (x + 107) := hFn.wd (by omega) (by omega)
    clear hX hT hRe hRo hHi hSp hC hD hcd hC0 hD0 hSp0 hTs hRs hCN hCL hCP hDN hDL hDP hHs
    obtain ⟨hX, hT, hRe, hRo, hHi, hSp, hC, hD, hcd⟩ := id hO
    have hC0 := hC.1
    have hD0 := hD.1
    have hSp0 := hSp.1
    obtain ⟨_, hTs, -, -⟩ := id hT
    obtain ⟨_, _, hRs, -, -⟩ := id hRo
    obtain ⟨_, _, _, hCN, -, -⟩ := id hC.2.1
    obtain ⟨_, _, hCL, -, -⟩ := id hC.2.2.1
    obtain ⟨_, _, _, hCP, -, -⟩ := id hC.2.2.2
    obtain ⟨_, _, _, hDN, -, -⟩ := id hD.2.1
    obtain ⟨_, _, hDL, -, -⟩ := id hD.2.2.1
    obtain ⟨_, _, _, hDP, -, -⟩ := id hD.2.2.2
    obtain ⟨_, _, _, ⟨hHs, -⟩, -⟩ := id hHi
    refine x_aload_n dX8_restore_21 rfl ?_
    refine v_V dX8_restore_22 lX8_131 (c_X8_accept sz hO) hX.1 rfl rfl rfl rfl (by decide) (fun h2 ⟨hO, hFn⟩ => ?_)
    have hG : Fr h h2 x (x + 107) := hG.tr hFn
    clear hX hT hRe hRo hHi hSp hC hD hcd hC0 hD0 hSp0 hTs hRs hCN hCL hCP hDN hDL hDP hHs
    obtain ⟨hX, hT, hRe, hRo, hHi, hSp, hC, hD, hcd⟩ := id hO
    have hC0 := hC.1
    have hD0 := hD.1
    have hSp0 := hSp.1
    obtain ⟨_, hTs, -, -⟩ := id hT
    obtain ⟨_, _, hRs, -, -⟩ := id hRo
    obtain ⟨_, _, _, hCN, -, -⟩ := id hC.2.1
    obtain ⟨_, _, hCL, -, -⟩ := id hC.2.2.1
    obtain ⟨_, _, _, hCP, -, -⟩ := id hC.2.2.2
    obtain ⟨_, _, _, hDN, -, -⟩ := id hD.2.1
    obtain ⟨_, _, hDL, -, -⟩ := id hD.2.2.1
    obtain ⟨_, _, _, hDP, -, -⟩ := id hD.2.2.2
    obtain ⟨_, _, _, ⟨hHs, -⟩, -⟩ := id hHi
    refine x_aload_n dX8_restore_25 rfl ?_
    refine s_get dX8_restore_26 fX8_26 hX rfl ?_
    refine s_get dX8_restore_29 fX8_170 hRs rfl ?_
    refine x_ireturn dX8_restore_32 rfl ?_
    exact ⟨_, rfl, Done (t, hs, sp, b, S) sp, Or.inr ⟨by show b ≠ 0; omega, rfl, rfl⟩, hO.A, hG⟩
  · refine x_bipush dX8_restore_7 (by decide) ?_
    refine x_ireturn dX8_restore_9 rfl ?_
    exact ⟨_, rfl, (t, hs, sp, b, S), Or.inl ⟨by show b = 0; omega, rfl, rfl⟩, hO0.A, Fr.rf⟩
theorem c_X8_fold (sz : Nat) {h : AH} {x b c d : Nat} {t : List Int} {hs : List CS} {sp S D : CS} (hO : OuR h x t hs sp b c d S D) {r : Int} {f : Nat} (hr : inR r) (hf : f ≤ 1) : CC mX8_fold 5 0 0 [.ref x, .int (zI r), .int (zI f)] sz h (QI (fun z h' => ∃ A', SpFold (t, hs, sp, b, S) r f z A' ∧ OuA h' x A' ∧ Fr h h' x (x + 107))) := by
  refine CC.intro [some (.ref x), some (.int (zI r)), some (.int (zI f)), none, none] pfX8_fold rfl rfl ?_
  have hO0 := hO
  obtain ⟨hX, hT, hRe, hRo, hHi, hSp, hC, hD, hcd⟩ := id hO
  have hC0 := hC.1
  have hD0 := hD.1
  have hSp0 := hSp.1
  obtain ⟨_, hTs, -, -⟩ := id hT
  obtain ⟨_, _, hRs, -, -⟩ := id hRo
  obtain ⟨_, _, _, hCN, -, -⟩ := id hC.2.1
  obtain ⟨_, _, hCL, -, -⟩ := id hC.2.2.1
  obtain ⟨_, _, _, hCP, -, -⟩ := id hC.2.2.2
  obtain ⟨_, _, _, hDN, -, -⟩ := id hD.2.1
  obtain ⟨_, _, hDL, -, -⟩ := id hD.2.2.1
  obtain ⟨_, _, _, hDP, -, -⟩ := id hD.2.2.2
  obtain ⟨_, _, _, ⟨hHs, -⟩, -⟩ := id hHi
  have hpB := hC.2.2.2.B
  have hpl := hpB.1
  have hz := plZ_r S.2.2.2.2 r
  unfold SpFold
  dsimp only
  generalize hzz : plZ S.2.2.2.2 r = k at *
  refine x_aload_n dX8_fold_0 rfl ?_
  refine s_get dX8_fold_1 fX8_26 hX rfl ?_
  refine x_iload_n dX8_fold_4 rfl ?_
  refine p_V dX8_fold_5 lX8_107 (c_X5_placeOf sz hRo hr) hRs.1 rfl rfl rfl rfl (by decide) ?_
  rw [hzz]
  refine x_istore_n dX8_fold_8 rfl rfl rfl ?_
  refine x_iload_n dX8_fold_9 rfl ?_
  refine x_bipush dX8_fold_10 (by decide) ?_
  refine x_icmp_ne dX8_fold_12 ⟨by omega, by omega⟩ ⟨by omega, by omega⟩ (fun qc12q => ?_) (fun qc12q => ?_)
  · refine x_aload_n dX8_fold_18 rfl ?_
    refine s_get dX8_fold_19 fX8_48 hX rfl ?_
    refine s_get dX8_fold_22 fX8_84 hC0 rfl ?_
    refine x_iload_n dX8_fold_25 rfl ?_
    refine p_V dX8_fold_26 lX8_161 (c_X3_hasChildren sz hC.2.2.2 (z := k) (by omega) (by omega)) hCP.1 rfl rfl rfl rfl (by decide) ?_
    refine x_ifB_ne dX8_fold_29 (fun qc29q => ?_) (fun qc29q => ?_)
    · have hgf := gF_r hpB k
      refine x_iload_n dX8_fold_35 rfl ?_
      refine x_if_eq dX8_fold_36 ⟨by omega, by omega⟩ (fun qc36q => ?_) (fun qc36q => ?_)
      · have qe1q : f = 0 := by omega
        subst qe1q
        refine x_iconst dX8_fold_43 ?_
        refine x_istore dX8_fold_44 rfl rfl rfl ?_
        refine x_aload_n dX8_fold_46 rfl ?_
        refine s_get dX8_fold_47 fX8_48 hX rfl ?_
        refine s_get dX8_fold_50 fX8_84 hC0 rfl ?_
        refine x_iload_n dX8_fold_53 rfl ?_
        refine p_V dX8_fold_54 lX8_164 (c_X3_foldOf sz hC.2.2.2 (z := k) ⟨by omega, by omega⟩) hCP.1 rfl rfl rfl rfl (by decide) ?_
        refine x_iload dX8_fold_57 rfl ?_
        refine x_icmp_ne dX8_fold_59 ⟨by omega, by omega⟩ ⟨by omega, by omega⟩ (fun qc59q => ?_) (fun qc59q => ?_)
        · refine x_aload_n dX8_fold_65 rfl ?_
          refine s_get dX8_fold_66 fX8_51 hX rfl ?_
          refine x_aload_n dX8_fold_69 rfl ?_
          refine s_get dX8_fold_70 fX8_48 hX rfl ?_
          refine v_V dX8_fold_73 lX8_72 (c_X6_copyFrom sz hD hC (by omega)) hD0.1 rfl rfl rfl rfl (by decide) (fun h1 ⟨hDn, hFn⟩ => ?_)
          have hO := hO.dr hDn hFn
          have hG : Fr h h1 x (x + 107) := hFn.wd (by omega) (by omega)
          clear hX hT hRe hRo hHi hSp hC hD hcd hC0 hD0 hSp0 hTs hRs hCN hCL hCP hDN hDL hDP hHs
          obtain ⟨hX, hT, hRe, hRo, hHi, hSp, hC, hD, hcd⟩ := id hO
          have hC0 := hC.1
          have hD0 := hD.1
          have hSp0 := hSp.1
          obtain ⟨_, hTs, -, -⟩ := id hT
          obtain ⟨_, _, hRs, -, -⟩ := id hRo
          obtain ⟨_, _, _, hCN, -, -⟩ := id hC.2.1
          obtain ⟨_, _, hCL, -, -⟩ := id hC.2.2.1
          obtain ⟨_, _, _, hCP, -, -⟩ := id hC.2.2.2
          obtain ⟨_, _, _, hDN, -, -⟩ := id hD.2.1
          obtain ⟨_, _, hDL, -, -⟩ := id hD.2.2.1
          obtain ⟨_, _, _, hDP, -, -⟩ := id hD.2.2.2
          obtain ⟨_, _, _, ⟨hHs, -⟩, -⟩ := id hHi
          refine x_aload_n dX8_fold_76 rfl ?_
          refine s_get dX8_fold_77 fX8_51 hX rfl ?_
          refine s_get dX8_fold_80 fX8_84 hD0 rfl ?_
          refine x_iload_n dX8_fold_83 rfl ?_
          refine x_iload dX8_fold_84 rfl ?_
          refine v_V dX8_fold_86 lX8_167 (c_X3_setFold sz hD.2.2.2 (z := k) (f1 := 0) (by omega) (by omega) (by omega)) hDP.1 rfl rfl rfl rfl (by decide) (fun h2 ⟨hPn, hFn⟩ => ?_)
          have hO := hO.dP hPn hFn
          have hG : Fr h h2 x (x + 107) := hG.tr (hFn.wd (by omega) (by omega))
          clear hX hT hRe hRo hHi hSp hC hD hcd hC0 hD0 hSp0 hTs hRs hCN hCL hCP hDN hDL hDP hHs
          obtain ⟨hX, hT, hRe, hRo, hHi, hSp, hC, hD, hcd⟩ := id hO
          have hC0 := hC.1
          have hD0 := hD.1
          have hSp0 := hSp.1
          obtain ⟨_, hTs, -, -⟩ := id hT
          obtain ⟨_, _, hRs, -, -⟩ := id hRo
          obtain ⟨_, _, _, hCN, -, -⟩ := id hC.2.1
          obtain ⟨_, _, hCL, -, -⟩ := id hC.2.2.1
          obtain ⟨_, _, _, hCP, -, -⟩ := id hC.2.2.2
          obtain ⟨_, _, _, hDN, -, -⟩ := id hD.2.1
          obtain ⟨_, _, hDL, -, -⟩ := id hD.2.2.1
          obtain ⟨_, _, _, hDP, -, -⟩ := id hD.2.2.2
          obtain ⟨_, _, _, ⟨hHs, -⟩, -⟩ := id hHi
          refine x_aload_n dX8_fold_89 rfl ?_
          refine v_V dX8_fold_90 lX8_131 (c_X8_accept sz hO) hX.1 rfl rfl rfl rfl (by decide) (fun h3 ⟨hO, hFn⟩ => ?_)
          have hG : Fr h h3 x (x + 107) := hG.tr hFn
          clear hX hT hRe hRo hHi hSp hC hD hcd hC0 hD0 hSp0 hTs hRs hCN hCL hCP hDN hDL hDP hHs
          obtain ⟨hX, hT, hRe, hRo, hHi, hSp, hC, hD, hcd⟩ := id hO
          have hC0 := hC.1
          have hD0 := hD.1
          have hSp0 := hSp.1
          obtain ⟨_, hTs, -, -⟩ := id hT
          obtain ⟨_, _, hRs, -, -⟩ := id hRo
          obtain ⟨_, _, _, hCN, -, -⟩ := id hC.2.1
          obtain ⟨_, _, hCL, -, -⟩ := id hC.2.2.1
          obtain ⟨_, _, _, hCP, -, -⟩ := id hC.2.2.2
          obtain ⟨_, _, _, hDN, -, -⟩ := id hD.2.1
          obtain ⟨_, _, hDL, -, -⟩ := id hD.2.2.1
          obtain ⟨_, _, _, hDP, -, -⟩ := id hD.2.2.2
          obtain ⟨_, _, _, ⟨hHs, -⟩, -⟩ := id hHi
          refine x_aload_n dX8_fold_93 rfl ?_
          refine s_get dX8_fold_94 fX8_26 hX rfl ?_
          refine s_get dX8_fold_97 fX8_170 hRs rfl ?_
          refine x_ireturn dX8_fold_100 rfl ?_
          exact ⟨_, rfl, Done (t, hs, sp, b, S) (S.1, S.2.1, S.2.2.1, S.2.2.2.1, pSet S.2.2.2.2 k.toNat 0), Or.inr (Or.inr (Or.inr ⟨by omega, qc29q, by omega, rfl, rfl⟩)), hO.A, hG⟩
        · refine x_bipush dX8_fold_62 (by decide) ?_
          refine x_ireturn dX8_fold_64 rfl ?_
          exact ⟨_, rfl, (t, hs, sp, b, S), Or.inr (Or.inr (Or.inl ⟨by omega, qc29q, by omega, rfl, rfl⟩)), hO0.A, Fr.rf⟩
      · have qe1q : f = 1 := by omega
        subst qe1q
        refine x_iconst dX8_fold_39 ?_
        refine x_goto dX8_fold_40 ?_
        refine x_istore dX8_fold_44 rfl rfl rfl ?_
        refine x_aload_n dX8_fold_46 rfl ?_
        refine s_get dX8_fold_47 fX8_48 hX rfl ?_
        refine s_get dX8_fold_50 fX8_84 hC0 rfl ?_
        refine x_iload_n dX8_fold_53 rfl ?_
        refine p_V dX8_fold_54 lX8_164 (c_X3_foldOf sz hC.2.2.2 (z := k) ⟨by omega, by omega⟩) hCP.1 rfl rfl rfl rfl (by decide) ?_
        refine x_iload dX8_fold_57 rfl ?_
        refine x_icmp_ne dX8_fold_59 ⟨by omega, by omega⟩ ⟨by omega, by omega⟩ (fun qc59q => ?_) (fun qc59q => ?_)
        · refine x_aload_n dX8_fold_65 rfl ?_
          refine s_get dX8_fold_66 fX8_51 hX rfl ?_
          refine x_aload_n dX8_fold_69 rfl ?_
          refine s_get dX8_fold_70 fX8_48 hX rfl ?_
          refine v_V dX8_fold_73 lX8_72 (c_X6_copyFrom sz hD hC (by omega)) hD0.1 rfl rfl rfl rfl (by decide) (fun h1 ⟨hDn, hFn⟩ => ?_)
          have hO := hO.dr hDn hFn
          have hG : Fr h h1 x (x + 107) := hFn.wd (by omega) (by omega)
          clear hX hT hRe hRo hHi hSp hC hD hcd hC0 hD0 hSp0 hTs hRs hCN hCL hCP hDN hDL hDP hHs
          obtain ⟨hX, hT, hRe, hRo, hHi, hSp, hC, hD, hcd⟩ := id hO
          have hC0 := hC.1
          have hD0 := hD.1
          have hSp0 := hSp.1
          obtain ⟨_, hTs, -, -⟩ := id hT
          obtain ⟨_, _, hRs, -, -⟩ := id hRo
          obtain ⟨_, _, _, hCN, -, -⟩ := id hC.2.1
          obtain ⟨_, _, hCL, -, -⟩ := id hC.2.2.1
          obtain ⟨_, _, _, hCP, -, -⟩ := id hC.2.2.2
          obtain ⟨_, _, _, hDN, -, -⟩ := id hD.2.1
          obtain ⟨_, _, hDL, -, -⟩ := id hD.2.2.1
          obtain ⟨_, _, _, hDP, -, -⟩ := id hD.2.2.2
          obtain ⟨_, _, _, ⟨hHs, -⟩, -⟩ := id hHi
          refine x_aload_n dX8_fold_76 rfl ?_
          refine s_get dX8_fold_77 fX8_51 hX rfl ?_
          refine s_get dX8_fold_80 fX8_84 hD0 rfl ?_
          refine x_iload_n dX8_fold_83 rfl ?_
          refine x_iload dX8_fold_84 rfl ?_
          refine v_V dX8_fold_86 lX8_167 (c_X3_setFold sz hD.2.2.2 (z := k) (f1 := 1) (by omega) (by omega) (by omega)) hDP.1 rfl rfl rfl rfl (by decide) (fun h2 ⟨hPn, hFn⟩ => ?_)
          have hO := hO.dP hPn hFn
          have hG : Fr h h2 x (x + 107) := hG.tr (hFn.wd (by omega) (by omega))
          clear hX hT hRe hRo hHi hSp hC hD hcd hC0 hD0 hSp0 hTs hRs hCN hCL hCP hDN hDL hDP hHs
          obtain ⟨hX, hT, hRe, hRo, hHi, hSp, hC, hD, hcd⟩ := id hO
          have hC0 := hC.1
          have hD0 := hD.1
          have hSp0 := hSp.1
          obtain ⟨_, hTs, -, -⟩ := id hT
          obtain ⟨_, _, hRs, -, -⟩ := id hRo
          obtain ⟨_, _, _, hCN, -, -⟩ := id hC.2.1
          obtain ⟨_, _, hCL, -, -⟩ := id hC.2.2.1
          obtain ⟨_, _, _, hCP, -, -⟩ := id hC.2.2.2
          obtain ⟨_, _, _, hDN, -, -⟩ := id hD.2.1
          obtain ⟨_, _, hDL, -, -⟩ := id hD.2.2.1
          obtain ⟨_, _, _, hDP, -, -⟩ := id hD.2.2.2
          obtain ⟨_, _, _, ⟨hHs, -⟩, -⟩ := id hHi
          refine x_aload_n dX8_fold_89 rfl ?_
          refine v_V dX8_fold_90 lX8_131 (c_X8_accept sz hO) hX.1 rfl rfl rfl rfl (by decide) (fun h3 ⟨hO, hFn⟩ => ?_)
          have hG : Fr h h3 x (x + 107) := hG.tr hFn
          clear hX hT hRe hRo hHi hSp hC hD hcd hC0 hD0 hSp0 hTs hRs hCN hCL hCP hDN hDL hDP hHs
          obtain ⟨hX, hT, hRe, hRo, hHi, hSp, hC, hD, hcd⟩ := id hO
          have hC0 := hC.1
          have hD0 := hD.1
          have hSp0 := hSp.1
          obtain ⟨_, hTs, -, -⟩ := id hT
          obtain ⟨_, _, hRs, -, -⟩ := id hRo
          obtain ⟨_, _, _, hCN, -, -⟩ := id hC.2.1
          obtain ⟨_, _, hCL, -, -⟩ := id hC.2.2.1
          obtain ⟨_, _, _, hCP, -, -⟩ := id hC.2.2.2
          obtain ⟨_, _, _, hDN, -, -⟩ := id hD.2.1
          obtain ⟨_, _, hDL, -, -⟩ := id hD.2.2.1
          obtain ⟨_, _, _, hDP, -, -⟩ := id hD.2.2.2
          obtain ⟨_, _, _, ⟨hHs, -⟩, -⟩ := id hHi
          refine x_aload_n dX8_fold_93 rfl ?_
          refine s_get dX8_fold_94 fX8_26 hX rfl ?_
          refine s_get dX8_fold_97 fX8_170 hRs rfl ?_
          refine x_ireturn dX8_fold_100 rfl ?_
          exact ⟨_, rfl, Done (t, hs, sp, b, S) (S.1, S.2.1, S.2.2.1, S.2.2.2.1, pSet S.2.2.2.2 k.toNat 1), Or.inr (Or.inr (Or.inr ⟨by omega, qc29q, by omega, rfl, rfl⟩)), hO.A, hG⟩
        · refine x_bipush dX8_fold_62 (by decide) ?_
          refine x_ireturn dX8_fold_64 rfl ?_
          exact ⟨_, rfl, (t, hs, sp, b, S), Or.inr (Or.inr (Or.inl ⟨by omega, qc29q, by omega, rfl, rfl⟩)), hO0.A, Fr.rf⟩
    · refine x_bipush dX8_fold_32 (by decide) ?_
      refine x_ireturn dX8_fold_34 rfl ?_
      exact ⟨_, rfl, (t, hs, sp, b, S), Or.inr (Or.inl ⟨by omega, qc29q, rfl, rfl⟩), hO0.A, Fr.rf⟩
  · refine x_bipush dX8_fold_15 (by decide) ?_
    refine x_ireturn dX8_fold_17 rfl ?_
    exact ⟨_, rfl, (t, hs, sp, b, S), Or.inl ⟨by omega, rfl, rfl⟩, hO0.A, Fr.rf⟩
theorem c_X8_foldLevel (sz : Nat) {h : AH} {x b c d : Nat} {t : List Int} {hs : List CS} {sp S D : CS} (hO : OuR h x t hs sp b c d S D) {v : Int} (hv : inR v) : CC mX8_foldLevel 5 0 0 [.ref x, .int (zI v)] sz h (QI (fun z h' => ∃ A', SpFLev (t, hs, sp, b, S) v z A' ∧ OuA h' x A' ∧ Fr h h' x (x + 107))) := by
  refine CC.intro [some (.ref x), some (.int (zI v))] pfX8_foldLevel rfl rfl ?_
  have hO0 := hO
  obtain ⟨hX, hT, hRe, hRo, hHi, hSp, hC, hD, hcd⟩ := id hO
  have hC0 := hC.1
  have hD0 := hD.1
  have hSp0 := hSp.1
  obtain ⟨_, hTs, -, -⟩ := id hT
  obtain ⟨_, _, hRs, -, -⟩ := id hRo
  obtain ⟨_, _, _, hCN, -, -⟩ := id hC.2.1
  obtain ⟨_, _, hCL, -, -⟩ := id hC.2.2.1
  obtain ⟨_, _, _, hCP, -, -⟩ := id hC.2.2.2
  obtain ⟨_, _, _, hDN, -, -⟩ := id hD.2.1
  obtain ⟨_, _, hDL, -, -⟩ := id hD.2.2.1
  obtain ⟨_, _, _, hDP, -, -⟩ := id hD.2.2.2
  obtain ⟨_, _, _, ⟨hHs, -⟩, -⟩ := id hHi
  have hpB := hC.2.2.2.B
  have hpl := hpB.1
  refine x_iload_n dX8_foldLevel_0 rfl ?_
  refine x_iconst dX8_foldLevel_1 ?_
  refine x_icmp_lt dX8_foldLevel_2 ⟨by omega, by omega⟩ ⟨by omega, by omega⟩ (fun qc2q => ?_) (fun qc2q => ?_)
  · refine x_bipush dX8_foldLevel_11 (by decide) ?_
    refine x_ireturn dX8_foldLevel_13 rfl ?_
    exact ⟨_, rfl, (t, hs, sp, b, S), Or.inl ⟨by omega, rfl, rfl⟩, hO0.A, Fr.rf⟩
  · refine x_iload_n dX8_foldLevel_5 rfl ?_
    refine x_bipush dX8_foldLevel_6 (by decide) ?_
    refine x_icmp_le dX8_foldLevel_8 ⟨by omega, by omega⟩ ⟨by omega, by omega⟩ (fun qc8q => ?_) (fun qc8q => ?_)
    · refine x_aload_n dX8_foldLevel_14 rfl ?_
      refine s_get dX8_foldLevel_15 fX8_51 hX rfl ?_
      refine x_aload_n dX8_foldLevel_18 rfl ?_
      refine s_get dX8_foldLevel_19 fX8_48 hX rfl ?_
      refine v_V dX8_foldLevel_22 lX8_72 (c_X6_copyFrom sz hD hC (by omega)) hD0.1 rfl rfl rfl rfl (by decide) (fun h1 ⟨hDn, hFn⟩ => ?_)
      have hO := hO.dr hDn hFn
      have hG : Fr h h1 x (x + 107) := hFn.wd (by omega) (by omega)
      clear hX hT hRe hRo hHi hSp hC hD hcd hC0 hD0 hSp0 hTs hRs hCN hCL hCP hDN hDL hDP hHs
      obtain ⟨hX, hT, hRe, hRo, hHi, hSp, hC, hD, hcd⟩ := id hO
      have hC0 := hC.1
      have hD0 := hD.1
      have hSp0 := hSp.1
      obtain ⟨_, hTs, -, -⟩ := id hT
      obtain ⟨_, _, hRs, -, -⟩ := id hRo
      obtain ⟨_, _, _, hCN, -, -⟩ := id hC.2.1
      obtain ⟨_, _, hCL, -, -⟩ := id hC.2.2.1
      obtain ⟨_, _, _, hCP, -, -⟩ := id hC.2.2.2
      obtain ⟨_, _, _, hDN, -, -⟩ := id hD.2.1
      obtain ⟨_, _, hDL, -, -⟩ := id hD.2.2.1
      obtain ⟨_, _, _, hDP, -, -⟩ := id hD.2.2.2
      obtain ⟨_, _, _, ⟨hHs, -⟩, -⟩ := id hHi
      refine x_aload_n dX8_foldLevel_25 rfl ?_
      refine s_get dX8_foldLevel_26 fX8_51 hX rfl ?_
      refine s_get dX8_foldLevel_29 fX8_84 hD0 rfl ?_
      refine x_iload_n dX8_foldLevel_32 rfl ?_
      refine i_V dX8_foldLevel_33 lX8_173 (c_X3_foldAtLevel sz hD.2.2.2 (L := v) hv) hDP.1 rfl rfl rfl rfl (by decide) (fun r h2 ⟨hr, hPn, hFn⟩ => ?_)
      have hO := hO.dP hPn hFn
      have hG : Fr h h2 x (x + 107) := hG.tr (hFn.wd (by omega) (by omega))
      clear hX hT hRe hRo hHi hSp hC hD hcd hC0 hD0 hSp0 hTs hRs hCN hCL hCP hDN hDL hDP hHs
      obtain ⟨hX, hT, hRe, hRo, hHi, hSp, hC, hD, hcd⟩ := id hO
      have hC0 := hC.1
      have hD0 := hD.1
      have hSp0 := hSp.1
      obtain ⟨_, hTs, -, -⟩ := id hT
      obtain ⟨_, _, hRs, -, -⟩ := id hRo
      obtain ⟨_, _, _, hCN, -, -⟩ := id hC.2.1
      obtain ⟨_, _, hCL, -, -⟩ := id hC.2.2.1
      obtain ⟨_, _, _, hCP, -, -⟩ := id hC.2.2.2
      obtain ⟨_, _, _, hDN, -, -⟩ := id hD.2.1
      obtain ⟨_, _, hDL, -, -⟩ := id hD.2.2.1
      obtain ⟨_, _, _, hDP, -, -⟩ := id hD.2.2.2
      obtain ⟨_, _, _, ⟨hHs, -⟩, -⟩ := id hHi
      refine x_if_ne dX8_foldLevel_36 ⟨by rw [hr]; split <;> omega, by rw [hr]; split <;> omega⟩ (fun qc36q => ?_) (fun qc36q => ?_)
      · have qe2q : ∃ k, k < S.2.2.2.2.length ∧ fLv S.2.2.2.2 v k ≠ pf S.2.2.2.2 k := Classical.byContradiction fun q => by rw [if_neg q] at hr; omega
        refine x_aload_n dX8_foldLevel_42 rfl ?_
        refine v_V dX8_foldLevel_43 lX8_131 (c_X8_accept sz hO) hX.1 rfl rfl rfl rfl (by decide) (fun h3 ⟨hO, hFn⟩ => ?_)
        have hG : Fr h h3 x (x + 107) := hG.tr hFn
        clear hX hT hRe hRo hHi hSp hC hD hcd hC0 hD0 hSp0 hTs hRs hCN hCL hCP hDN hDL hDP hHs
        obtain ⟨hX, hT, hRe, hRo, hHi, hSp, hC, hD, hcd⟩ := id hO
        have hC0 := hC.1
        have hD0 := hD.1
        have hSp0 := hSp.1
        obtain ⟨_, hTs, -, -⟩ := id hT
        obtain ⟨_, _, hRs, -, -⟩ := id hRo
        obtain ⟨_, _, _, hCN, -, -⟩ := id hC.2.1
        obtain ⟨_, _, hCL, -, -⟩ := id hC.2.2.1
        obtain ⟨_, _, _, hCP, -, -⟩ := id hC.2.2.2
        obtain ⟨_, _, _, hDN, -, -⟩ := id hD.2.1
        obtain ⟨_, _, hDL, -, -⟩ := id hD.2.2.1
        obtain ⟨_, _, _, hDP, -, -⟩ := id hD.2.2.2
        obtain ⟨_, _, _, ⟨hHs, -⟩, -⟩ := id hHi
        refine x_aload_n dX8_foldLevel_46 rfl ?_
        refine s_get dX8_foldLevel_47 fX8_26 hX rfl ?_
        refine s_get dX8_foldLevel_50 fX8_170 hRs rfl ?_
        refine x_ireturn dX8_foldLevel_53 rfl ?_
        exact ⟨_, rfl, Done (t, hs, sp, b, S) (S.1, S.2.1, S.2.2.1, S.2.2.2.1, pFL S.2.2.2.2 v S.2.2.2.2.length), Or.inr (Or.inr ⟨by omega, qe2q, rfl, rfl⟩), hO.A, hG⟩
      · have qe2q : ¬ ∃ k, k < S.2.2.2.2.length ∧ fLv S.2.2.2.2 v k ≠ pf S.2.2.2.2 k := fun q => by rw [if_pos q] at hr; omega
        refine x_bipush dX8_foldLevel_39 (by decide) ?_
        refine x_ireturn dX8_foldLevel_41 rfl ?_
        exact ⟨_, rfl, (t, hs, sp, b, S), Or.inr (Or.inl ⟨by omega, qe2q, rfl, rfl⟩), hO.A, hG⟩
    · refine x_bipush dX8_foldLevel_11 (by decide) ?_
      refine x_ireturn dX8_foldLevel_13 rfl ?_
      exact ⟨_, rfl, (t, hs, sp, b, S), Or.inl ⟨by omega, rfl, rfl⟩, hO0.A, Fr.rf⟩
theorem c_X8_show (sz : Nat) {h : AH} {x b c d : Nat} {t : List Int} {hs : List CS} {sp S D : CS} (hO : OuR h x t hs sp b c d S D) {y : Int} (hy : inR y) : CC mX8_show 5 0 0 [.ref x, .int (zI y)] sz h (QI (fun z h' => ∃ A', SpShow (t, hs, sp, b, S) y z A' ∧ OuA h' x A' ∧ Fr h h' x (x + 107))) := by
  refine CC.intro [some (.ref x), some (.int (zI y)), none] pfX8_show rfl rfl ?_
  have hO0 := hO
  obtain ⟨hX, hT, hRe, hRo, hHi, hSp, hC, hD, hcd⟩ := id hO
  have hC0 := hC.1
  have hD0 := hD.1
  have hSp0 := hSp.1
  obtain ⟨_, hTs, -, -⟩ := id hT
  obtain ⟨_, _, hRs, -, -⟩ := id hRo
  obtain ⟨_, _, _, hCN, -, -⟩ := id hC.2.1
  obtain ⟨_, _, hCL, -, -⟩ := id hC.2.2.1
  obtain ⟨_, _, _, hCP, -, -⟩ := id hC.2.2.2
  obtain ⟨_, _, _, hDN, -, -⟩ := id hD.2.1
  obtain ⟨_, _, hDL, -, -⟩ := id hD.2.2.1
  obtain ⟨_, _, _, hDP, -, -⟩ := id hD.2.2.2
  obtain ⟨_, _, _, ⟨hHs, -⟩, -⟩ := id hHi
  have hpB := hC.2.2.2.B
  have hpl := hpB.1
  have hz := pFst_r S.2.2.2.2 y
  unfold SpShow
  dsimp only
  generalize hzz : pFst S.2.2.2.2 y = k at *
  have hz9 : (k = -2 ∨ 0 ≤ k) ∧ k < S.2.2.2.2.length := by
    rcases hz with q | q <;> omega
  refine x_aload_n dX8_show_0 rfl ?_
  refine s_get dX8_show_1 fX8_48 hX rfl ?_
  refine s_get dX8_show_4 fX8_84 hC0 rfl ?_
  refine x_iload_n dX8_show_7 rfl ?_
  refine p_V dX8_show_8 lX8_176 (c_X3_firstOf sz hC.2.2.2 hy) hCP.1 rfl rfl rfl rfl (by decide) ?_
  rw [hzz]
  refine x_istore_n dX8_show_11 rfl rfl rfl ?_
  refine x_iload_n dX8_show_12 rfl ?_
  refine x_bipush dX8_show_13 (by decide) ?_
  refine x_icmp_ne dX8_show_15 ⟨by omega, by omega⟩ ⟨by omega, by omega⟩ (fun qc15q => ?_) (fun qc15q => ?_)
  · refine x_aload_n dX8_show_21 rfl ?_
    refine s_get dX8_show_22 fX8_51 hX rfl ?_
    refine x_aload_n dX8_show_25 rfl ?_
    refine s_get dX8_show_26 fX8_48 hX rfl ?_
    refine v_V dX8_show_29 lX8_72 (c_X6_copyFrom sz hD hC (by omega)) hD0.1 rfl rfl rfl rfl (by decide) (fun h1 ⟨hDn, hFn⟩ => ?_)
    have hO := hO.dr hDn hFn
    have hG : Fr h h1 x (x + 107) := hFn.wd (by omega) (by omega)
    clear hX hT hRe hRo hHi hSp hC hD hcd hC0 hD0 hSp0 hTs hRs hCN hCL hCP hDN hDL hDP hHs
    obtain ⟨hX, hT, hRe, hRo, hHi, hSp, hC, hD, hcd⟩ := id hO
    have hC0 := hC.1
    have hD0 := hD.1
    have hSp0 := hSp.1
    obtain ⟨_, hTs, -, -⟩ := id hT
    obtain ⟨_, _, hRs, -, -⟩ := id hRo
    obtain ⟨_, _, _, hCN, -, -⟩ := id hC.2.1
    obtain ⟨_, _, hCL, -, -⟩ := id hC.2.2.1
    obtain ⟨_, _, _, hCP, -, -⟩ := id hC.2.2.2
    obtain ⟨_, _, _, hDN, -, -⟩ := id hD.2.1
    obtain ⟨_, _, hDL, -, -⟩ := id hD.2.2.1
    obtain ⟨_, _, _, hDP, -, -⟩ := id hD.2.2.2
    obtain ⟨_, _, _, ⟨hHs, -⟩, -⟩ := id hHi
    refine x_aload_n dX8_show_32 rfl ?_
    refine s_get dX8_show_33 fX8_51 hX rfl ?_
    refine s_get dX8_show_36 fX8_84 hD0 rfl ?_
    refine x_iload_n dX8_show_39 rfl ?_
    refine i_V dX8_show_40 lX8_179 (c_X3_unfoldAround sz hD.2.2.2 (z := k) (by omega) (by omega)) hDP.1 rfl rfl rfl rfl (by decide) (fun r h2 ⟨hr, hPn, hFn⟩ => ?_)
    have hO := hO.dP hPn hFn
    have hG : Fr h h2 x (x + 107) := hG.tr (hFn.wd (by omega) (by omega))
    clear hX hT hRe hRo hHi hSp hC hD hcd hC0 hD0 hSp0 hTs hRs hCN hCL hCP hDN hDL hDP hHs
    obtain ⟨hX, hT, hRe, hRo, hHi, hSp, hC, hD, hcd⟩ := id hO
    have hC0 := hC.1
    have hD0 := hD.1
    have hSp0 := hSp.1
    obtain ⟨_, hTs, -, -⟩ := id hT
    obtain ⟨_, _, hRs, -, -⟩ := id hRo
    obtain ⟨_, _, _, hCN, -, -⟩ := id hC.2.1
    obtain ⟨_, _, hCL, -, -⟩ := id hC.2.2.1
    obtain ⟨_, _, _, hCP, -, -⟩ := id hC.2.2.2
    obtain ⟨_, _, _, hDN, -, -⟩ := id hD.2.1
    obtain ⟨_, _, hDL, -, -⟩ := id hD.2.2.1
    obtain ⟨_, _, _, hDP, -, -⟩ := id hD.2.2.2
    obtain ⟨_, _, _, ⟨hHs, -⟩, -⟩ := id hHi
    refine x_if_ne dX8_show_43 ⟨by rw [hr]; split <;> omega, by rw [hr]; split <;> omega⟩ (fun qc43q => ?_) (fun qc43q => ?_)
    · have qe2q : (arr S.2.2.2.2 k.toNat (gV S.2.2.2.2 k)).any (fun j => decide (pf S.2.2.2.2 j = 1)) = true := Classical.byContradiction fun q => by rw [if_neg q] at hr; omega
      refine x_aload_n dX8_show_49 rfl ?_
      refine v_V dX8_show_50 lX8_131 (c_X8_accept sz hO) hX.1 rfl rfl rfl rfl (by decide) (fun h3 ⟨hO, hFn⟩ => ?_)
      have hG : Fr h h3 x (x + 107) := hG.tr hFn
      clear hX hT hRe hRo hHi hSp hC hD hcd hC0 hD0 hSp0 hTs hRs hCN hCL hCP hDN hDL hDP hHs
      obtain ⟨hX, hT, hRe, hRo, hHi, hSp, hC, hD, hcd⟩ := id hO
      have hC0 := hC.1
      have hD0 := hD.1
      have hSp0 := hSp.1
      obtain ⟨_, hTs, -, -⟩ := id hT
      obtain ⟨_, _, hRs, -, -⟩ := id hRo
      obtain ⟨_, _, _, hCN, -, -⟩ := id hC.2.1
      obtain ⟨_, _, hCL, -, -⟩ := id hC.2.2.1
      obtain ⟨_, _, _, hCP, -, -⟩ := id hC.2.2.2
      obtain ⟨_, _, _, hDN, -, -⟩ := id hD.2.1
      obtain ⟨_, _, hDL, -, -⟩ := id hD.2.2.1
      obtain ⟨_, _, _, hDP, -, -⟩ := id hD.2.2.2
      obtain ⟨_, _, _, ⟨hHs, -⟩, -⟩ := id hHi
      refine x_aload_n dX8_show_53 rfl ?_
      refine s_get dX8_show_54 fX8_26 hX rfl ?_
      refine x_iload_n dX8_show_57 rfl ?_
      refine p_V dX8_show_58 lX8_182 (c_X5_rowOf sz hRo (z := k) (by omega) (by dsimp only; rw [pUn_len]; omega)) hRs.1 rfl rfl rfl rfl (by decide) ?_
      refine x_ireturn dX8_show_61 rfl ?_
      exact ⟨_, rfl, Done (t, hs, sp, b, S) (S.1, S.2.1, S.2.2.1, S.2.2.2.1, pUn S.2.2.2.2 (arr S.2.2.2.2 k.toNat (gV S.2.2.2.2 k))), Or.inr (Or.inr ⟨by omega, qe2q, rfl, rfl⟩), hO.A, hG⟩
    · have qe2q : ¬ (arr S.2.2.2.2 k.toNat (gV S.2.2.2.2 k)).any (fun j => decide (pf S.2.2.2.2 j = 1)) = true := fun q => by rw [if_pos q] at hr; omega
      refine x_bipush dX8_show_46 (by decide) ?_
      refine x_ireturn dX8_show_48 rfl ?_
      exact ⟨_, rfl, (t, hs, sp, b, S), Or.inr (Or.inl ⟨by omega, qe2q, rfl, rfl⟩), hO.A, hG⟩
  · refine x_bipush dX8_show_18 (by decide) ?_
    refine x_ireturn dX8_show_20 rfl ?_
    exact ⟨_, rfl, (t, hs, sp, b, S), Or.inl ⟨by omega, rfl, rfl⟩, hO0.A, Fr.rf⟩
theorem c_X8_edit (sz : Nat) {h : AH} {x b c d : Nat} {t : List Int} {hs : List CS} {sp S D : CS} (hO : OuR h x t hs sp b c d S D) (hWf : Wf S) {r : Int} (hr : inR r) : CC mX8_edit 5 0 0 [.ref x, .int (zI r)] sz h (QI (fun z h' => ∃ A', SpEdit (t, hs, sp, b, S) r z A' ∧ OuA h' x A' ∧ Fr h h' x (x + 107))) := by
  refine CC.intro [some (.ref x), some (.int (zI r)), none, none] pfX8_edit rfl rfl ?_
  have hO0 := hO
  obtain ⟨hX, hT, hRe, hRo, hHi, hSp, hC, hD, hcd⟩ := id hO
  have hC0 := hC.1
  have hD0 := hD.1
  have hSp0 := hSp.1
  obtain ⟨_, hTs, -, -⟩ := id hT
  obtain ⟨_, _, hRs, -, -⟩ := id hRo
  obtain ⟨_, _, _, hCN, -, -⟩ := id hC.2.1
  obtain ⟨_, _, hCL, -, -⟩ := id hC.2.2.1
  obtain ⟨_, _, _, hCP, -, -⟩ := id hC.2.2.2
  obtain ⟨_, _, _, hDN, -, -⟩ := id hD.2.1
  obtain ⟨_, _, hDL, -, -⟩ := id hD.2.2.1
  obtain ⟨_, _, _, hDP, -, -⟩ := id hD.2.2.2
  obtain ⟨_, _, _, ⟨hHs, -⟩, -⟩ := id hHi
  have hpB := hC.2.2.2.B
  have hpl := hpB.1
  have hz := plZ_r S.2.2.2.2 r
  unfold SpEdit
  dsimp only
  generalize hzz : plZ S.2.2.2.2 r = k at *
  refine x_aload_n dX8_edit_0 rfl ?_
  refine s_get dX8_edit_1 fX8_26 hX rfl ?_
  refine x_iload_n dX8_edit_4 rfl ?_
  refine p_V dX8_edit_5 lX8_107 (c_X5_placeOf sz hRo hr) hRs.1 rfl rfl rfl rfl (by decide) ?_
  rw [hzz]
  refine x_istore_n dX8_edit_8 rfl rfl rfl ?_
  refine x_iload_n dX8_edit_9 rfl ?_
  refine x_bipush dX8_edit_10 (by decide) ?_
  refine x_icmp_ne dX8_edit_12 ⟨by omega, by omega⟩ ⟨by omega, by omega⟩ (fun qc12q => ?_) (fun qc12q => ?_)
  · refine x_aload_n dX8_edit_18 rfl ?_
    refine s_get dX8_edit_19 fX8_10 hX rfl ?_
    refine p_V dX8_edit_22 lX8_58 (c_X7_fitsNode sz hT) hTs.1 rfl rfl rfl rfl (by decide) ?_
    refine x_ifB_ne dX8_edit_25 (fun qc25q => ?_) (fun qc25q => ?_)
    · refine x_aload_n dX8_edit_31 rfl ?_
      have hn := hWf.n hpB (z := k) (by omega) (by omega)
      refine s_get dX8_edit_32 fX8_48 hX rfl ?_
      refine s_get dX8_edit_35 fX8_84 hC0 rfl ?_
      refine x_iload_n dX8_edit_38 rfl ?_
      refine p_V dX8_edit_39 lX8_88 (c_X3_nodeOf sz hC.2.2.2 (z := k) ⟨by omega, by omega⟩) hCP.1 rfl rfl rfl rfl (by decide) ?_
      refine x_istore_n dX8_edit_42 rfl rfl rfl ?_
      refine x_aload_n dX8_edit_43 rfl ?_
      refine s_get dX8_edit_44 fX8_48 hX rfl ?_
      refine s_get dX8_edit_47 fX8_62 hC0 rfl ?_
      refine x_iload_n dX8_edit_50 rfl ?_
      refine x_aload_n dX8_edit_51 rfl ?_
      refine s_get dX8_edit_52 fX8_10 hX rfl ?_
      refine p_V dX8_edit_55 lX8_144 (c_X2_hasText sz hC.2.1 hT (i := gN S.2.2.2.2 k) hn.1 hn.2.1) hCN.1 rfl rfl rfl rfl (by decide) ?_
      refine x_ifB_eq dX8_edit_58 (fun qc58q => ?_) (fun qc58q => ?_)
      · refine x_aload_n dX8_edit_64 rfl ?_
        refine s_get dX8_edit_65 fX8_51 hX rfl ?_
        refine x_aload_n dX8_edit_68 rfl ?_
        refine s_get dX8_edit_69 fX8_48 hX rfl ?_
        refine v_V dX8_edit_72 lX8_72 (c_X6_copyFrom sz hD hC (by omega)) hD0.1 rfl rfl rfl rfl (by decide) (fun h1 ⟨hDn, hFn⟩ => ?_)
        have hO := hO.dr hDn hFn
        have hG : Fr h h1 x (x + 107) := hFn.wd (by omega) (by omega)
        clear hX hT hRe hRo hHi hSp hC hD hcd hC0 hD0 hSp0 hTs hRs hCN hCL hCP hDN hDL hDP hHs
        obtain ⟨hX, hT, hRe, hRo, hHi, hSp, hC, hD, hcd⟩ := id hO
        have hC0 := hC.1
        have hD0 := hD.1
        have hSp0 := hSp.1
        obtain ⟨_, hTs, -, -⟩ := id hT
        obtain ⟨_, _, hRs, -, -⟩ := id hRo
        obtain ⟨_, _, _, hCN, -, -⟩ := id hC.2.1
        obtain ⟨_, _, hCL, -, -⟩ := id hC.2.2.1
        obtain ⟨_, _, _, hCP, -, -⟩ := id hC.2.2.2
        obtain ⟨_, _, _, hDN, -, -⟩ := id hD.2.1
        obtain ⟨_, _, hDL, -, -⟩ := id hD.2.2.1
        obtain ⟨_, _, _, hDP, -, -⟩ := id hD.2.2.2
        obtain ⟨_, _, _, ⟨hHs, -⟩, -⟩ := id hHi
        refine x_aload_n dX8_edit_75 rfl ?_
        refine s_get dX8_edit_76 fX8_51 hX rfl ?_
        refine s_get dX8_edit_79 fX8_62 hD0 rfl ?_
        refine x_iload_n dX8_edit_82 rfl ?_
        refine x_aload_n dX8_edit_83 rfl ?_
        refine s_get dX8_edit_84 fX8_10 hX rfl ?_
        refine v_V dX8_edit_87 lX8_80 (c_X2_setText sz hD.2.1 hT (by omega) (i := gN S.2.2.2.2 k) hn.1 hn.2.1 qc25q) hDN.1 rfl rfl rfl rfl (by decide) (fun h2 ⟨hPn, hFn⟩ => ?_)
        have hO := hO.dN hPn hFn
        have hG : Fr h h2 x (x + 107) := hG.tr (hFn.wd (by omega) (by omega))
        clear hX hT hRe hRo hHi hSp hC hD hcd hC0 hD0 hSp0 hTs hRs hCN hCL hCP hDN hDL hDP hHs
        obtain ⟨hX, hT, hRe, hRo, hHi, hSp, hC, hD, hcd⟩ := id hO
        have hC0 := hC.1
        have hD0 := hD.1
        have hSp0 := hSp.1
        obtain ⟨_, hTs, -, -⟩ := id hT
        obtain ⟨_, _, hRs, -, -⟩ := id hRo
        obtain ⟨_, _, _, hCN, -, -⟩ := id hC.2.1
        obtain ⟨_, _, hCL, -, -⟩ := id hC.2.2.1
        obtain ⟨_, _, _, hCP, -, -⟩ := id hC.2.2.2
        obtain ⟨_, _, _, hDN, -, -⟩ := id hD.2.1
        obtain ⟨_, _, hDL, -, -⟩ := id hD.2.2.1
        obtain ⟨_, _, _, hDP, -, -⟩ := id hD.2.2.2
        obtain ⟨_, _, _, ⟨hHs, -⟩, -⟩ := id hHi
        refine x_aload_n dX8_edit_90 rfl ?_
        refine v_V dX8_edit_91 lX8_131 (c_X8_accept sz hO) hX.1 rfl rfl rfl rfl (by decide) (fun h3 ⟨hO, hFn⟩ => ?_)
        have hG : Fr h h3 x (x + 107) := hG.tr hFn
        clear hX hT hRe hRo hHi hSp hC hD hcd hC0 hD0 hSp0 hTs hRs hCN hCL hCP hDN hDL hDP hHs
        obtain ⟨hX, hT, hRe, hRo, hHi, hSp, hC, hD, hcd⟩ := id hO
        have hC0 := hC.1
        have hD0 := hD.1
        have hSp0 := hSp.1
        obtain ⟨_, hTs, -, -⟩ := id hT
        obtain ⟨_, _, hRs, -, -⟩ := id hRo
        obtain ⟨_, _, _, hCN, -, -⟩ := id hC.2.1
        obtain ⟨_, _, hCL, -, -⟩ := id hC.2.2.1
        obtain ⟨_, _, _, hCP, -, -⟩ := id hC.2.2.2
        obtain ⟨_, _, _, hDN, -, -⟩ := id hD.2.1
        obtain ⟨_, _, hDL, -, -⟩ := id hD.2.2.1
        obtain ⟨_, _, _, hDP, -, -⟩ := id hD.2.2.2
        obtain ⟨_, _, _, ⟨hHs, -⟩, -⟩ := id hHi
        refine x_aload_n dX8_edit_94 rfl ?_
        refine s_get dX8_edit_95 fX8_48 hX rfl ?_
        refine s_get dX8_edit_98 fX8_84 hC0 rfl ?_
        refine x_iload_n dX8_edit_101 rfl ?_
        refine p_V dX8_edit_102 lX8_148 (c_X3_countOf sz hC.2.2.2 (z := gN S.2.2.2.2 k) ⟨by omega, by omega⟩) hCP.1 rfl rfl rfl rfl (by decide) ?_
        refine x_ireturn dX8_edit_105 rfl ?_
        exact ⟨_, rfl, Done (t, hs, sp, b, S) (S.1, fU S.2.1 (gN S.2.2.2.2 k).toNat t, S.2.2.1, S.2.2.2.1, S.2.2.2.2), Or.inr (Or.inr (Or.inr ⟨by omega, qc25q, qc58q, rfl, rfl⟩)), hO.A, hG⟩
      · refine x_bipush dX8_edit_61 (by decide) ?_
        refine x_ireturn dX8_edit_63 rfl ?_
        exact ⟨_, rfl, (t, hs, sp, b, S), Or.inr (Or.inr (Or.inl ⟨by omega, qc25q, qc58q, rfl, rfl⟩)), hO0.A, Fr.rf⟩
    · refine x_bipush dX8_edit_28 (by decide) ?_
      refine x_ireturn dX8_edit_30 rfl ?_
      exact ⟨_, rfl, (t, hs, sp, b, S), Or.inr (Or.inl ⟨by omega, qc25q, rfl, rfl⟩), hO0.A, Fr.rf⟩
  · refine x_bipush dX8_edit_15 (by decide) ?_
    refine x_ireturn dX8_edit_17 rfl ?_
    exact ⟨_, rfl, (t, hs, sp, b, S), Or.inl ⟨by omega, rfl, rfl⟩, hO0.A, Fr.rf⟩
theorem c_X8_mark (sz : Nat) {h : AH} {x b c d : Nat} {t : List Int} {hs : List CS} {sp S D : CS} (hO : OuR h x t hs sp b c d S D) (hWf : Wf S) {r v : Int} (hr : inR r) (hv : inR v) : CC mX8_mark 5 0 0 [.ref x, .int (zI r), .int (zI v)] sz h (QI (fun z h' => ∃ A', SpMark (t, hs, sp, b, S) r v z A' ∧ OuA h' x A' ∧ Fr h h' x (x + 107))) := by
  refine CC.intro [some (.ref x), some (.int (zI r)), some (.int (zI v)), none, none] pfX8_mark rfl rfl ?_
  have hO0 := hO
  obtain ⟨hX, hT, hRe, hRo, hHi, hSp, hC, hD, hcd⟩ := id hO
  have hC0 := hC.1
  have hD0 := hD.1
  have hSp0 := hSp.1
  obtain ⟨_, hTs, -, -⟩ := id hT
  obtain ⟨_, _, hRs, -, -⟩ := id hRo
  obtain ⟨_, _, _, hCN, -, -⟩ := id hC.2.1
  obtain ⟨_, _, hCL, -, -⟩ := id hC.2.2.1
  obtain ⟨_, _, _, hCP, -, -⟩ := id hC.2.2.2
  obtain ⟨_, _, _, hDN, -, -⟩ := id hD.2.1
  obtain ⟨_, _, hDL, -, -⟩ := id hD.2.2.1
  obtain ⟨_, _, _, hDP, -, -⟩ := id hD.2.2.2
  obtain ⟨_, _, _, ⟨hHs, -⟩, -⟩ := id hHi
  have hpB := hC.2.2.2.B
  have hpl := hpB.1
  have hz := plZ_r S.2.2.2.2 r
  unfold SpMark
  dsimp only
  generalize hzz : plZ S.2.2.2.2 r = k at *
  refine x_aload_n dX8_mark_0 rfl ?_
  refine s_get dX8_mark_1 fX8_26 hX rfl ?_
  refine x_iload_n dX8_mark_4 rfl ?_
  refine p_V dX8_mark_5 lX8_107 (c_X5_placeOf sz hRo hr) hRs.1 rfl rfl rfl rfl (by decide) ?_
  rw [hzz]
  refine x_istore_n dX8_mark_8 rfl rfl rfl ?_
  refine x_iload_n dX8_mark_9 rfl ?_
  refine x_bipush dX8_mark_10 (by decide) ?_
  refine x_icmp_ne dX8_mark_12 ⟨by omega, by omega⟩ ⟨by omega, by omega⟩ (fun qc12q => ?_) (fun qc12q => ?_)
  · refine x_iload_n dX8_mark_18 rfl ?_
    refine p_S dX8_mark_19 lX8_151 (c_X8_isMark sz h hv) rfl rfl rfl (by decide) ?_
    refine x_ifB_ne dX8_mark_22 (fun qc22q => ?_) (fun qc22q => ?_)
    · refine x_aload_n dX8_mark_28 rfl ?_
      have hn := hWf.n hpB (z := k) (by omega) (by omega)
      refine s_get dX8_mark_29 fX8_48 hX rfl ?_
      refine s_get dX8_mark_32 fX8_84 hC0 rfl ?_
      refine x_iload_n dX8_mark_35 rfl ?_
      refine p_V dX8_mark_36 lX8_88 (c_X3_nodeOf sz hC.2.2.2 (z := k) ⟨by omega, by omega⟩) hCP.1 rfl rfl rfl rfl (by decide) ?_
      refine x_istore dX8_mark_39 rfl rfl rfl ?_
      refine x_aload_n dX8_mark_41 rfl ?_
      refine s_get dX8_mark_42 fX8_51 hX rfl ?_
      refine x_aload_n dX8_mark_45 rfl ?_
      refine s_get dX8_mark_46 fX8_48 hX rfl ?_
      refine v_V dX8_mark_49 lX8_72 (c_X6_copyFrom sz hD hC (by omega)) hD0.1 rfl rfl rfl rfl (by decide) (fun h1 ⟨hDn, hFn⟩ => ?_)
      have hO := hO.dr hDn hFn
      have hG : Fr h h1 x (x + 107) := hFn.wd (by omega) (by omega)
      clear hX hT hRe hRo hHi hSp hC hD hcd hC0 hD0 hSp0 hTs hRs hCN hCL hCP hDN hDL hDP hHs
      obtain ⟨hX, hT, hRe, hRo, hHi, hSp, hC, hD, hcd⟩ := id hO
      have hC0 := hC.1
      have hD0 := hD.1
      have hSp0 := hSp.1
      obtain ⟨_, hTs, -, -⟩ := id hT
      obtain ⟨_, _, hRs, -, -⟩ := id hRo
      obtain ⟨_, _, _, hCN, -, -⟩ := id hC.2.1
      obtain ⟨_, _, hCL, -, -⟩ := id hC.2.2.1
      obtain ⟨_, _, _, hCP, -, -⟩ := id hC.2.2.2
      obtain ⟨_, _, _, hDN, -, -⟩ := id hD.2.1
      obtain ⟨_, _, hDL, -, -⟩ := id hD.2.2.1
      obtain ⟨_, _, _, hDP, -, -⟩ := id hD.2.2.2
      obtain ⟨_, _, _, ⟨hHs, -⟩, -⟩ := id hHi
      refine x_aload_n dX8_mark_52 rfl ?_
      refine s_get dX8_mark_53 fX8_51 hX rfl ?_
      refine s_get dX8_mark_56 fX8_62 hD0 rfl ?_
      refine x_iload dX8_mark_59 rfl ?_
      refine x_iload_n dX8_mark_61 rfl ?_
      refine v_V dX8_mark_62 lX8_155 (c_X2_toggleMark sz hD.2.1 (i := gN S.2.2.2.2 k) (k := v) hn.1 hn.2.1 qc22q) hDN.1 rfl rfl rfl rfl (by decide) (fun h2 ⟨hPn, hFn⟩ => ?_)
      have hO := hO.dN hPn hFn
      have hG : Fr h h2 x (x + 107) := hG.tr (hFn.wd (by omega) (by omega))
      clear hX hT hRe hRo hHi hSp hC hD hcd hC0 hD0 hSp0 hTs hRs hCN hCL hCP hDN hDL hDP hHs
      obtain ⟨hX, hT, hRe, hRo, hHi, hSp, hC, hD, hcd⟩ := id hO
      have hC0 := hC.1
      have hD0 := hD.1
      have hSp0 := hSp.1
      obtain ⟨_, hTs, -, -⟩ := id hT
      obtain ⟨_, _, hRs, -, -⟩ := id hRo
      obtain ⟨_, _, _, hCN, -, -⟩ := id hC.2.1
      obtain ⟨_, _, hCL, -, -⟩ := id hC.2.2.1
      obtain ⟨_, _, _, hCP, -, -⟩ := id hC.2.2.2
      obtain ⟨_, _, _, hDN, -, -⟩ := id hD.2.1
      obtain ⟨_, _, hDL, -, -⟩ := id hD.2.2.1
      obtain ⟨_, _, _, hDP, -, -⟩ := id hD.2.2.2
      obtain ⟨_, _, _, ⟨hHs, -⟩, -⟩ := id hHi
      refine x_aload_n dX8_mark_65 rfl ?_
      refine v_V dX8_mark_66 lX8_131 (c_X8_accept sz hO) hX.1 rfl rfl rfl rfl (by decide) (fun h3 ⟨hO, hFn⟩ => ?_)
      have hG : Fr h h3 x (x + 107) := hG.tr hFn
      clear hX hT hRe hRo hHi hSp hC hD hcd hC0 hD0 hSp0 hTs hRs hCN hCL hCP hDN hDL hDP hHs
      obtain ⟨hX, hT, hRe, hRo, hHi, hSp, hC, hD, hcd⟩ := id hO
      have hC0 := hC.1
      have hD0 := hD.1
      have hSp0 := hSp.1
      obtain ⟨_, hTs, -, -⟩ := id hT
      obtain ⟨_, _, hRs, -, -⟩ := id hRo
      obtain ⟨_, _, _, hCN, -, -⟩ := id hC.2.1
      obtain ⟨_, _, hCL, -, -⟩ := id hC.2.2.1
      obtain ⟨_, _, _, hCP, -, -⟩ := id hC.2.2.2
      obtain ⟨_, _, _, hDN, -, -⟩ := id hD.2.1
      obtain ⟨_, _, hDL, -, -⟩ := id hD.2.2.1
      obtain ⟨_, _, _, hDP, -, -⟩ := id hD.2.2.2
      obtain ⟨_, _, _, ⟨hHs, -⟩, -⟩ := id hHi
      refine x_aload_n dX8_mark_69 rfl ?_
      refine s_get dX8_mark_70 fX8_48 hX rfl ?_
      refine s_get dX8_mark_73 fX8_62 hC0 rfl ?_
      refine x_iload dX8_mark_76 rfl ?_
      refine p_V dX8_mark_78 lX8_158 (c_X2_marksOf sz hC.2.1 (i := gN S.2.2.2.2 k) hn.1 hn.2.1) hCN.1 rfl rfl rfl rfl (by decide) ?_
      refine x_ireturn dX8_mark_81 rfl ?_
      exact ⟨_, rfl, Done (t, hs, sp, b, S) (S.1, S.2.1, fU S.2.2.1 (gN S.2.2.2.2 k).toNat (S.2.2.1 (gN S.2.2.2.2 k).toNat ^^^ 2 ^ v.toNat), S.2.2.2.1, S.2.2.2.2), Or.inr (Or.inr ⟨by omega, qc22q, rfl, by dsimp only; rw [fU_s]⟩), hO.A, hG⟩
    · refine x_bipush dX8_mark_25 (by decide) ?_
      refine x_ireturn dX8_mark_27 rfl ?_
      exact ⟨_, rfl, (t, hs, sp, b, S), Or.inr (Or.inl ⟨by omega, qc22q, rfl, rfl⟩), hO0.A, Fr.rf⟩
  · refine x_bipush dX8_mark_15 (by decide) ?_
    refine x_ireturn dX8_mark_17 rfl ?_
    exact ⟨_, rfl, (t, hs, sp, b, S), Or.inl ⟨by omega, rfl, rfl⟩, hO0.A, Fr.rf⟩
