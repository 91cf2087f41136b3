theorem RmR.cg {r r' : Nat → Int} {S : CS} (h : RmR r S) (hB : PlB S.2.2.2.2) (hN : NoB S.1 S.2.1 S.2.2.1) (hKB : KB S.1 (kid S.2.2.2.1)) (e : ∀ i, i < 2494 → r' i = r i) : RmR r' S := by
  obtain ⟨h0, h1, h2, h3, h4⟩ := h
  have hL := hB.1
  have hd := hKB.1
  refine ⟨(e 0 (by omega)).trans h0, ⟨(e 1 (by omega)).trans h1.1, fun k hk => ?_⟩, fun x hx => (e _ (by omega)).trans (h2 x hx), fun x hx => ?_, fun x hx1 hx => ?_⟩
  · rw [e _ (by omega), e _ (by omega), e _ (by omega)]
    exact h1.2 k hk
  · have hl := (hKB.2 x hx).1
    exact ⟨(e _ (by omega)).trans (h3 x hx).1, fun j hj => (e _ (by omega)).trans ((h3 x hx).2 j hj)⟩
  · have hl := (hN.2 x hx1 hx).1
    exact ⟨(e _ (by omega)).trans (h4 x hx1 hx).1, fun j hj => (e _ (by omega)).trans ((h4 x hx1 hx).2.1 j hj), (e _ (by omega)).trans (h4 x hx1 hx).2.2⟩
theorem RmR.c1 {r r' : Nat → Int} {S : CS} (h : RmR r S) (hI : In1 S) (e : ∀ i, i < 2494 → r' i = r i) : RmR r' S := h.cg hI.1 hI.2.1 hI.2.2.1 e
/-- the model's rows and numbers hold what all see -/
def MoC (w : Nat → Nat → Int) (u : Nat → Int) (A : AS) : Prop := RmR (w 0) A.2.2.2.2 ∧ (∀ (j : Nat) (S : CS), A.2.1[j]? = some S → RmR (fun i => w 1 (2494 * j + i)) S) ∧ u 0 = (A.2.1.length : Int) ∧ u 1 = (A.2.2.2.1 : Int) ∧ (A.2.2.2.1 ≠ 0 → RmR (w 2) A.2.2.1) ∧ TxR w u A.1
/-- what is so of what all see -/
def In2 (A : AS) : Prop := TyB A.1 ∧ A.2.1.length ≤ 5 ∧ A.2.2.2.1 ≤ 1 ∧ In1 A.2.2.2.2 ∧ In1 A.2.2.1 ∧ ∀ S ∈ A.2.1, In1 S
def MoR (h : AH) (m : Nat) (A : AS) : Prop := ∃ w u, MoW h m w u ∧ MoC w u A
theorem MoR.mv {h h' : AH} {m lo hi : Nat} {A : AS} (a : MoR h m A) (f : Fr h h' lo hi) (d : hi ≤ m ∨ m + 17 ≤ lo) : MoR h' m A := by
  obtain ⟨w, u, h1, h2⟩ := a
  exact ⟨w, u, h1.mv f d, h2⟩
theorem hPush_get {hs : List CS} {S : CS} {n1 : Nat} (hn : n1 = if hs.length = 5 then 4 else hs.length) : (hPush hs S).length = n1 + 1 ∧ (hPush hs S)[n1]? = some S ∧ ∀ j, j < n1 → (hPush hs S)[j]? = hs[j + (if hs.length = 5 then 1 else 0)]? := by
  unfold hPush
  by_cases q : hs.length = 5
  · rw [if_pos q] at hn ⊢
    have ht : hs.tail.length = n1 := by rw [List.length_tail]; omega
    refine ⟨by rw [List.length_append, List.length_singleton, ht], by rw [List.getElem?_append_right (by omega), ht, Nat.sub_self]; rfl, fun j hj => ?_⟩
    rw [List.getElem?_append_left (by omega), if_pos q, List.getElem?_tail]
  · rw [if_neg q] at hn ⊢
    subst hn
    refine ⟨by rw [List.length_append, List.length_singleton], by rw [List.getElem?_append_right (Nat.le_refl _), Nat.sub_self]; rfl, fun j hj => ?_⟩
    rw [List.getElem?_append_left (by omega), if_neg q, Nat.add_zero]
/-- behind an act: the spare row (the state before) came into the history, now holds the new state -/
theorem MoC.done {w w1 : Nat → Nat → Int} {u : Nat → Int} {A : AS} {S' : CS} {g : Nat → Int} {n1 : Nat} (hC : MoC w u A) (hI : In2 A) (hn : n1 = if A.2.1.length = 5 then 4 else A.2.1.length) (hg1 : ∀ j i : Nat, j < n1 → i < 2494 → g (2494 * j + i) = w 1 (2494 * (j + (if A.2.1.length = 5 then 1 else 0)) + i)) (hg2 : ∀ i : Nat, i < 2494 → g (2494 * n1 + i) = w 0 i) (h0 : RmR (w1 0) S') (h2 : w1 2 = w 2) (h10 : w1 10 = w 10) : MoC (fU w1 1 g) (fU u 0 ((n1 : Int) + 1)) (Done A S') := by
  obtain ⟨qc1q, qc2q, qc3q, qc4q, qc5q, qc6q⟩ := hC
  obtain ⟨i1, i2, i3, i4, i5, i6⟩ := hI
  obtain ⟨p1, p2, p3⟩ := hPush_get (S := A.2.2.2.2) hn
  refine ⟨h0, fun j S hj => ?_, ?_, qc4q, fun q => ?_, qc6q.1, fun i hi => ?_⟩
  · have hj2 := (List.getElem?_eq_some_iff.mp hj).1
    dsimp only [Done] at hj hj2
    rw [p1] at hj2
    show RmR (fun i => g (2494 * j + i)) S
    by_cases q : j = n1
    · rw [q, p2] at hj
      cases hj
      rw [q]
      exact qc1q.c1 i4 (fun i hi => hg2 i hi)
    · rw [p3 j (by omega)] at hj
      exact (qc2q _ S hj).c1 (i6 S (List.mem_of_getElem? hj)) (fun i hi => hg1 j i (by omega) hi)
  · show ((n1 : Int) + 1) = ((hPush A.2.1 A.2.2.2.2).length : Int)
    rw [p1]
    omega
  · show RmR (w1 2) A.2.2.1
    rw [h2]
    exact qc5q q
  · show w1 10 i = _
    rw [h10]
    exact qc6q.2 i hi

theorem c_X9_type (sz : Nat) {h : AH} {m : Nat} {A : AS} (hMo : MoR h m A) (hIn : In2 A) {ch z : Int} (hch : 0 ≤ ch ∧ ch < 65536) {A' : AS} (hSp : SpType A ch z A') : CC mX9_type 0 0 0 [.ref m, .int (zI ch)] sz h (QI (fun z' h' => z' = z ∧ MoR h' m A' ∧ Fr h h' m (m + 17))) := by
  refine CC.intro [some (.ref m), some (.int (zI ch))] pfX9_type rfl rfl ?_
  obtain ⟨w, u, hM, hC⟩ := hMo
  have hM0 := hM
  unfold MoW at hM
  have hC0 := hC
  have hIn0 := hIn
  obtain ⟨k1, k2, k3, k4, k5, k6⟩ := hC
  obtain ⟨i1, i2, i3, i4, i5, i6⟩ := hIn
  have hl := i1.1
  have hu := k6.1
  refine x_aload_n dX9_type_0 rfl ?_
  refine s_get dX9_type_1 fX9_95 hM rfl ?_
  refine x_bipush dX9_type_4 (by decide) ?_
  refine x_icmp_ne dX9_type_6 ⟨by omega, by omega⟩ ⟨by omega, by omega⟩ (fun qc6q => ?_) (fun qc6q => ?_)
  · refine x_aload_n dX9_type_12 rfl ?_
    refine s_get dX9_type_13 fX9_41 hM rfl ?_
    refine x_aload_n dX9_type_16 rfl ?_
    refine s_get dX9_type_17 fX9_95 hM rfl ?_
    refine x_iload_n dX9_type_20 rfl ?_
    refine s_cast dX9_type_21 hM rfl rfl ⟨by omega, by omega⟩ ⟨by omega, by omega⟩ (fun h hM hF => ?_)
    refine x_aload_n dX9_type_22 rfl ?_
    refine x_dup dX9_type_23 rfl ?_
    refine s_get dX9_type_24 fX9_95 hM rfl ?_
    refine x_iconst dX9_type_27 ?_
    refine x_iadd dX9_type_28 ?_
    refine s_puti dX9_type_29 fX9_95 hM rfl (fun h hM hF => ?_)
    refine x_aload_n dX9_type_32 rfl ?_
    refine s_get dX9_type_33 fX9_95 hM rfl ?_
    refine x_ireturn dX9_type_36 rfl ?_
    obtain ⟨q1, q2, q3⟩ : A.1.length < 60 ∧ z = (A.1.length : Int) + 1 ∧ A' = (A.1 ++ [ch], A.2) := by
      rcases hSp with q | q
      · exact q
      · omega
    rw [q2, q3]
    refine ⟨_, rfl, by rw [hu], ⟨fU w 10 (zU (w 10) (u 2).toNat ch), fU u 2 (u 2 + 1), hM.st, k1, k2, k3, k4, k5, ?_, fun i hi => ?_⟩, hM.fr⟩
    · show u 2 + 1 = ((A.1 ++ [ch]).length : Int)
      rw [hu, List.length_append, List.length_singleton]
      omega
    · show zU (w 10) (u 2).toNat ch i = (A.1 ++ [ch]).getD i 0
      have hi2 : i < A.1.length + 1 := by
        rw [← List.length_singleton (a := ch), ← List.length_append]
        exact hi
      by_cases q : i = A.1.length
      · rw [q, show (u 2).toNat = A.1.length by omega, zU_s, List.getD_eq_getElem?_getD, List.getElem?_append_right (Nat.le_refl _), Nat.sub_self]
        rfl
      · rw [zU_n (by omega), List.getD_eq_getElem?_getD, List.getElem?_append_left (by omega), ← List.getD_eq_getElem?_getD]
        exact k6.2 i (by omega)
  · refine x_bipush dX9_type_9 (by decide) ?_
    refine x_ireturn dX9_type_11 rfl ?_
    obtain ⟨q1, q2, q3⟩ : 60 ≤ A.1.length ∧ z = -4 ∧ A' = A := by
      rcases hSp with q | q
      · omega
      · exact q
    rw [q2, q3]
    exact ⟨_, rfl, rfl, ⟨w, u, hM0, hC0⟩, Fr.rf⟩
theorem c_X9_clearText (sz : Nat) {h : AH} {m : Nat} {A : AS} (hMo : MoR h m A) (hIn : In2 A) {z : Int} {A' : AS} (hSp : SpClear A z A') : CC mX9_clearText 0 0 0 [.ref m] sz h (QI (fun z' h' => z' = z ∧ MoR h' m A' ∧ Fr h h' m (m + 17))) := by
  refine CC.intro [some (.ref m), none] pfX9_clearText rfl rfl ?_
  obtain ⟨w, u, hM, hC⟩ := hMo
  have hM0 := hM
  unfold MoW at hM
  have hC0 := hC
  have hIn0 := hIn
  obtain ⟨k1, k2, k3, k4, k5, k6⟩ := hC
  obtain ⟨i1, i2, i3, i4, i5, i6⟩ := hIn
  have hu := k6.1
  obtain ⟨q2, q3⟩ := hSp
  refine x_aload_n dX9_clearText_0 rfl ?_
  refine s_get dX9_clearText_1 fX9_95 hM rfl ?_
  refine x_istore_n dX9_clearText_4 rfl rfl rfl ?_
  refine x_aload_n dX9_clearText_5 rfl ?_
  refine x_iconst dX9_clearText_6 ?_
  refine s_puti dX9_clearText_7 fX9_95 hM rfl (fun h hM hF => ?_)
  refine x_iload_n dX9_clearText_10 rfl ?_
  refine x_ireturn dX9_clearText_11 rfl ?_
  rw [q2, q3]
  exact ⟨_, rfl, by rw [hu], ⟨w, fU u 2 0, hM.st, k1, k2, k3, k4, k5, rfl, fun i hi => by simp at hi⟩, hM.fr⟩
