theorem fU_fU {α : Type} (f : Nat → α) (k : Nat) (u v : α) : fU (fU f k u) k v = fU f k v := by
  funext i
  by_cases q : i = k
  · rw [q, fU_s, fU_s]
  · rw [fU_n q, fU_n q, fU_n q]
/-- the places that pairs have, with the folds of earlier places -/
def lyO (L : List LK) (bef : List PE) : List PE := lyF (kid L) bef 40 1 (-1) (kid L 0)
/-- a child comes under a parent and the state is accepted; or there is no room -/
def Att (A : AS) (e : Nat) (tx : Nat → List Int) (mk : Nat → Nat) (L : List LK) (y k : Nat) (z : Int) (A' : AS) : Prop :=
  ((L.length < 120 ∧ (lyO (L ++ [(y, k)]) A.2.2.2.2.2.2.2.2).length ≤ 120) ∧ z = pCnt (lyO (L ++ [(y, k)]) A.2.2.2.2.2.2.2.2) k ∧ A' = Done A (e, tx, mk, L ++ [(y, k)], lyO (L ++ [(y, k)]) A.2.2.2.2.2.2.2.2)) ∨
  (¬ (L.length < 120 ∧ (lyO (L ++ [(y, k)]) A.2.2.2.2.2.2.2.2).length ≤ 120) ∧ z = -4 ∧ A' = A)
theorem Att.z {A : AS} {e : Nat} {tx : Nat → List Int} {mk : Nat → Nat} {L : List LK} {y k : Nat} {z : Int} {A' : AS} (a : Att A e tx mk L y k z A') : -4 ≤ z ∧ z ≤ 120 := by
  rcases a with ⟨h1, h2, h3⟩ | ⟨h1, h2, h3⟩
  · have := cZ_r (fun j => decide ((pn (lyO (L ++ [(y, k)]) A.2.2.2.2.2.2.2.2) j : Int) = (k : Int))) (i := ((lyO (L ++ [(y, k)]) A.2.2.2.2.2.2.2.2).length : Int)) (by omega)
    unfold pCnt at h2
    omega
  · omega

theorem c_X8_attach (sz : Nat) {h : AH} {x b c d : Nat} {t : List Int} {hs : List CS} {sp S : CS} {e : Nat} {tx : Nat → List Int} {mk : Nat → Nat} {L : List LK} {pl0 : List PE} (hO : OuR h x t hs sp b c d S (e, tx, mk, L, pl0)) {y k : Nat} (hy : y ≤ 40) (hk : 1 ≤ k ∧ k ≤ 40) (hDp : Dp (kid (L ++ [(y, k)])) 40 0) : CC mX8_attach 62 0 0 [.ref x, .int (zI k), .int (zI y)] sz h (QI (fun z h' => ∃ A', Att (t, hs, sp, b, S) e tx mk L y k z A' ∧ OuA h' x A' ∧ Fr h h' x (x + 107))) := by
  refine CC.intro [some (.ref x), some (.int (zI k)), some (.int (zI y))] pfX8_attach rfl rfl ?_
  have hO0 := hO
  obtain ⟨hX, hT, hRe, hRo, hHi, hSp, hC, hD, hcd⟩ := id hO
  have hC0 := hC.1
  have hD0 := hD.1
  have hSp0 := hSp.1
  obtain ⟨_, hTs, -, -⟩ := id hT
  obtain ⟨_, _, hRs, -, -⟩ := id hRo
  obtain ⟨_, _, _, hCN, -, -⟩ := id hC.2.1
  obtain ⟨_, _, hCL, -, -⟩ := id hC.2.2.1
  obtain ⟨_, _, _, hCP, -, -⟩ := id hC.2.2.2
  obtain ⟨_, _, _, hDN, -, -⟩ := id hD.2.1
  obtain ⟨_, _, hDL, -, -⟩ := id hD.2.2.1
  obtain ⟨_, _, _, hDP, -, -⟩ := id hD.2.2.2
  obtain ⟨_, _, _, ⟨hHs, -⟩, -⟩ := id hHi
  refine x_aload_n dX8_attach_0 rfl ?_
  refine s_get dX8_attach_1 fX8_51 hX rfl ?_
  refine s_get dX8_attach_4 fX8_103 hD0 rfl ?_
  refine x_iload_n dX8_attach_7 rfl ?_
  refine x_iload_n dX8_attach_8 rfl ?_
  refine i_V dX8_attach_9 lX8_269 (c_X1_append sz hD.2.2.1 hy hk) hDL.1 rfl rfl rfl rfl (by decide) (fun r h1 hr => ?_)
  have hrr : r = 0 ∨ r = 1 := by rcases hr with q | q <;> omega
  refine x_if_eq dX8_attach_12 ⟨by omega, by omega⟩ (fun qc12q => ?_) (fun qc12q => ?_)
  · have q1 : 120 ≤ L.length ∧ h1 = h := by
      rcases hr with q | q
      · omega
      · exact ⟨q.1, q.2.2⟩
    obtain ⟨q1, rfl⟩ := q1
    refine x_bipush dX8_attach_32 (by decide) ?_
    refine x_ireturn dX8_attach_34 rfl ?_
    first
      | exact ⟨_, rfl, (t, hs, sp, b, S), Or.inr ⟨fun q => by have := q.1; omega, rfl, rfl⟩, hO0.A, Fr.rf⟩
      | exact ⟨_, rfl, (t, hs, sp, b, S), Or.inr ⟨fun q => by have h9 := q.2; dsimp only at h9; omega, rfl, rfl⟩, hO.A, hG⟩
  · obtain ⟨q1, hLn, hFn⟩ : L.length < 120 ∧ LiR h1 (d + 5) (L ++ [(y, k)]) ∧ Fr h h1 (d + 5) (d + 5 + 3) := by
      rcases hr with q | q
      · exact ⟨q.1, q.2.2⟩
      · omega
    have hO := hO.dL hLn hFn
    have hG : Fr h h1 x (x + 107) := hFn.wd (by omega) (by omega)
    clear hX hT hRe hRo hHi hSp hC hD hcd hC0 hD0 hSp0 hTs hRs hCN hCL hCP hDN hDL hDP hHs
    obtain ⟨hX, hT, hRe, hRo, hHi, hSp, hC, hD, hcd⟩ := id hO
    have hC0 := hC.1
    have hD0 := hD.1
    have hSp0 := hSp.1
    obtain ⟨_, hTs, -, -⟩ := id hT
    obtain ⟨_, _, hRs, -, -⟩ := id hRo
    obtain ⟨_, _, _, hCN, -, -⟩ := id hC.2.1
    obtain ⟨_, _, hCL, -, -⟩ := id hC.2.2.1
    obtain ⟨_, _, _, hCP, -, -⟩ := id hC.2.2.2
    obtain ⟨_, _, _, hDN, -, -⟩ := id hD.2.1
    obtain ⟨_, _, hDL, -, -⟩ := id hD.2.2.1
    obtain ⟨_, _, _, hDP, -, -⟩ := id hD.2.2.2
    obtain ⟨_, _, _, ⟨hHs, -⟩, -⟩ := id hHi
    refine x_aload_n dX8_attach_15 rfl ?_
    refine s_get dX8_attach_16 fX8_51 hX rfl ?_
    refine x_aload_n dX8_attach_19 rfl ?_
    refine s_get dX8_attach_20 fX8_48 hX rfl ?_
    refine s_get dX8_attach_23 fX8_84 hC0 rfl ?_
    refine i_V dX8_attach_26 lX8_119 (c_X6_placeAgain sz hD hDp hC.2.2.2 (by omega)) hD0.1 rfl rfl rfl rfl (by decide) (fun r2 h2 hr2 => ?_)
    have hrr2 : r2 = 0 ∨ r2 = 1 := by rcases hr2 with q | q <;> omega
    refine x_if_ne dX8_attach_29 ⟨by omega, by omega⟩ (fun qc29q => ?_) (fun qc29q => ?_)
    · obtain ⟨q2, hSn, hFn⟩ : (lyO (L ++ [(y, k)]) S.2.2.2.2).length ≤ 120 ∧ StR h2 d (e, tx, mk, L ++ [(y, k)], lyO (L ++ [(y, k)]) S.2.2.2.2) ∧ Fr h1 h2 d (d + 12) := by
        rcases hr2 with q | q
        · exact ⟨q.1, q.2.2⟩
        · omega
      have hO := hO.dr hSn hFn
      have hG : Fr h h2 x (x + 107) := hG.tr (hFn.wd (by omega) (by omega))
      clear hX hT hRe hRo hHi hSp hC hD hcd hC0 hD0 hSp0 hTs hRs hCN hCL hCP hDN hDL hDP hHs
      obtain ⟨hX, hT, hRe, hRo, hHi, hSp, hC, hD, hcd⟩ := id hO
      have hC0 := hC.1
      have hD0 := hD.1
      have hSp0 := hSp.1
      obtain ⟨_, hTs, -, -⟩ := id hT
      obtain ⟨_, _, hRs, -, -⟩ := id hRo
      obtain ⟨_, _, _, hCN, -, -⟩ := id hC.2.1
      obtain ⟨_, _, hCL, -, -⟩ := id hC.2.2.1
      obtain ⟨_, _, _, hCP, -, -⟩ := id hC.2.2.2
      obtain ⟨_, _, _, hDN, -, -⟩ := id hD.2.1
      obtain ⟨_, _, hDL, -, -⟩ := id hD.2.2.1
      obtain ⟨_, _, _, hDP, -, -⟩ := id hD.2.2.2
      obtain ⟨_, _, _, ⟨hHs, -⟩, -⟩ := id hHi
      refine x_aload_n dX8_attach_35 rfl ?_
      refine v_V dX8_attach_36 lX8_131 (c_X8_accept sz hO) hX.1 rfl rfl rfl rfl (by decide) (fun h3 ⟨hO, hFn⟩ => ?_)
      have hG : Fr h h3 x (x + 107) := hG.tr hFn
      clear hX hT hRe hRo hHi hSp hC hD hcd hC0 hD0 hSp0 hTs hRs hCN hCL hCP hDN hDL hDP hHs
      obtain ⟨hX, hT, hRe, hRo, hHi, hSp, hC, hD, hcd⟩ := id hO
      have hC0 := hC.1
      have hD0 := hD.1
      have hSp0 := hSp.1
      obtain ⟨_, hTs, -, -⟩ := id hT
      obtain ⟨_, _, hRs, -, -⟩ := id hRo
      obtain ⟨_, _, _, hCN, -, -⟩ := id hC.2.1
      obtain ⟨_, _, hCL, -, -⟩ := id hC.2.2.1
      obtain ⟨_, _, _, hCP, -, -⟩ := id hC.2.2.2
      obtain ⟨_, _, _, hDN, -, -⟩ := id hD.2.1
      obtain ⟨_, _, hDL, -, -⟩ := id hD.2.2.1
      obtain ⟨_, _, _, hDP, -, -⟩ := id hD.2.2.2
      obtain ⟨_, _, _, ⟨hHs, -⟩, -⟩ := id hHi
      refine x_aload_n dX8_attach_39 rfl ?_
      refine s_get dX8_attach_40 fX8_48 hX rfl ?_
      refine s_get dX8_attach_43 fX8_84 hC0 rfl ?_
      refine x_iload_n dX8_attach_46 rfl ?_
      refine p_V dX8_attach_47 lX8_148 (c_X3_countOf sz hC.2.2.2 (z := (k : Int)) ⟨by omega, by omega⟩) hCP.1 rfl rfl rfl rfl (by decide) ?_
      refine x_ireturn dX8_attach_50 rfl ?_
      exact ⟨_, rfl, Done (t, hs, sp, b, S) (e, tx, mk, L ++ [(y, k)], lyO (L ++ [(y, k)]) S.2.2.2.2), Or.inl ⟨⟨q1, q2⟩, rfl, rfl⟩, hO.A, hG⟩
    · obtain ⟨q2, ⟨pl', hSn⟩, hFn⟩ : 120 < (lyO (L ++ [(y, k)]) S.2.2.2.2).length ∧ (∃ pl', StR h2 d (e, tx, mk, L ++ [(y, k)], pl')) ∧ Fr h1 h2 d (d + 12) := by
        rcases hr2 with q | q
        · omega
        · exact ⟨q.1, q.2.2⟩
      have hO := hO.dr hSn hFn
      have hG : Fr h h2 x (x + 107) := hG.tr (hFn.wd (by omega) (by omega))
      clear hX hT hRe hRo hHi hSp hC hD hcd hC0 hD0 hSp0 hTs hRs hCN hCL hCP hDN hDL hDP hHs
      obtain ⟨hX, hT, hRe, hRo, hHi, hSp, hC, hD, hcd⟩ := id hO
      have hC0 := hC.1
      have hD0 := hD.1
      have hSp0 := hSp.1
      obtain ⟨_, hTs, -, -⟩ := id hT
      obtain ⟨_, _, hRs, -, -⟩ := id hRo
      obtain ⟨_, _, _, hCN, -, -⟩ := id hC.2.1
      obtain ⟨_, _, hCL, -, -⟩ := id hC.2.2.1
      obtain ⟨_, _, _, hCP, -, -⟩ := id hC.2.2.2
      obtain ⟨_, _, _, hDN, -, -⟩ := id hD.2.1
      obtain ⟨_, _, hDL, -, -⟩ := id hD.2.2.1
      obtain ⟨_, _, _, hDP, -, -⟩ := id hD.2.2.2
      obtain ⟨_, _, _, ⟨hHs, -⟩, -⟩ := id hHi
      refine x_bipush dX8_attach_32 (by decide) ?_
      refine x_ireturn dX8_attach_34 rfl ?_
      first
        | exact ⟨_, rfl, (t, hs, sp, b, S), Or.inr ⟨fun q => by have := q.1; omega, rfl, rfl⟩, hO0.A, Fr.rf⟩
        | exact ⟨_, rfl, (t, hs, sp, b, S), Or.inr ⟨fun q => by have h9 := q.2; dsimp only at h9; omega, rfl, rfl⟩, hO.A, hG⟩
def SpAdd (A : AS) (r z : Int) (A' : AS) : Prop := let S := A.2.2.2.2; let u := plR S.2.2.2.2 r
  (u = -2 ∧ z = -2 ∧ A' = A) ∨ (u ≠ -2 ∧ ¬ (1 ≤ A.1.length ∧ A.1.length ≤ 8) ∧ z = -3 ∧ A' = A) ∨ (u ≠ -2 ∧ (1 ≤ A.1.length ∧ A.1.length ≤ 8) ∧ 40 ≤ S.1 ∧ z = -4 ∧ A' = A) ∨
  (u ≠ -2 ∧ (1 ≤ A.1.length ∧ A.1.length ≤ 8) ∧ S.1 < 40 ∧ ∃ v, Att A (S.1 + 1) (fU S.2.1 (S.1 + 1) A.1) (fU S.2.2.1 (S.1 + 1) 0) S.2.2.2.1 (gN S.2.2.2.2 u).toNat (S.1 + 1) v A' ∧ z = if v = -4 then -4 else (S.1 : Int) + 1)
def SpClone (A : AS) (r u z : Int) (A' : AS) : Prop := let S := A.2.2.2.2; let k := plZ S.2.2.2.2 r; let w := plR S.2.2.2.2 u
  ((k = -2 ∨ w = -2) ∧ z = -2 ∧ A' = A) ∨ ((k ≠ -2 ∧ w ≠ -2) ∧ rfP S k w ∧ z = -5 ∧ A' = A) ∨ ((k ≠ -2 ∧ w ≠ -2) ∧ ¬ rfP S k w ∧ Att A S.1 S.2.1 S.2.2.1 S.2.2.2.1 (gN S.2.2.2.2 w).toNat (gN S.2.2.2.2 k).toNat z A')
/-- the pairs without the one of a place -/
def lkX (S : CS) (k : Int) : List LK := S.2.2.2.1.erase ((gN S.2.2.2.2 (pPar S.2.2.2.2 k)).toNat, (gN S.2.2.2.2 k).toNat)
def SpMove (A : AS) (r u z : Int) (A' : AS) : Prop := let S := A.2.2.2.2; let k := plZ S.2.2.2.2 r; let w := plR S.2.2.2.2 u
  ((k = -2 ∨ w = -2) ∧ z = -2 ∧ A' = A) ∨ ((k ≠ -2 ∧ w ≠ -2) ∧ rfP S k w ∧ z = -5 ∧ A' = A) ∨ ((k ≠ -2 ∧ w ≠ -2) ∧ ¬ rfP S k w ∧ Att A S.1 S.2.1 S.2.2.1 (lkX S k) (gN S.2.2.2.2 w).toNat (gN S.2.2.2.2 k).toNat z A')
/-- how many of the nodes of one list of places are in none of another -/
def vaN (a b : List PE) : Int := (cB (fun k => decide (k ∈ (pWit a (-1)).filter (fun x => decide (x ∉ pWit b (-1))))) 48 : Nat)
def SpCut (A : AS) (r z : Int) (A' : AS) : Prop := let S := A.2.2.2.2; let k := plZ S.2.2.2.2 r; let M := lkX S k; let q := lyO M S.2.2.2.2
  (k = -2 ∧ z = -2 ∧ A' = A) ∨ (k ≠ -2 ∧ z = vaN S.2.2.2.2 q ∧ A' = Done A (S.1, S.2.1, S.2.2.1, M.filter (fun e => decide (e.1 ∈ pWit q (-1) ++ [0])), q))
/-- the pair of a place is there -/
def LkP (S : CS) : Prop := ∀ z : Int, 0 ≤ z → z < S.2.2.2.2.length → ((gN S.2.2.2.2 (pPar S.2.2.2.2 z)).toNat, (gN S.2.2.2.2 z).toNat) ∈ S.2.2.2.1
theorem er_split {L : List LK} {a : LK} (h : a ∈ L) : ∃ L1 L2, L = L1 ++ a :: L2 ∧ a ∉ L1 ∧ L.erase a = L1 ++ L2 := by
  obtain ⟨L1, L2, h1, h2, h3⟩ := List.exists_erase_eq h
  exact ⟨L1, L2, h2, h1, h3⟩
theorem plZ_lo (pl : List PE) {r : Int} (h : r < 0) : plZ pl r = -2 := by
  have h1 := fZ_spec (rwQ pl r) pl.length (i := 0) (by omega) (by omega)
  unfold plZ
  split
  · rename_i q
    have h2 := h1.2.2.2 q
    unfold rwQ at h2
    simp at h2
    omega
  · rfl
theorem plR_no (S : CS) {u : Int} (h : plR S.2.2.2.2 u ≠ -2) : gN S.2.2.2.2 (plR S.2.2.2.2 u) = gN S.2.2.2.2 (plZ S.2.2.2.2 u) := by
  unfold plR at h ⊢
  split
  · rename_i q
    rw [q]
    rw [show plZ S.2.2.2.2 (-1) = -2 from plZ_lo S.2.2.2.2 (by omega)]
    rfl
  · rfl
theorem c_X8_add (sz : Nat) {h : AH} {x b c d : Nat} {t : List Int} {hs : List CS} {sp S D : CS} (hO : OuR h x t hs sp b c d S D) {r : Int} (hr : inR r) (hDp : plR S.2.2.2.2 r ≠ -2 → S.1 < 40 → Dp (kid (S.2.2.2.1 ++ [((gN S.2.2.2.2 (plR S.2.2.2.2 r)).toNat, S.1 + 1)])) 40 0) : CC mX8_add 63 0 0 [.ref x, .int (zI r)] sz h (QI (fun z h' => ∃ A', SpAdd (t, hs, sp, b, S) r z A' ∧ OuA h' x A' ∧ Fr h h' x (x + 107))) := by
  refine CC.intro [some (.ref x), some (.int (zI r)), none, none] pfX8_add rfl rfl ?_
  have hO0 := hO
  obtain ⟨hX, hT, hRe, hRo, hHi, hSp, hC, hD, hcd⟩ := id hO
  have hC0 := hC.1
  have hD0 := hD.1
  have hSp0 := hSp.1
  obtain ⟨_, hTs, -, -⟩ := id hT
  obtain ⟨_, _, hRs, -, -⟩ := id hRo
  obtain ⟨_, _, _, hCN, -, -⟩ := id hC.2.1
  obtain ⟨_, _, hCL, -, -⟩ := id hC.2.2.1
  obtain ⟨_, _, _, hCP, -, -⟩ := id hC.2.2.2
  obtain ⟨_, _, _, hDN, -, -⟩ := id hD.2.1
  obtain ⟨_, _, hDL, -, -⟩ := id hD.2.2.1
  obtain ⟨_, _, _, hDP, -, -⟩ := id hD.2.2.2
  obtain ⟨_, _, _, ⟨hHs, -⟩, -⟩ := id hHi
  have hpB := hC.2.2.2.B
  have hpl := hpB.1
  have hnB := hC.2.1.B.1
  have hz := plZ_r S.2.2.2.2 r
  have hz3 : plR S.2.2.2.2 r = -1 ∨ plR S.2.2.2.2 r = plZ S.2.2.2.2 r := by
    unfold plR
    split
    · exact Or.inl rfl
    · exact Or.inr rfl
  have hz4 : -2 ≤ plR S.2.2.2.2 r ∧ plR S.2.2.2.2 r < S.2.2.2.2.length := by omega
  unfold SpAdd
  dsimp only
  generalize hzz : plR S.2.2.2.2 r = u at *
  have hg := gN_r hpB u
  refine x_aload_n dX8_add_0 rfl ?_
  refine x_iload_n dX8_add_1 rfl ?_
  refine p_V dX8_add_2 lX8_54 (c_X8_placeOrRoot sz hO0 hr) hX.1 rfl rfl rfl rfl (by decide) ?_
  rw [hzz]
  refine x_istore_n dX8_add_5 rfl rfl rfl ?_
  refine x_iload_n dX8_add_6 rfl ?_
  refine x_bipush dX8_add_7 (by decide) ?_
  refine x_icmp_ne dX8_add_9 ⟨by omega, by omega⟩ ⟨by omega, by omega⟩ (fun qc9q => ?_) (fun qc9q => ?_)
  · refine x_aload_n dX8_add_15 rfl ?_
    refine s_get dX8_add_16 fX8_10 hX rfl ?_
    refine p_V dX8_add_19 lX8_58 (c_X7_fitsNode sz hT) hTs.1 rfl rfl rfl rfl (by decide) ?_
    refine x_ifB_ne dX8_add_22 (fun qc22q => ?_) (fun qc22q => ?_)
    · refine x_aload_n dX8_add_28 rfl ?_
      refine s_get dX8_add_29 fX8_48 hX rfl ?_
      refine s_get dX8_add_32 fX8_62 hC0 rfl ?_
      refine s_get dX8_add_35 fX8_66 hCN rfl ?_
      refine x_bipush dX8_add_38 (by decide) ?_
      refine x_icmp_lt dX8_add_40 ⟨by omega, by omega⟩ ⟨by omega, by omega⟩ (fun qc40q => ?_) (fun qc40q => ?_)
      · refine x_aload_n dX8_add_46 rfl ?_
        refine s_get dX8_add_47 fX8_51 hX rfl ?_
        refine x_aload_n dX8_add_50 rfl ?_
        refine s_get dX8_add_51 fX8_48 hX rfl ?_
        refine v_V dX8_add_54 lX8_72 (c_X6_copyFrom sz hD hC (by omega)) hD0.1 rfl rfl rfl rfl (by decide) (fun h1 ⟨hDn, hFn⟩ => ?_)
        have hO := hO.dr hDn hFn
        have hG : Fr h h1 x (x + 107) := hFn.wd (by omega) (by omega)
        clear hX hT hRe hRo hHi hSp hC hD hcd hC0 hD0 hSp0 hTs hRs hCN hCL hCP hDN hDL hDP hHs
        obtain ⟨hX, hT, hRe, hRo, hHi, hSp, hC, hD, hcd⟩ := id hO
        have hC0 := hC.1
        have hD0 := hD.1
        have hSp0 := hSp.1
        obtain ⟨_, hTs, -, -⟩ := id hT
        obtain ⟨_, _, hRs, -, -⟩ := id hRo
        obtain ⟨_, _, _, hCN, -, -⟩ := id hC.2.1
        obtain ⟨_, _, hCL, -, -⟩ := id hC.2.2.1
        obtain ⟨_, _, _, hCP, -, -⟩ := id hC.2.2.2
        obtain ⟨_, _, _, hDN, -, -⟩ := id hD.2.1
        obtain ⟨_, _, hDL, -, -⟩ := id hD.2.2.1
        obtain ⟨_, _, _, hDP, -, -⟩ := id hD.2.2.2
        obtain ⟨_, _, _, ⟨hHs, -⟩, -⟩ := id hHi
        refine x_aload_n dX8_add_57 rfl ?_
        refine s_get dX8_add_58 fX8_51 hX rfl ?_
        refine s_get dX8_add_61 fX8_62 hD0 rfl ?_
        refine i_V dX8_add_64 lX8_76 (c_X2_makeNode sz hD.2.1 (by omega)) hDN.1 rfl rfl rfl rfl (by decide) (fun r1 h2 ⟨hr1, hPn, hFn⟩ => ?_)
        subst hr1
        have hO := hO.dN hPn hFn
        have hG : Fr h h2 x (x + 107) := hG.tr (hFn.wd (by omega) (by omega))
        clear hX hT hRe hRo hHi hSp hC hD hcd hC0 hD0 hSp0 hTs hRs hCN hCL hCP hDN hDL hDP hHs
        obtain ⟨hX, hT, hRe, hRo, hHi, hSp, hC, hD, hcd⟩ := id hO
        have hC0 := hC.1
        have hD0 := hD.1
        have hSp0 := hSp.1
        obtain ⟨_, hTs, -, -⟩ := id hT
        obtain ⟨_, _, hRs, -, -⟩ := id hRo
        obtain ⟨_, _, _, hCN, -, -⟩ := id hC.2.1
        obtain ⟨_, _, hCL, -, -⟩ := id hC.2.2.1
        obtain ⟨_, _, _, hCP, -, -⟩ := id hC.2.2.2
        obtain ⟨_, _, _, hDN, -, -⟩ := id hD.2.1
        obtain ⟨_, _, hDL, -, -⟩ := id hD.2.2.1
        obtain ⟨_, _, _, hDP, -, -⟩ := id hD.2.2.2
        obtain ⟨_, _, _, ⟨hHs, -⟩, -⟩ := id hHi
        rw [show ((S.1 : Nat) : Int) + 1 = ((S.1 + 1 : Nat) : Int) by omega]
        refine x_istore_n dX8_add_67 rfl rfl rfl ?_
        refine x_aload_n dX8_add_68 rfl ?_
        refine s_get dX8_add_69 fX8_51 hX rfl ?_
        refine s_get dX8_add_72 fX8_62 hD0 rfl ?_
        refine x_iload_n dX8_add_75 rfl ?_
        refine x_aload_n dX8_add_76 rfl ?_
        refine s_get dX8_add_77 fX8_10 hX rfl ?_
        refine v_V dX8_add_80 lX8_80 (c_X2_setText sz hD.2.1 hT (by omega) (i := ((S.1 + 1 : Nat) : Int)) (by omega) (by omega) qc22q) hDN.1 rfl rfl rfl rfl (by decide) (fun h3 ⟨hPn, hFn⟩ => ?_)
        rw [Int.toNat_natCast, fU_fU] at hPn
        have hO := hO.dN hPn hFn
        have hG : Fr h h3 x (x + 107) := hG.tr (hFn.wd (by omega) (by omega))
        clear hX hT hRe hRo hHi hSp hC hD hcd hC0 hD0 hSp0 hTs hRs hCN hCL hCP hDN hDL hDP hHs
        obtain ⟨hX, hT, hRe, hRo, hHi, hSp, hC, hD, hcd⟩ := id hO
        have hC0 := hC.1
        have hD0 := hD.1
        have hSp0 := hSp.1
        obtain ⟨_, hTs, -, -⟩ := id hT
        obtain ⟨_, _, hRs, -, -⟩ := id hRo
        obtain ⟨_, _, _, hCN, -, -⟩ := id hC.2.1
        obtain ⟨_, _, hCL, -, -⟩ := id hC.2.2.1
        obtain ⟨_, _, _, hCP, -, -⟩ := id hC.2.2.2
        obtain ⟨_, _, _, hDN, -, -⟩ := id hD.2.1
        obtain ⟨_, _, hDL, -, -⟩ := id hD.2.2.1
        obtain ⟨_, _, _, hDP, -, -⟩ := id hD.2.2.2
        obtain ⟨_, _, _, ⟨hHs, -⟩, -⟩ := id hHi
        refine x_aload_n dX8_add_83 rfl ?_
        refine x_iload_n dX8_add_84 rfl ?_
        refine x_aload_n dX8_add_85 rfl ?_
        refine s_get dX8_add_86 fX8_48 hX rfl ?_
        refine s_get dX8_add_89 fX8_84 hC0 rfl ?_
        refine x_iload_n dX8_add_92 rfl ?_
        refine p_V dX8_add_93 lX8_88 (c_X3_nodeOf sz hC.2.2.2 (z := u) ⟨by omega, by omega⟩) hCP.1 rfl rfl rfl rfl (by decide) ?_
        rw [show gN S.2.2.2.2 u = (((gN S.2.2.2.2 u).toNat : Nat) : Int) by omega]
        refine i_V dX8_add_96 lX8_93 (c_X8_attach sz hO (y := (gN S.2.2.2.2 u).toNat) (k := S.1 + 1) (by omega) (by omega) (hDp (by omega) (by omega))) hX.1 rfl rfl rfl rfl (by decide) (fun z h4 ⟨A', hA, hOA, hFn⟩ => ?_)
        have hz9 := hA.z
        refine x_bipush dX8_add_99 (by decide) ?_
        refine x_icmp_ne dX8_add_101 ⟨by omega, by omega⟩ ⟨by omega, by omega⟩ (fun qc101q => ?_) (fun qc101q => ?_)
        · refine x_iload_n dX8_add_107 rfl ?_
          refine x_ireturn dX8_add_108 rfl ?_
          exact ⟨_, rfl, A', Or.inr (Or.inr (Or.inr ⟨by omega, qc22q, by show S.1 < 40; omega, z, hA, by rw [if_neg (by omega)]⟩)), hOA, hG.tr hFn⟩
        · refine x_bipush dX8_add_104 (by decide) ?_
          refine x_ireturn dX8_add_106 rfl ?_
          exact ⟨_, rfl, A', Or.inr (Or.inr (Or.inr ⟨by omega, qc22q, by show S.1 < 40; omega, z, hA, by rw [if_pos (by omega)]⟩)), hOA, hG.tr hFn⟩
      · refine x_bipush dX8_add_43 (by decide) ?_
        refine x_ireturn dX8_add_45 rfl ?_
        exact ⟨_, rfl, (t, hs, sp, b, S), Or.inr (Or.inr (Or.inl ⟨by omega, qc22q, by show 40 ≤ S.1; omega, rfl, rfl⟩)), hO0.A, Fr.rf⟩
    · refine x_bipush dX8_add_25 (by decide) ?_
      refine x_ireturn dX8_add_27 rfl ?_
      exact ⟨_, rfl, (t, hs, sp, b, S), Or.inr (Or.inl ⟨by omega, qc22q, rfl, rfl⟩), hO0.A, Fr.rf⟩
  · refine x_bipush dX8_add_12 (by decide) ?_
    refine x_ireturn dX8_add_14 rfl ?_
    exact ⟨_, rfl, (t, hs, sp, b, S), Or.inl ⟨by omega, rfl, rfl⟩, hO0.A, Fr.rf⟩
theorem c_X8_cloneTo (sz : Nat) {h : AH} {x b c d : Nat} {t : List Int} {hs : List CS} {sp S D : CS} (hO : OuR h x t hs sp b c d S D) (hWf : Wf S) {r u : Int} (hr : inR r) (hu : inR u) (hDp : plZ S.2.2.2.2 r ≠ -2 → plR S.2.2.2.2 u ≠ -2 → ¬ rfP S (plZ S.2.2.2.2 r) (plR S.2.2.2.2 u) → Dp (kid (S.2.2.2.1 ++ [((gN S.2.2.2.2 (plR S.2.2.2.2 u)).toNat, (gN S.2.2.2.2 (plZ S.2.2.2.2 r)).toNat)])) 40 0) : CC mX8_cloneTo 63 0 0 [.ref x, .int (zI r), .int (zI u)] sz h (QI (fun z h' => ∃ A', SpClone (t, hs, sp, b, S) r u z A' ∧ OuA h' x A' ∧ Fr h h' x (x + 107))) := by
  refine CC.intro [some (.ref x), some (.int (zI r)), some (.int (zI u)), none] pfX8_cloneTo rfl rfl ?_
  have hO0 := hO
  obtain ⟨hX, hT, hRe, hRo, hHi, hSp, hC, hD, hcd⟩ := id hO
  have hC0 := hC.1
  have hD0 := hD.1
  have hSp0 := hSp.1
  obtain ⟨_, hTs, -, -⟩ := id hT
  obtain ⟨_, _, hRs, -, -⟩ := id hRo
  obtain ⟨_, _, _, hCN, -, -⟩ := id hC.2.1
  obtain ⟨_, _, hCL, -, -⟩ := id hC.2.2.1
  obtain ⟨_, _, _, hCP, -, -⟩ := id hC.2.2.2
  obtain ⟨_, _, _, hDN, -, -⟩ := id hD.2.1
  obtain ⟨_, _, hDL, -, -⟩ := id hD.2.2.1
  obtain ⟨_, _, _, hDP, -, -⟩ := id hD.2.2.2
  obtain ⟨_, _, _, ⟨hHs, -⟩, -⟩ := id hHi
  have hpB := hC.2.2.2.B
  have hpl := hpB.1
  have hnB := hC.2.1.B.1
  have hz := plZ_r S.2.2.2.2 r
  have hz2 := plZ_r S.2.2.2.2 u
  have hz3 : plR S.2.2.2.2 u = -1 ∨ plR S.2.2.2.2 u = plZ S.2.2.2.2 u := by
    unfold plR
    split
    · exact Or.inl rfl
    · exact Or.inr rfl
  have hz4 : -2 ≤ plR S.2.2.2.2 u ∧ plR S.2.2.2.2 u < S.2.2.2.2.length := by omega
  have hno := plR_no S (u := u)
  unfold SpClone
  dsimp only
  refine x_aload_n dX8_cloneTo_0 rfl ?_
  refine x_iload_n dX8_cloneTo_1 rfl ?_
  refine x_iload_n dX8_cloneTo_2 rfl ?_
  refine i_V dX8_cloneTo_3 lX8_97 (c_X8_refusalOfParent sz hO0 hr hu) hX.1 rfl rfl rfl rfl (by decide) (fun r1 h0 ⟨hh0, hr1⟩ => ?_)
  subst h0
  have hrr : r1 = -2 ∨ r1 = -5 ∨ r1 = 0 := by rcases hr1 with q | ⟨_, _, q | q⟩ <;> omega
  refine x_istore_n dX8_cloneTo_6 rfl rfl rfl ?_
  refine x_iload_n dX8_cloneTo_7 rfl ?_
  refine x_if_eq dX8_cloneTo_8 ⟨by omega, by omega⟩ (fun qc8q => ?_) (fun qc8q => ?_)
  · have q1 : r1 = 0 ∧ (plZ S.2.2.2.2 r ≠ -2 ∧ plR S.2.2.2.2 u ≠ -2) ∧ ¬ rfP S (plZ S.2.2.2.2 r) (plR S.2.2.2.2 u) := by
      rcases hr1 with q | ⟨q2, q3, q | q⟩
      · omega
      · omega
      · exact ⟨q.2, ⟨q2, q3⟩, q.1⟩
    obtain ⟨rfl, q2, q3⟩ := q1
    have hnn := hno q2.2
    refine x_aload_n dX8_cloneTo_13 rfl ?_
    refine s_get dX8_cloneTo_14 fX8_51 hX rfl ?_
    refine x_aload_n dX8_cloneTo_17 rfl ?_
    refine s_get dX8_cloneTo_18 fX8_48 hX rfl ?_
    refine v_V dX8_cloneTo_21 lX8_72 (c_X6_copyFrom sz hD hC (by omega)) hD0.1 rfl rfl rfl rfl (by decide) (fun h1 ⟨hDn, hFn⟩ => ?_)
    have hO := hO.dr hDn hFn
    have hG : Fr h h1 x (x + 107) := hFn.wd (by omega) (by omega)
    clear hX hT hRe hRo hHi hSp hC hD hcd hC0 hD0 hSp0 hTs hRs hCN hCL hCP hDN hDL hDP hHs
    obtain ⟨hX, hT, hRe, hRo, hHi, hSp, hC, hD, hcd⟩ := id hO
    have hC0 := hC.1
    have hD0 := hD.1
    have hSp0 := hSp.1
    obtain ⟨_, hTs, -, -⟩ := id hT
    obtain ⟨_, _, hRs, -, -⟩ := id hRo
    obtain ⟨_, _, _, hCN, -, -⟩ := id hC.2.1
    obtain ⟨_, _, hCL, -, -⟩ := id hC.2.2.1
    obtain ⟨_, _, _, hCP, -, -⟩ := id hC.2.2.2
    obtain ⟨_, _, _, hDN, -, -⟩ := id hD.2.1
    obtain ⟨_, _, hDL, -, -⟩ := id hD.2.2.1
    obtain ⟨_, _, _, hDP, -, -⟩ := id hD.2.2.2
    obtain ⟨_, _, _, ⟨hHs, -⟩, -⟩ := id hHi
    refine x_aload_n dX8_cloneTo_24 rfl ?_
    refine x_aload_n dX8_cloneTo_25 rfl ?_
    refine x_iload_n dX8_cloneTo_26 rfl ?_
    refine p_V dX8_cloneTo_27 lX8_100 (c_X8_nodeOfRow sz hO hr) hX.1 rfl rfl rfl rfl (by decide) ?_
    refine x_aload_n dX8_cloneTo_30 rfl ?_
    refine x_iload_n dX8_cloneTo_31 rfl ?_
    refine p_V dX8_cloneTo_32 lX8_100 (c_X8_nodeOfRow sz hO hu) hX.1 rfl rfl rfl rfl (by decide) ?_
    rw [← hnn]
    generalize hzz : plZ S.2.2.2.2 r = k at *
    have hg := gN_r hpB k
    have hn := hWf.n hpB (z := k) (by omega) (by omega)
    have hg2 := gN_r hpB (plR S.2.2.2.2 u)
    rw [show gN S.2.2.2.2 (plR S.2.2.2.2 u) = (((gN S.2.2.2.2 (plR S.2.2.2.2 u)).toNat : Nat) : Int) by omega, hn.2.2.1]
    refine i_V dX8_cloneTo_35 lX8_93 (c_X8_attach sz hO (y := (gN S.2.2.2.2 (plR S.2.2.2.2 u)).toNat) (k := (gN S.2.2.2.2 k).toNat) (by omega) (by omega) (hDp q2.1 q2.2 q3)) hX.1 rfl rfl rfl rfl (by decide) (fun z h4 ⟨A', hA, hOA, hFn⟩ => ?_)
    refine x_ireturn dX8_cloneTo_38 rfl ?_
    exact ⟨_, rfl, A', Or.inr (Or.inr ⟨q2, q3, hA⟩), hOA, hG.tr hFn⟩
  · refine x_iload_n dX8_cloneTo_11 rfl ?_
    refine x_ireturn dX8_cloneTo_12 rfl ?_
    rcases hr1 with q | ⟨q2, q3, q | q⟩
    · rw [q.2]
      exact ⟨_, rfl, (t, hs, sp, b, S), Or.inl ⟨q.1, rfl, rfl⟩, hO0.A, Fr.rf⟩
    · rw [q.2]
      exact ⟨_, rfl, (t, hs, sp, b, S), Or.inr (Or.inl ⟨⟨q2, q3⟩, q.1, rfl, rfl⟩), hO0.A, Fr.rf⟩
    · omega
theorem c_X8_move (sz : Nat) {h : AH} {x b c d : Nat} {t : List Int} {hs : List CS} {sp S D : CS} (hO : OuR h x t hs sp b c d S D) (hWf : Wf S) (hLk : LkP S) {r u : Int} (hr : inR r) (hu : inR u) (hDp : plZ S.2.2.2.2 r ≠ -2 → plR S.2.2.2.2 u ≠ -2 → ¬ rfP S (plZ S.2.2.2.2 r) (plR S.2.2.2.2 u) → Dp (kid (lkX S (plZ S.2.2.2.2 r) ++ [((gN S.2.2.2.2 (plR S.2.2.2.2 u)).toNat, (gN S.2.2.2.2 (plZ S.2.2.2.2 r)).toNat)])) 40 0) : CC mX8_move 63 0 0 [.ref x, .int (zI r), .int (zI u)] sz h (QI (fun z h' => ∃ A', SpMove (t, hs, sp, b, S) r u z A' ∧ OuA h' x A' ∧ Fr h h' x (x + 107))) := by
  refine CC.intro [some (.ref x), some (.int (zI r)), some (.int (zI u)), none, none] pfX8_move rfl rfl ?_
  have hO0 := hO
  obtain ⟨hX, hT, hRe, hRo, hHi, hSp, hC, hD, hcd⟩ := id hO
  have hC0 := hC.1
  have hD0 := hD.1
  have hSp0 := hSp.1
  obtain ⟨_, hTs, -, -⟩ := id hT
  obtain ⟨_, _, hRs, -, -⟩ := id hRo
  obtain ⟨_, _, _, hCN, -, -⟩ := id hC.2.1
  obtain ⟨_, _, hCL, -, -⟩ := id hC.2.2.1
  obtain ⟨_, _, _, hCP, -, -⟩ := id hC.2.2.2
  obtain ⟨_, _, _, hDN, -, -⟩ := id hD.2.1
  obtain ⟨_, _, hDL, -, -⟩ := id hD.2.2.1
  obtain ⟨_, _, _, hDP, -, -⟩ := id hD.2.2.2
  obtain ⟨_, _, _, ⟨hHs, -⟩, -⟩ := id hHi
  have hpB := hC.2.2.2.B
  have hpl := hpB.1
  have hnB := hC.2.1.B.1
  have hz := plZ_r S.2.2.2.2 r
  have hz2 := plZ_r S.2.2.2.2 u
  have hz3 : plR S.2.2.2.2 u = -1 ∨ plR S.2.2.2.2 u = plZ S.2.2.2.2 u := by
    unfold plR
    split
    · exact Or.inl rfl
    · exact Or.inr rfl
  have hz4 : -2 ≤ plR S.2.2.2.2 u ∧ plR S.2.2.2.2 u < S.2.2.2.2.length := by omega
  have hno := plR_no S (u := u)
  unfold SpMove
  dsimp only
  refine x_aload_n dX8_move_0 rfl ?_
  refine x_iload_n dX8_move_1 rfl ?_
  refine x_iload_n dX8_move_2 rfl ?_
  refine i_V dX8_move_3 lX8_97 (c_X8_refusalOfParent sz hO0 hr hu) hX.1 rfl rfl rfl rfl (by decide) (fun r1 h0 ⟨hh0, hr1⟩ => ?_)
  subst h0
  have hrr : r1 = -2 ∨ r1 = -5 ∨ r1 = 0 := by rcases hr1 with q | ⟨_, _, q | q⟩ <;> omega
  refine x_istore_n dX8_move_6 rfl rfl rfl ?_
  refine x_iload_n dX8_move_7 rfl ?_
  refine x_if_eq dX8_move_8 ⟨by omega, by omega⟩ (fun qc8q => ?_) (fun qc8q => ?_)
  · have q1 : r1 = 0 ∧ (plZ S.2.2.2.2 r ≠ -2 ∧ plR S.2.2.2.2 u ≠ -2) ∧ ¬ rfP S (plZ S.2.2.2.2 r) (plR S.2.2.2.2 u) := by
      rcases hr1 with q | ⟨q2, q3, q | q⟩
      · omega
      · omega
      · exact ⟨q.2, ⟨q2, q3⟩, q.1⟩
    obtain ⟨rfl, q2, q3⟩ := q1
    have hnn := hno q2.2
    refine x_aload_n dX8_move_13 rfl ?_
    refine x_iload_n dX8_move_14 rfl ?_
    refine p_V dX8_move_15 lX8_100 (c_X8_nodeOfRow sz hO0 hr) hX.1 rfl rfl rfl rfl (by decide) ?_
    refine x_istore dX8_move_18 rfl rfl rfl ?_
    refine x_aload_n dX8_move_20 rfl ?_
    refine s_get dX8_move_21 fX8_51 hX rfl ?_
    refine x_aload_n dX8_move_24 rfl ?_
    refine s_get dX8_move_25 fX8_48 hX rfl ?_
    refine v_V dX8_move_28 lX8_72 (c_X6_copyFrom sz hD hC (by omega)) hD0.1 rfl rfl rfl rfl (by decide) (fun h1 ⟨hDn, hFn⟩ => ?_)
    have hO := hO.dr hDn hFn
    have hG : Fr h h1 x (x + 107) := hFn.wd (by omega) (by omega)
    clear hX hT hRe hRo hHi hSp hC hD hcd hC0 hD0 hSp0 hTs hRs hCN hCL hCP hDN hDL hDP hHs
    obtain ⟨hX, hT, hRe, hRo, hHi, hSp, hC, hD, hcd⟩ := id hO
    have hC0 := hC.1
    have hD0 := hD.1
    have hSp0 := hSp.1
    obtain ⟨_, hTs, -, -⟩ := id hT
    obtain ⟨_, _, hRs, -, -⟩ := id hRo
    obtain ⟨_, _, _, hCN, -, -⟩ := id hC.2.1
    obtain ⟨_, _, hCL, -, -⟩ := id hC.2.2.1
    obtain ⟨_, _, _, hCP, -, -⟩ := id hC.2.2.2
    obtain ⟨_, _, _, hDN, -, -⟩ := id hD.2.1
    obtain ⟨_, _, hDL, -, -⟩ := id hD.2.2.1
    obtain ⟨_, _, _, hDP, -, -⟩ := id hD.2.2.2
    obtain ⟨_, _, _, ⟨hHs, -⟩, -⟩ := id hHi
    refine x_aload_n dX8_move_31 rfl ?_
    refine s_get dX8_move_32 fX8_51 hX rfl ?_
    refine s_get dX8_move_35 fX8_103 hD0 rfl ?_
    refine x_aload_n dX8_move_38 rfl ?_
    refine x_aload_n dX8_move_39 rfl ?_
    refine s_get dX8_move_40 fX8_26 hX rfl ?_
    refine x_iload_n dX8_move_43 rfl ?_
    refine p_V dX8_move_44 lX8_107 (c_X5_placeOf sz hRo hr) hRs.1 rfl rfl rfl rfl (by decide) ?_
    generalize hzz : plZ S.2.2.2.2 r = k at *
    have hg := gN_r hpB k
    have hn := hWf.n hpB (z := k) (by omega) (by omega)
    have hg2 := gN_r hpB (plR S.2.2.2.2 u)
    have hpp : -1 ≤ pPar S.2.2.2.2 k ∧ pPar S.2.2.2.2 k ≤ k := pAt_r _ _ _ (by omega)
    have hg3 := gN_r hpB (pPar S.2.2.2.2 k)
    refine p_V dX8_move_47 lX8_110 (c_X8_parentNodeOf sz hO (z := k) (by omega) (by omega)) hX.1 rfl rfl rfl rfl (by decide) ?_
    obtain ⟨L1, L2, qe1q, qe2q, qe3q⟩ := er_split (hLk k (by omega) (by omega))
    have hDLn := hD.2.2.1
    rw [qe1q] at hDLn
    have qe4q : lkX S k = L1 ++ L2 := qe3q
    rw [qe4q] at hDp ⊢
    rw [show gN S.2.2.2.2 (pPar S.2.2.2.2 k) = (((gN S.2.2.2.2 (pPar S.2.2.2.2 k)).toNat : Nat) : Int) by omega, hn.2.2.1]
    refine x_iload dX8_move_50 rfl ?_
    refine v_V dX8_move_52 lX8_113 (c_X1_drop sz hDLn qe2q) hDL.1 rfl rfl rfl rfl (by decide) (fun h2 ⟨hPn, hFn⟩ => ?_)
    have hO := hO.dL hPn hFn
    have hG : Fr h h2 x (x + 107) := hG.tr (hFn.wd (by omega) (by omega))
    clear hX hT hRe hRo hHi hSp hC hD hcd hC0 hD0 hSp0 hTs hRs hCN hCL hCP hDN hDL hDP hHs
    obtain ⟨hX, hT, hRe, hRo, hHi, hSp, hC, hD, hcd⟩ := id hO
    have hC0 := hC.1
    have hD0 := hD.1
    have hSp0 := hSp.1
    obtain ⟨_, hTs, -, -⟩ := id hT
    obtain ⟨_, _, hRs, -, -⟩ := id hRo
    obtain ⟨_, _, _, hCN, -, -⟩ := id hC.2.1
    obtain ⟨_, _, hCL, -, -⟩ := id hC.2.2.1
    obtain ⟨_, _, _, hCP, -, -⟩ := id hC.2.2.2
    obtain ⟨_, _, _, hDN, -, -⟩ := id hD.2.1
    obtain ⟨_, _, hDL, -, -⟩ := id hD.2.2.1
    obtain ⟨_, _, _, hDP, -, -⟩ := id hD.2.2.2
    obtain ⟨_, _, _, ⟨hHs, -⟩, -⟩ := id hHi
    refine x_aload_n dX8_move_55 rfl ?_
    refine x_iload dX8_move_56 rfl ?_
    refine x_aload_n dX8_move_58 rfl ?_
    refine x_iload_n dX8_move_59 rfl ?_
    refine p_V dX8_move_60 lX8_100 (c_X8_nodeOfRow sz hO hu) hX.1 rfl rfl rfl rfl (by decide) ?_
    rw [← hnn]
    rw [show gN S.2.2.2.2 (plR S.2.2.2.2 u) = (((gN S.2.2.2.2 (plR S.2.2.2.2 u)).toNat : Nat) : Int) by omega]
    refine i_V dX8_move_63 lX8_93 (c_X8_attach sz hO (y := (gN S.2.2.2.2 (plR S.2.2.2.2 u)).toNat) (k := (gN S.2.2.2.2 k).toNat) (by omega) (by omega) (hDp q2.1 q2.2 q3)) hX.1 rfl rfl rfl rfl (by decide) (fun z h4 ⟨A', hA, hOA, hFn⟩ => ?_)
    refine x_ireturn dX8_move_66 rfl ?_
    exact ⟨_, rfl, A', Or.inr (Or.inr ⟨q2, q3, hA⟩), hOA, hG.tr hFn⟩
  · refine x_iload_n dX8_move_11 rfl ?_
    refine x_ireturn dX8_move_12 rfl ?_
    rcases hr1 with q | ⟨q2, q3, q | q⟩
    · rw [q.2]
      exact ⟨_, rfl, (t, hs, sp, b, S), Or.inl ⟨q.1, rfl, rfl⟩, hO0.A, Fr.rf⟩
    · rw [q.2]
      exact ⟨_, rfl, (t, hs, sp, b, S), Or.inr (Or.inl ⟨⟨q2, q3⟩, q.1, rfl, rfl⟩), hO0.A, Fr.rf⟩
    · omega
theorem c_X8_cut (sz : Nat) {h : AH} {x b c d : Nat} {t : List Int} {hs : List CS} {sp S D : CS} (hO : OuR h x t hs sp b c d S D) (hWf : Wf S) (hLk : LkP S) {r : Int} (hr : inR r) (hDp : plZ S.2.2.2.2 r ≠ -2 → Dp (kid (lkX S (plZ S.2.2.2.2 r))) 40 0 ∧ (lyO (lkX S (plZ S.2.2.2.2 r)) S.2.2.2.2).length ≤ 120) : CC mX8_cut 62 0 0 [.ref x, .int (zI r)] sz h (QI (fun z h' => ∃ A', SpCut (t, hs, sp, b, S) r z A' ∧ OuA h' x A' ∧ Fr h h' x (x + 107))) := by
  refine CC.intro [some (.ref x), some (.int (zI r)), none, none] pfX8_cut rfl rfl ?_
  have hO0 := hO
  obtain ⟨hX, hT, hRe, hRo, hHi, hSp, hC, hD, hcd⟩ := id hO
  have hC0 := hC.1
  have hD0 := hD.1
  have hSp0 := hSp.1
  obtain ⟨_, hTs, -, -⟩ := id hT
  obtain ⟨_, _, hRs, -, -⟩ := id hRo
  obtain ⟨_, _, _, hCN, -, -⟩ := id hC.2.1
  obtain ⟨_, _, hCL, -, -⟩ := id hC.2.2.1
  obtain ⟨_, _, _, hCP, -, -⟩ := id hC.2.2.2
  obtain ⟨_, _, _, hDN, -, -⟩ := id hD.2.1
  obtain ⟨_, _, hDL, -, -⟩ := id hD.2.2.1
  obtain ⟨_, _, _, hDP, -, -⟩ := id hD.2.2.2
  obtain ⟨_, _, _, ⟨hHs, -⟩, -⟩ := id hHi
  have hpB := hC.2.2.2.B
  have hpl := hpB.1
  have hz := plZ_r S.2.2.2.2 r
  unfold SpCut
  dsimp only
  generalize hzz : plZ S.2.2.2.2 r = k at *
  refine x_aload_n dX8_cut_0 rfl ?_
  refine s_get dX8_cut_1 fX8_26 hX rfl ?_
  refine x_iload_n dX8_cut_4 rfl ?_
  refine p_V dX8_cut_5 lX8_107 (c_X5_placeOf sz hRo hr) hRs.1 rfl rfl rfl rfl (by decide) ?_
  rw [hzz]
  refine x_istore_n dX8_cut_8 rfl rfl rfl ?_
  refine x_iload_n dX8_cut_9 rfl ?_
  refine x_bipush dX8_cut_10 (by decide) ?_
  refine x_icmp_ne dX8_cut_12 ⟨by omega, by omega⟩ ⟨by omega, by omega⟩ (fun qc12q => ?_) (fun qc12q => ?_)
  · refine x_aload_n dX8_cut_18 rfl ?_
    have hn := hWf.n hpB (z := k) (by omega) (by omega)
    have hg := gN_r hpB k
    have hpp : -1 ≤ pPar S.2.2.2.2 k ∧ pPar S.2.2.2.2 k ≤ k := pAt_r _ _ _ (by omega)
    have hg3 := gN_r hpB (pPar S.2.2.2.2 k)
    obtain ⟨L1, L2, qe1q, qe2q, qe3q⟩ := er_split (hLk k (by omega) (by omega))
    have qe4q : lkX S k = L1 ++ L2 := qe3q
    rw [qe4q] at hDp ⊢
    obtain ⟨hDq, hRoom⟩ := hDp (by omega)
    refine s_get dX8_cut_19 fX8_51 hX rfl ?_
    refine x_aload_n dX8_cut_22 rfl ?_
    refine s_get dX8_cut_23 fX8_48 hX rfl ?_
    refine v_V dX8_cut_26 lX8_72 (c_X6_copyFrom sz hD hC (by omega)) hD0.1 rfl rfl rfl rfl (by decide) (fun h1 ⟨hDn, hFn⟩ => ?_)
    have hO := hO.dr hDn hFn
    have hG : Fr h h1 x (x + 107) := hFn.wd (by omega) (by omega)
    clear hX hT hRe hRo hHi hSp hC hD hcd hC0 hD0 hSp0 hTs hRs hCN hCL hCP hDN hDL hDP hHs
    obtain ⟨hX, hT, hRe, hRo, hHi, hSp, hC, hD, hcd⟩ := id hO
    have hC0 := hC.1
    have hD0 := hD.1
    have hSp0 := hSp.1
    obtain ⟨_, hTs, -, -⟩ := id hT
    obtain ⟨_, _, hRs, -, -⟩ := id hRo
    obtain ⟨_, _, _, hCN, -, -⟩ := id hC.2.1
    obtain ⟨_, _, hCL, -, -⟩ := id hC.2.2.1
    obtain ⟨_, _, _, hCP, -, -⟩ := id hC.2.2.2
    obtain ⟨_, _, _, hDN, -, -⟩ := id hD.2.1
    obtain ⟨_, _, hDL, -, -⟩ := id hD.2.2.1
    obtain ⟨_, _, _, hDP, -, -⟩ := id hD.2.2.2
    obtain ⟨_, _, _, ⟨hHs, -⟩, -⟩ := id hHi
    have hDLn := hD.2.2.1
    rw [qe1q] at hDLn
    refine x_aload_n dX8_cut_29 rfl ?_
    refine s_get dX8_cut_30 fX8_51 hX rfl ?_
    refine s_get dX8_cut_33 fX8_103 hD0 rfl ?_
    refine x_aload_n dX8_cut_36 rfl ?_
    refine x_iload_n dX8_cut_37 rfl ?_
    refine p_V dX8_cut_38 lX8_110 (c_X8_parentNodeOf sz hO (z := k) (by omega) (by omega)) hX.1 rfl rfl rfl rfl (by decide) ?_
    refine x_aload_n dX8_cut_41 rfl ?_
    refine s_get dX8_cut_42 fX8_48 hX rfl ?_
    refine s_get dX8_cut_45 fX8_84 hC0 rfl ?_
    refine x_iload_n dX8_cut_48 rfl ?_
    refine p_V dX8_cut_49 lX8_88 (c_X3_nodeOf sz hC.2.2.2 (z := k) ⟨by omega, by omega⟩) hCP.1 rfl rfl rfl rfl (by decide) ?_
    rw [show gN S.2.2.2.2 (pPar S.2.2.2.2 k) = (((gN S.2.2.2.2 (pPar S.2.2.2.2 k)).toNat : Nat) : Int) by omega, hn.2.2.1]
    refine v_V dX8_cut_52 lX8_113 (c_X1_drop sz hDLn qe2q) hDL.1 rfl rfl rfl rfl (by decide) (fun h2 ⟨hPn, hFn⟩ => ?_)
    have hO := hO.dL hPn hFn
    have hG : Fr h h2 x (x + 107) := hG.tr (hFn.wd (by omega) (by omega))
    clear hX hT hRe hRo hHi hSp hC hD hcd hC0 hD0 hSp0 hTs hRs hCN hCL hCP hDN hDL hDP hHs
    obtain ⟨hX, hT, hRe, hRo, hHi, hSp, hC, hD, hcd⟩ := id hO
    have hC0 := hC.1
    have hD0 := hD.1
    have hSp0 := hSp.1
    obtain ⟨_, hTs, -, -⟩ := id hT
    obtain ⟨_, _, hRs, -, -⟩ := id hRo
    obtain ⟨_, _, _, hCN, -, -⟩ := id hC.2.1
    obtain ⟨_, _, hCL, -, -⟩ := id hC.2.2.1
    obtain ⟨_, _, _, hCP, -, -⟩ := id hC.2.2.2
    obtain ⟨_, _, _, hDN, -, -⟩ := id hD.2.1
    obtain ⟨_, _, hDL, -, -⟩ := id hD.2.2.1
    obtain ⟨_, _, _, hDP, -, -⟩ := id hD.2.2.2
    obtain ⟨_, _, _, ⟨hHs, -⟩, -⟩ := id hHi
    refine x_aload_n dX8_cut_55 rfl ?_
    refine s_get dX8_cut_56 fX8_51 hX rfl ?_
    refine x_aload_n dX8_cut_59 rfl ?_
    refine s_get dX8_cut_60 fX8_48 hX rfl ?_
    refine s_get dX8_cut_63 fX8_84 hC0 rfl ?_
    refine i_V dX8_cut_66 lX8_119 (c_X6_placeAgain sz hD hDq hC.2.2.2 (by omega)) hD0.1 rfl rfl rfl rfl (by decide) (fun r2 h3 hr2 => ?_)
    obtain ⟨hSn, hFn⟩ : StR h3 d (S.1, S.2.1, S.2.2.1, L1 ++ L2, lyO (L1 ++ L2) S.2.2.2.2) ∧ Fr h2 h3 d (d + 12) := by
      rcases hr2 with q | q
      · exact ⟨q.2.2.1, q.2.2.2⟩
      · have h9 := q.1
        unfold lyO at hRoom
        omega
    have hO := hO.dr hSn hFn
    have hG : Fr h h3 x (x + 107) := hG.tr (hFn.wd (by omega) (by omega))
    clear hX hT hRe hRo hHi hSp hC hD hcd hC0 hD0 hSp0 hTs hRs hCN hCL hCP hDN hDL hDP hHs
    obtain ⟨hX, hT, hRe, hRo, hHi, hSp, hC, hD, hcd⟩ := id hO
    have hC0 := hC.1
    have hD0 := hD.1
    have hSp0 := hSp.1
    obtain ⟨_, hTs, -, -⟩ := id hT
    obtain ⟨_, _, hRs, -, -⟩ := id hRo
    obtain ⟨_, _, _, hCN, -, -⟩ := id hC.2.1
    obtain ⟨_, _, hCL, -, -⟩ := id hC.2.2.1
    obtain ⟨_, _, _, hCP, -, -⟩ := id hC.2.2.2
    obtain ⟨_, _, _, hDN, -, -⟩ := id hD.2.1
    obtain ⟨_, _, hDL, -, -⟩ := id hD.2.2.1
    obtain ⟨_, _, _, hDP, -, -⟩ := id hD.2.2.2
    obtain ⟨_, _, _, ⟨hHs, -⟩, -⟩ := id hHi
    refine x_pop dX8_cut_69 rfl ?_
    refine x_aload_n dX8_cut_70 rfl ?_
    refine s_get dX8_cut_71 fX8_51 hX rfl ?_
    refine x_aload_n dX8_cut_74 rfl ?_
    refine s_get dX8_cut_75 fX8_48 hX rfl ?_
    refine s_get dX8_cut_78 fX8_84 hC0 rfl ?_
    refine l_V dX8_cut_81 lX8_123 (c_X3_nodeSet sz hC.2.2.2) hCP.1 rfl rfl rfl rfl (by decide) ?_
    refine i_V dX8_cut_84 lX8_127 (c_X6_dropVanished sz hD (bl := pWit S.2.2.2.2 (-1)) (nds_40 hpB _ _)) hD0.1 rfl rfl rfl rfl (by decide) (fun v h4 ⟨hv, hSn, hFn⟩ => ?_)
    have hO := hO.dr hSn hFn
    have hG : Fr h h4 x (x + 107) := hG.tr (hFn.wd (by omega) (by omega))
    clear hX hT hRe hRo hHi hSp hC hD hcd hC0 hD0 hSp0 hTs hRs hCN hCL hCP hDN hDL hDP hHs
    obtain ⟨hX, hT, hRe, hRo, hHi, hSp, hC, hD, hcd⟩ := id hO
    have hC0 := hC.1
    have hD0 := hD.1
    have hSp0 := hSp.1
    obtain ⟨_, hTs, -, -⟩ := id hT
    obtain ⟨_, _, hRs, -, -⟩ := id hRo
    obtain ⟨_, _, _, hCN, -, -⟩ := id hC.2.1
    obtain ⟨_, _, hCL, -, -⟩ := id hC.2.2.1
    obtain ⟨_, _, _, hCP, -, -⟩ := id hC.2.2.2
    obtain ⟨_, _, _, hDN, -, -⟩ := id hD.2.1
    obtain ⟨_, _, hDL, -, -⟩ := id hD.2.2.1
    obtain ⟨_, _, _, hDP, -, -⟩ := id hD.2.2.2
    obtain ⟨_, _, _, ⟨hHs, -⟩, -⟩ := id hHi
    refine x_istore_n dX8_cut_87 rfl rfl rfl ?_
    refine x_aload_n dX8_cut_88 rfl ?_
    refine v_V dX8_cut_89 lX8_131 (c_X8_accept sz hO) hX.1 rfl rfl rfl rfl (by decide) (fun h5 ⟨hO, hFn⟩ => ?_)
    have hG : Fr h h5 x (x + 107) := hG.tr hFn
    clear hX hT hRe hRo hHi hSp hC hD hcd hC0 hD0 hSp0 hTs hRs hCN hCL hCP hDN hDL hDP hHs
    obtain ⟨hX, hT, hRe, hRo, hHi, hSp, hC, hD, hcd⟩ := id hO
    have hC0 := hC.1
    have hD0 := hD.1
    have hSp0 := hSp.1
    obtain ⟨_, hTs, -, -⟩ := id hT
    obtain ⟨_, _, hRs, -, -⟩ := id hRo
    obtain ⟨_, _, _, hCN, -, -⟩ := id hC.2.1
    obtain ⟨_, _, hCL, -, -⟩ := id hC.2.2.1
    obtain ⟨_, _, _, hCP, -, -⟩ := id hC.2.2.2
    obtain ⟨_, _, _, hDN, -, -⟩ := id hD.2.1
    obtain ⟨_, _, hDL, -, -⟩ := id hD.2.2.1
    obtain ⟨_, _, _, hDP, -, -⟩ := id hD.2.2.2
    obtain ⟨_, _, _, ⟨hHs, -⟩, -⟩ := id hHi
    refine x_iload_n dX8_cut_92 rfl ?_
    refine x_ireturn dX8_cut_93 rfl ?_
    exact ⟨_, rfl, Done (t, hs, sp, b, S) (S.1, S.2.1, S.2.2.1, (L1 ++ L2).filter (fun e => decide (e.1 ∈ pWit (lyO (L1 ++ L2) S.2.2.2.2) (-1) ++ [0])), lyO (L1 ++ L2) S.2.2.2.2), Or.inr ⟨by omega, hv, rfl⟩, hO.A, hG⟩
  · refine x_bipush dX8_cut_15 (by decide) ?_
    refine x_ireturn dX8_cut_17 rfl ?_
    exact ⟨_, rfl, (t, hs, sp, b, S), Or.inl ⟨by omega, rfl, rfl⟩, hO0.A, Fr.rf⟩
