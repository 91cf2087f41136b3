theorem MoC.eq4 {w w' : Nat → Nat → Int} {u : Nat → Int} {A : AS} (h : MoC w u A) (qe0q : w' 0 = w 0) (qe1q : w' 1 = w 1) (qe2q : w' 2 = w 2) (qe10q : w' 10 = w 10) : MoC w' u A := by
  unfold MoC TxR at *
  rw [qe0q, qe1q, qe2q, qe10q]
  exact h
/-- whether a node vanishes -/
def vd (pl : List PE) (Q : List Nat) (x : Nat) : Bool := decide (alv pl x ∧ x ∉ Q)
theorem va_cnt {S : CS} (hI : InvS S) {q : List PE} {Q : List Nat} (hQ : ∀ y, y ≠ 0 → (y ∈ pWit q (-1) ↔ y ∈ Q)) : vaN S.2.2.2.2 q = cZ (fun k => vd S.2.2.2.2 Q (k + 1)) S.1 := by
  have h4 := hI.1.1
  have hm : ∀ k, k ∈ (pWit S.2.2.2.2 (-1)).filter (fun x => decide (x ∉ pWit q (-1))) ↔ (k ≠ 0 ∧ Rc (kid S.2.2.2.1) 0 k) ∧ k ∉ pWit q (-1) := fun k => by
    rw [List.mem_filter, hI.wall k, decide_eq_true_iff]
  unfold vaN cZ
  rw [Int.toNat_natCast]
  congr 1
  have h5 := cB_cut' (p := fun k => decide (k ∈ (pWit S.2.2.2.2 (-1)).filter (fun x => decide (x ∉ pWit q (-1))))) (n := S.1 + 1) (k := 48) (fun k hk => decide_eq_false (fun z => by
    have := hI.1.rcd (Nat.zero_le _) ((hm k).mp z).1.2
    omega)) (by omega)
  have h6 := cB_sh (fun k => decide (k ∈ (pWit S.2.2.2.2 (-1)).filter (fun x => decide (x ∉ pWit q (-1))))) S.1
  rw [if_neg (fun z => ((hm 0).mp (of_decide_eq_true z)).1.1 rfl)] at h6
  rw [h5, h6, Nat.zero_add]
  refine cB_cong (fun k _ => ?_)
  unfold vd
  refine decide_eq_decide.mpr ?_
  rw [hm, hI.al, hQ (k + 1) (by omega)]
  exact ⟨fun a => ⟨a.1.2, a.2⟩, fun a => ⟨⟨by omega, a.1⟩, a.2⟩⟩
/-- the rows behind a cut, up to the node y -/
def CtI (r r5 : Nat → Int) (d : Nat) (pl : List PE) (Q : List Nat) (y : Int) : Prop := (∀ i, (∀ x, 1 ≤ x → x ≤ d → i ≠ 2 + 52 * x ∧ i ≠ 2 + 52 * x + 11) → r i = r5 i) ∧ ∀ x : Nat, 1 ≤ x → x ≤ d → r (2 + 52 * x) = (if (x : Int) < y ∧ vd pl Q x = true then 0 else r5 (2 + 52 * x)) ∧ r (2 + 52 * x + 11) = (if (x : Int) < y ∧ vd pl Q x = true then 0 else r5 (2 + 52 * x + 11))
theorem CtI.hit {r r5 : Nat → Int} {d : Nat} {pl : List PE} {Q : List Nat} {y : Int} (h : CtI r r5 d pl Q y) (h1 : 1 ≤ y) (h2 : y ≤ d) (hv : vd pl Q y.toNat = true) {i j : Nat} (qe1q : i = 2 + 52 * y.toNat) (qe2q : j = 2 + 52 * y.toNat + 11) : CtI (zU (zU r i 0) j 0) r5 d pl Q (y + 1) := by
  refine ⟨fun k hk => ?_, fun x hx1 hx2 => ?_⟩
  · have h3 := hk y.toNat (by omega) (by omega)
    rw [zU_n (by omega), zU_n (by omega)]
    exact h.1 k hk
  · by_cases q : x = y.toNat
    · subst q
      rw [if_pos ⟨by omega, hv⟩, if_pos ⟨by omega, hv⟩, zU_n (by omega), ← qe1q, zU_s, ← qe2q.symm.trans qe2q, ← qe1q] at *
      constructor
      · rfl
      · rw [qe1q, ← qe2q, zU_s]
    · have h3 := h.2 x hx1 hx2
      rw [zU_n (by omega), zU_n (by omega), zU_n (by omega), zU_n (by omega), h3.1, h3.2]
      have e : ((x : Int) < y + 1 ∧ vd pl Q x = true) ↔ ((x : Int) < y ∧ vd pl Q x = true) := ⟨fun a => ⟨by omega, a.2⟩, fun a => ⟨by omega, a.2⟩⟩
      simp only [e]
      exact ⟨trivial, trivial⟩
theorem CtI.skip {r r5 : Nat → Int} {d : Nat} {pl : List PE} {Q : List Nat} {y : Int} (h : CtI r r5 d pl Q y) (h1 : 1 ≤ y) (hv : vd pl Q y.toNat = false) : CtI r r5 d pl Q (y + 1) := by
  refine ⟨h.1, fun x hx1 hx2 => ?_⟩
  have h3 := h.2 x hx1 hx2
  rw [h3.1, h3.2]
  have e : ((x : Int) < y + 1 ∧ vd pl Q x = true) ↔ ((x : Int) < y ∧ vd pl Q x = true) := by
    constructor
    · rintro ⟨a, b⟩
      refine ⟨?_, b⟩
      by_cases q : x = y.toNat
      · rw [q, hv] at b
        cases b
      · omega
    · exact fun a => ⟨by omega, a.2⟩
  simp only [e]
  exact ⟨trivial, trivial⟩
theorem CtI.fin {r r5 : Nat → Int} {S : CS} {M M' : List LK} {q : List PE} {Q : List Nat} (hI : InvS S) (hI' : InvS (S.1, S.2.1, S.2.2.1, M', q)) (hN : NoB S.1 S.2.1 S.2.2.1) (h : CtI r r5 S.1 S.2.2.2.2 Q ((S.1 : Int) + 1)) (hQ : ∀ b, b ∈ Q ↔ Rc (kid M) 0 b) (hs : ∀ u y, y ∈ kid M u → y ∈ kid S.2.2.2.1 u) (hw : ∀ y, y ∈ pWit q (-1) ↔ (y ≠ 0 ∧ Rc (kid M) 0 y)) (hk : ∀ u, kid M' u = if u ∈ pWit q (-1) ++ [0] then kid M u else []) (h5 : RmS r5 S) (hK : RmK r5 S.1 (kid M)) (hP : RmP r5 q) : RmR r (S.1, S.2.1, S.2.2.1, M', q) := by
  obtain ⟨g0, g2, g4⟩ := h5
  have hd := hI.1.1
  have hal : ∀ x, alv q x ↔ x ∈ Q := fun x => by
    have qe1q := hI'.al x
    have qe2q := hI'.wall x
    dsimp only at qe1q qe2q
    rw [qe1q, hQ x]
    by_cases z : x = 0
    · rw [z]
      exact ⟨fun _ => Rc.rf _ _, fun _ => Rc.rf _ _⟩
    · rw [hw x] at qe2q
      exact ⟨fun a => (qe2q.mpr ⟨z, a⟩).2, fun a => (qe2q.mp ⟨z, a⟩).2⟩
  have hin : ∀ u, u ∈ pWit q (-1) ++ [0] ↔ u ∈ Q := fun u => by
    rw [List.mem_append, hw u, List.mem_singleton, hQ u]
    constructor
    · rintro (a | a)
      · exact a.2
      · rw [a]
        exact Rc.rf _ _
    · intro a
      by_cases hu : u = 0
      · exact Or.inr hu
      · exact Or.inl ⟨hu, a⟩
  have hQS : ∀ x, x ∈ Q → alv S.2.2.2.2 x := fun x a => (hI.al x).mpr (Rc.sub hs ((hQ x).mp a))
  have h0 : ∀ i, (∀ x, i ≠ 2 + 52 * x ∧ i ≠ 2 + 52 * x + 11) → r i = r5 i := fun i a => h.1 i (fun x _ _ => a x)
  have hkm : ∀ x, ¬ alv S.2.2.2.2 x → kid M x = [] := fun x a => by
    cases e : kid M x with
    | nil => rfl
    | cons y l =>
      exact absurd ((hI.al x).mpr (hI.1.2.2.2 x y (hs x y (by rw [e]; exact List.mem_cons_self))).2) a
  refine ⟨(h0 0 (fun x => by omega)).trans g0, ⟨(h0 1 (fun x => by omega)).trans hP.1, fun k hk => ?_⟩, fun x hx => ?_, fun x hx => ?_, fun x hx1 hx => ?_⟩
  · have qe1q := hP.2 k hk
    refine ⟨(h.1 _ (fun x h1 h2 => by omega)).trans qe1q.1, (h.1 _ (fun x h1 h2 => by omega)).trans qe1q.2.1, (h.1 _ (fun x h1 h2 => by omega)).trans qe1q.2.2⟩
  · dsimp only at hx ⊢
    have qe1q := g2 x hx
    by_cases z : x = 0
    · subst z
      rw [h.1 _ (fun x h1 h2 => by omega), qe1q, if_pos (Or.inl rfl), if_pos (Or.inl rfl)]
    · have qe2q := (h.2 x (by omega) hx).1
      rw [qe2q, qe1q]
      by_cases qc1q : x ∈ Q
      · rw [if_neg (fun a => (of_decide_eq_true a.2).2 qc1q), if_pos (hQS x qc1q), if_pos ((hal x).mpr qc1q)]
      · rw [if_neg (fun a => qc1q ((hal x).mp a))]
        by_cases qc2q : alv S.2.2.2.2 x
        · rw [if_pos ⟨by omega, decide_eq_true ⟨qc2q, qc1q⟩⟩]
        · rw [if_neg qc2q, ite_self]
  · dsimp only at hx ⊢
    have qe1q := hK x hx
    have hkl := (hI.1.kb.2 x hx).1
    have qe3q : ∀ j, r (2 + 52 * x + (12 + j)) = r5 (2 + 52 * x + (12 + j)) ∨ 40 ≤ j := fun j => by
      by_cases q : 40 ≤ j
      · exact Or.inr q
      · exact Or.inl (h0 _ (fun x' => by omega))
    rw [hk x]
    by_cases qc1q : x ∈ Q
    · rw [if_pos ((hin x).mpr qc1q)]
      refine ⟨?_, fun j hj => ?_⟩
      · by_cases z : x = 0
        · subst z
          exact (h.1 _ (fun x h1 h2 => by omega)).trans qe1q.1
        · rw [(h.2 x (by omega) hx).2, if_neg (fun a => (of_decide_eq_true a.2).2 qc1q)]
          exact qe1q.1
      · have hj2 : j < 40 := by
          have h9 := (hI'.1.kb.2 x hx).1
          dsimp only at h9
          rw [hk x, if_pos ((hin x).mpr qc1q)] at h9
          omega
        rcases qe3q j with a | a
        · rw [a]
          exact qe1q.2 j hj
        · omega
    · rw [if_neg (fun a => qc1q ((hin x).mp a))]
      refine ⟨?_, fun j hj => by simp at hj⟩
      have z : x ≠ 0 := fun a => qc1q ((hQ x).mpr (by rw [a]; exact Rc.rf _ _))
      rw [(h.2 x (by omega) hx).2]
      by_cases qc2q : alv S.2.2.2.2 x
      · rw [if_pos ⟨by omega, decide_eq_true ⟨qc2q, qc1q⟩⟩]
        rfl
      · rw [if_neg (fun a => qc2q (of_decide_eq_true a.2).1), qe1q.1, hkm x qc2q]
  · have hl := (hN.2 x hx1 hx).1
    exact ⟨(h0 _ (fun y => by omega)).trans (g4 x hx1 hx).1, fun j hj => (h0 _ (fun y => by dsimp only at hj; omega)).trans ((g4 x hx1 hx).2.1 j hj), (h0 _ (fun y => by omega)).trans (g4 x hx1 hx).2.2⟩
theorem c_X9_cut (sz : Nat) {h : AH} {m : Nat} {A : AS} (hMo : MoR h m A) (hIn : In2 A) (hIv : InvS A.2.2.2.2) (hSB : StB A.2.2.2.2) {r z : Int} (hr : inR r) {A' : AS} (hSp : SpCut A r z A') : CC mX9_cut 3 0 0 [.ref m, .int (zI r)] sz h (QI (fun z' h' => z' = z ∧ MoR h' m A' ∧ Fr h h' m (m + 17))) := by
  refine CC.intro [some (.ref m), some (.int (zI r)), none, none, none, none, none] pfX9_cut rfl rfl ?_
  obtain ⟨w, u, hM, hC⟩ := hMo
  have hM0 := hM
  unfold MoW at hM
  have hC0 := hC
  have hIn0 := hIn
  obtain ⟨k1, k2, k3, k4, k5, k6⟩ := hC
  obtain ⟨i1, i2, i3, i4, i5, i6⟩ := hIn
  have hB := i4.1
  have hL := hB.1
  have hKB := i4.2.2.1
  have hd40 := hKB.1
  have hLv := hIv.wf.1
  unfold SpCut at hSp
  dsimp only at hSp
  have hy9 := plM_z A.2.2.2.2.2.2.2.2 r
  have hyr := plZ_r A.2.2.2.2.2.2.2.2 r
  refine x_aload_n dX9_cut_0 rfl ?_
  refine x_iload_n dX9_cut_1 rfl ?_
  refine p_V dX9_cut_2 lX9_88 (c_X9_placeOf sz hM0 k1.2.1 hB hr) hM.1 rfl rfl rfl rfl (by decide) ?_
  refine x_istore_n dX9_cut_5 rfl rfl rfl ?_
  refine x_iload_n dX9_cut_6 rfl ?_
  refine x_bipush dX9_cut_7 (by decide) ?_
  refine x_icmp_ne dX9_cut_9 ⟨by omega, by omega⟩ ⟨by omega, by omega⟩ (fun qc9q => ?_) (fun qc9q => ?_)
  · obtain ⟨hkr, hk0, hk1, hks⟩ : plM A.2.2.2.2.2.2.2.2 r = plZ A.2.2.2.2.2.2.2.2 r ∧ 0 ≤ plZ A.2.2.2.2.2.2.2.2 r ∧ plZ A.2.2.2.2.2.2.2.2 r < A.2.2.2.2.2.2.2.2.length ∧ sn A.2.2.2.2.2.2.2.2 (plZ A.2.2.2.2.2.2.2.2 r).toNat = true := by
      rcases hy9 with q | q
      · omega
      · exact q
    have hkz : plZ A.2.2.2.2.2.2.2.2 r ≠ -2 := by omega
    obtain ⟨x1, x2, x3, x4, x5⟩ := hIv.nd hk0 hk1
    have hat := k1.2.1.at hk0 hk1
    have hkx := kd_x hIv hB hk0 hk1
    have hmx := kid_mem.mpr (hIv.lk hB _ hk0 hk1)
    have hfx : gN A.2.2.2.2.2.2.2.2 (pPar A.2.2.2.2.2.2.2.2 (plZ A.2.2.2.2.2.2.2.2 r)) = (((gN A.2.2.2.2.2.2.2.2 (pPar A.2.2.2.2.2.2.2.2 (plZ A.2.2.2.2.2.2.2.2 r))).toNat : Nat) : Int) := by have := gN_r hB (pPar A.2.2.2.2.2.2.2.2 (plZ A.2.2.2.2.2.2.2.2 r)); omega
    have hfd := (hIv.1.2.2.2 _ _ hmx).1.1
    obtain ⟨ct1, ct2, ct3, ct4⟩ := kd_ct hIv hB hk0 hk1
    generalize hkk : plZ A.2.2.2.2.2.2.2.2 r = k at *
    obtain ⟨q2, q3⟩ : z = vaN A.2.2.2.2.2.2.2.2 (lyO (lkX A.2.2.2.2 k) A.2.2.2.2.2.2.2.2) ∧ A' = Done A (A.2.2.2.2.1, A.2.2.2.2.2.1, A.2.2.2.2.2.2.1, ((lkX A.2.2.2.2 k).filter (fun q => decide (q.1 ∈ pWit (lyO (lkX A.2.2.2.2 k) A.2.2.2.2.2.2.2.2) (-1) ++ [0]))), (lyO (lkX A.2.2.2.2 k) A.2.2.2.2.2.2.2.2)) := by
      rcases hSp with q | q
      · exact absurd q.1 hkz
      · exact q.2
    have hI2 : InvS (A.2.2.2.2.1, A.2.2.2.2.2.1, A.2.2.2.2.2.2.1, ((lkX A.2.2.2.2 k).filter (fun q => decide (q.1 ∈ pWit (lyO (lkX A.2.2.2.2 k) A.2.2.2.2.2.2.2.2) (-1) ++ [0]))), (lyO (lkX A.2.2.2.2 k) A.2.2.2.2.2.2.2.2)) := ct4 _ _
    generalize hxx : (gN A.2.2.2.2.2.2.2.2 k).toNat = x at *
    generalize hff : (gN A.2.2.2.2.2.2.2.2 (pPar A.2.2.2.2.2.2.2.2 k)).toNat = f at *
    rw [hkr]
    refine x_aload_n dX9_cut_15 rfl ?_
    refine v_V dX9_cut_16 lX9_105 (c_X9_takeSpare sz hM0) hM.1 rfl rfl rfl rfl (by decide) (fun h2 ⟨ga, hga, hM2, hF2⟩ => ?_)
    have hGa := k1.c1 i4 hga
    refine x_aload_n dX9_cut_19 rfl ?_
    refine x_iload_n dX9_cut_20 rfl ?_
    refine p_V dX9_cut_21 lX9_142 (c_X9_parent sz hM2 k1.2.1 hB hLv hk0 hk1) hM2.1 rfl rfl rfl rfl (by decide) ?_
    rw [hfx]
    obtain ⟨j, j1, j2, j3⟩ := er_lfi hmx
    refine x_istore_n dX9_cut_24 rfl rfl rfl ?_
    refine x_aload_n dX9_cut_25 rfl ?_
    refine x_iload_n dX9_cut_26 rfl ?_
    refine x_aload_n dX9_cut_27 rfl ?_
    refine x_iload_n dX9_cut_28 rfl ?_
    refine x_aload_n dX9_cut_29 rfl ?_
    refine x_iload_n dX9_cut_30 rfl ?_
    refine x_iconst dX9_cut_31 ?_
    refine p_V dX9_cut_32 lX9_77 (c_X9_at sz hM2 (x := k) (v := 0) (by omega)) hM2.1 rfl rfl rfl rfl (by decide) ?_
    rw [show fU w 3 ga 0 (2134 + 3 * k + 0).toNat = (x : Int) from hat.1.trans (by rw [← x5])]
    refine p_V dX9_cut_35 lX9_132 (c_X9_position sz hM2 k1.2.2.2.1 hKB (x := f) (y := x) hfd (by omega)) hM2.1 rfl rfl rfl rfl (by decide) ?_
    rw [show poM (kid A.2.2.2.2.2.2.2.1 f) x = (j : Int) by unfold poM; rw [j1, if_neg (by omega)]]
    refine v_V dX9_cut_38 lX9_145 (c_X9_takeKid sz hM2 k1.2.2.2.1 hKB (p := f) (k := j) hfd j2) hM2.1 rfl rfl rfl rfl (by decide) (fun h3 ⟨r3, hs3, hK3, hM3, hF3⟩ => ?_)
    rw [j3, ← hkx] at hK3
    have hsb : ∀ u, (kid (lkX A.2.2.2.2 k) u).Sublist (kid A.2.2.2.2.2.2.2.1 u) := fun u => by
      rw [hkx]
      exact er_sub _ _ _ u
    have hs1 : ∀ u y, y ∈ kid (lkX A.2.2.2.2 k) u → y ∈ kid A.2.2.2.2.2.2.2.1 u := fun u y a => (hsb u).subset a
    have hKB1 : KB A.2.2.2.2.1 (kid (lkX A.2.2.2.2 k)) := hKB.sub hsb
    have hs30 := k1.s.kids i4.2.1 hs3
    refine x_aload_n dX9_cut_41 rfl ?_
    refine i_V dX9_cut_42 lX9_119 (c_X9_layPlaces sz hM3 hK3 hKB1 hGa.2.1 hB ct1) hM3.1 rfl rfl rfl rfl (by decide) (fun z1 h6 ⟨r5, nx, wy, ol, ⟨hcs, hsame⟩, hM6, hF6⟩ => ?_)
    have hRP : RmP r5 (lyO (lkX A.2.2.2.2 k) A.2.2.2.2.2.2.2.2) := by
      have hcs2 : ((lyO (lkX A.2.2.2.2 k) A.2.2.2.2.2.2.2.2).length ≤ 120 ∧ z1 = 1 ∧ RmP r5 (lyO (lkX A.2.2.2.2 k) A.2.2.2.2.2.2.2.2)) ∨ (120 < (lyO (lkX A.2.2.2.2 k) A.2.2.2.2.2.2.2.2).length ∧ z1 = 0) := hcs
      rcases hcs2 with q | q
      · exact q.2.2
      · omega
    have hS5 : RmS r5 A.2.2.2.2 := ⟨(hsame 0 (by omega) (by omega)).trans hs30.1, fun x hx => (hsame _ (by omega) (by omega)).trans (hs30.2.1 x hx), fun x hx1 hx => by
      have hl := (i4.2.1.2 x hx1 hx).1
      exact ⟨(hsame _ (by omega) (by omega)).trans (hs30.2.2 x hx1 hx).1, fun j hj => (hsame _ (by omega) (by omega)).trans ((hs30.2.2 x hx1 hx).2.1 j hj), (hsame _ (by omega) (by omega)).trans (hs30.2.2 x hx1 hx).2.2⟩⟩
    have hK5 : RmK r5 A.2.2.2.2.1 (kid (lkX A.2.2.2.2 k)) := hK3.same hKB1 (fun x i hx h1 h2 => hsame _ (by omega) (by omega))
    refine x_istore dX9_cut_45 rfl rfl rfl ?_
    refine x_aload_n dX9_cut_47 rfl ?_
    refine v_V dX9_cut_48 lX9_126 (c_X9_record sz hM6 (n := A.2.1.length) k3 i2) hM6.1 rfl rfl rfl rfl (by decide) (fun h8 ⟨g, n1, hn1, hg1, hg2, hM8, hF8⟩ => ?_)
    refine x_aload_n dX9_cut_51 rfl ?_
    refine x_iconst dX9_cut_52 ?_
    refine i_V dX9_cut_53 lX9_129 (c_X9_layWithin sz hM8 hK5 hKB1 (x := 0) (by omega)) hM8.1 rfl rfl rfl rfl (by decide) (fun z9 h9 ⟨iw, qu, Q, hQ, hQd, hiw, hz9, hM9, hF9⟩ => ?_)
    have hG9 := (((hF2.tr hF3).tr hF6).tr hF8).tr hF9
    refine x_pop dX9_cut_56 rfl ?_
    refine x_iconst dX9_cut_57 ?_
    refine x_istore dX9_cut_58 rfl rfl rfl ?_
    refine x_iconst dX9_cut_60 ?_
    refine x_istore dX9_cut_61 rfl rfl rfl ?_
    refine x_loop (fun s : AH × (Nat → Int) × Int × Int => s.1) (fun s => [some (.ref m), some (.int (zI r)), some (.int (zI k)), some (.int (zI (f : Int))), some (.int (zI z1)), some (.int (zI s.2.2.1)), some (.int (zI s.2.2.2))]) (fun s => 1 ≤ s.2.2.2 ∧ s.2.2.2 ≤ (A.2.2.2.2.1 : Int) + 1 ∧ CtI s.2.1 r5 A.2.2.2.2.1 A.2.2.2.2.2.2.2.2 Q s.2.2.2 ∧ s.2.2.1 = cZ (fun k => vd A.2.2.2.2.2.2.2.2 Q (k + 1)) (s.2.2.2 - 1) ∧ MoW s.1 m (fU (fU (fU (fU (lyW (fU (fU w 3 ga) 0 r3) r5 nx wy ol) 1 g) 8 iw) 9 qu) 0 s.2.1) (fU u 0 ((n1 : Int) + 1)) ∧ Fr h s.1 m (m + 17)) (fun s => ((A.2.2.2.2.1 : Int) + 1 - s.2.2.2).toNat) (h9, r5, 0, 1) rfl rfl ⟨by dsimp only; omega, by dsimp only; omega, ⟨fun i _ => rfl, fun x x1 x2 => ⟨by rw [if_neg (fun a => by have := a.1; dsimp only at this; omega)], by rw [if_neg (fun a => by have := a.1; dsimp only at this; omega)]⟩⟩, rfl, hM9, hG9⟩ ?_
    clear hM hM0 hM9
    rintro ⟨h10, r6, n, y⟩ ⟨hy0, hy1, hCt, hn, hM, hG⟩ ihq
    try dsimp only at *
    have hM10 := hM
    unfold MoW at hM
    have hr60 : r6 (0 : Int).toNat = (A.2.2.2.2.1 : Int) := (hCt.1 0 (fun x _ _ => by omega)).trans hS5.1
    have hny := cZ_r (fun k => vd A.2.2.2.2.2.2.2.2 Q (k + 1)) (i := y - 1) (by omega)
    have hpre : y ≤ A.2.2.2.2.1 → r6 (2 + 52 * y + 0).toNat = (if alv A.2.2.2.2.2.2.2.2 y.toNat then 1 else 0) ∧ iw y.toNat = (if y.toNat ∈ Q then 1 else 0) := by
      intro hyd
      refine ⟨?_, hiw y.toNat (by omega)⟩
      have qe1q := (hCt.2 y.toNat (by omega) (by omega)).1
      rw [if_neg (fun a => by have := a.1; omega), hS5.2.1 y.toNat (by omega)] at qe1q
      rw [show (2 + 52 * y + 0).toNat = 2 + 52 * y.toNat by omega]
      exact qe1q
    have hskip : y ≤ A.2.2.2.2.1 → vd A.2.2.2.2.2.2.2.2 Q y.toNat = false → XM mX9_cut 3 0 0 (QI (fun z' h' => z' = z ∧ MoR h' m A' ∧ Fr h h' m (m + 17))) 0 0 sz h10 63 [some (.ref m), some (.int (zI r)), some (.int (zI k)), some (.int (zI (f : Int))), some (.int (zI z1)), some (.int (zI n)), some (.int (zI (y + 1)))] [] := by
      intro hyd hv
      refine ihq (h10, r6, n, y + 1) ⟨by dsimp only; omega, by dsimp only; omega, hCt.skip hy0 hv, ?_, hM10, hG⟩ (by dsimp only; omega)
      dsimp only
      have qe1q := cZ_f (p := fun k => vd A.2.2.2.2.2.2.2.2 Q (k + 1)) (i := y - 1) (by omega) (by rw [show (y - 1).toNat + 1 = y.toNat by omega]; exact hv)
      rw [hn, show y + 1 - 1 = y - 1 + 1 by omega, qe1q]
    have hhit : ∀ h12, y ≤ A.2.2.2.2.1 → vd A.2.2.2.2.2.2.2.2 Q y.toNat = true → MoW h12 m (fU (fU (fU (fU (lyW (fU (fU w 3 ga) 0 r3) r5 nx wy ol) 1 g) 8 iw) 9 qu) 0 (zU (zU r6 (2 + 52 * y + 0).toNat 0) (2 + 52 * y + 11).toNat 0)) (fU u 0 ((n1 : Int) + 1)) → Fr h10 h12 m (m + 17) → XM mX9_cut 3 0 0 (QI (fun z' h' => z' = z ∧ MoR h' m A' ∧ Fr h h' m (m + 17))) 0 0 sz h12 63 [some (.ref m), some (.int (zI r)), some (.int (zI k)), some (.int (zI (f : Int))), some (.int (zI z1)), some (.int (zI (n + 1))), some (.int (zI (y + 1)))] [] := by
      intro h12 hyd hv hM12 hF12
      refine ihq (h12, _, n + 1, y + 1) ⟨by dsimp only; omega, by dsimp only; omega, hCt.hit hy0 hyd hv (by omega) (by omega), ?_, hM12, hG.tr hF12⟩ (by dsimp only; omega)
      dsimp only
      have qe1q := cZ_t (p := fun k => vd A.2.2.2.2.2.2.2.2 Q (k + 1)) (i := y - 1) (by omega) (by rw [show (y - 1).toNat + 1 = y.toNat by omega]; exact hv)
      rw [hn, show y + 1 - 1 = y - 1 + 1 by omega, qe1q]
    refine x_iload dX9_cut_63 rfl ?_
    refine x_aload_n dX9_cut_65 rfl ?_
    refine s_get dX9_cut_66 fX9_7 hM rfl ?_
    refine x_iconst dX9_cut_69 ?_
    refine s_iald dX9_cut_70 hM rfl rfl ⟨by omega, by omega⟩ ?_
    rw [show fU (fU (fU (fU (lyW (fU (fU w 3 ga) 0 r3) r5 nx wy ol) 1 g) 8 iw) 9 qu) 0 r6 0 (0 : Int).toNat = (A.2.2.2.2.1 : Int) from hr60]
    refine x_icmp_gt dX9_cut_71 ⟨by omega, by omega⟩ ⟨by omega, by omega⟩ (fun qc71q => ?_) (fun qc71q => ?_)
    · refine x_iload dX9_cut_121 rfl ?_
      refine x_ireturn dX9_cut_123 rfl ?_
      have hyd : y - 1 = (A.2.2.2.2.1 : Int) := by omega
      rw [show y = (A.2.2.2.2.1 : Int) + 1 by omega] at hCt
      rw [q2, q3]
      refine ⟨_, rfl, ?_, ⟨_, _, hM10, MoC.eq4 (MoC.done (w1 := fU (lyW (fU (fU w 3 ga) 0 r3) r5 nx wy ol) 0 r6) hC0 hIn0 hn1 hg1 (fun i hi => (hg2 i hi).trans (hga i hi)) (hCt.fin (S := A.2.2.2.2) (M := (lkX A.2.2.2.2 k)) hIv hI2 i4.2.1 hQ hs1 ct3 (fun u => kid_flt _ u _) hS5 hK5 hRP) rfl rfl) rfl rfl rfl rfl⟩, hG⟩
      rw [hn, hyd, va_cnt hIv (q := (lyO (lkX A.2.2.2.2 k) A.2.2.2.2.2.2.2.2)) (Q := Q) (fun b hb => by rw [ct3 b, hQ b]; exact ⟨fun a => a.2, fun a => ⟨hb, a⟩⟩)]
    · obtain ⟨a1, a2⟩ := hpre (by omega)
      refine x_aload_n dX9_cut_74 rfl ?_
      refine x_iload dX9_cut_75 rfl ?_
      refine x_iconst dX9_cut_77 ?_
      refine p_V dX9_cut_78 lX9_64 (c_X9_of sz hM10 (x := y) (v := 0) (by omega)) hM10.1 rfl rfl rfl rfl (by decide) ?_
      rw [show fU (fU (fU (fU (lyW (fU (fU w 3 ga) 0 r3) r5 nx wy ol) 1 g) 8 iw) 9 qu) 0 r6 0 (2 + 52 * y + 0).toNat = (if alv A.2.2.2.2.2.2.2.2 y.toNat then 1 else 0) from a1]
      refine x_iconst dX9_cut_81 ?_
      refine x_icmp_ne dX9_cut_82 ⟨by split <;> omega, by split <;> omega⟩ ⟨by omega, by omega⟩ (fun qc82q => ?_) (fun qc82q => ?_)
      · have qc1q : ¬ alv A.2.2.2.2.2.2.2.2 y.toNat := fun a => qc82q (if_pos a)
        have hv := (show vd A.2.2.2.2.2.2.2.2 Q y.toNat = false from decide_eq_false (fun a => qc1q a.1))
        refine x_iinc dX9_cut_115 rfl rfl rfl ?_
        refine x_goto dX9_cut_118 ?_
        first | exact hskip (by omega) hv | exact hhit _ (by omega) hv hM12 (hF11.tr hF12)
      · have qc1q : alv A.2.2.2.2.2.2.2.2 y.toNat := Classical.byContradiction (fun a => by rw [if_neg a] at qc82q; omega)
        refine x_aload_n dX9_cut_85 rfl ?_
        refine s_get dX9_cut_86 fX9_34 hM rfl ?_
        refine x_iload dX9_cut_89 rfl ?_
        refine s_zald dX9_cut_91 hM rfl rfl ⟨by omega, by omega⟩ ?_
        rw [show fU (fU (fU (fU (lyW (fU (fU w 3 ga) 0 r3) r5 nx wy ol) 1 g) 8 iw) 9 qu) 0 r6 8 y.toNat = (if y.toNat ∈ Q then 1 else 0) from a2]
        refine x_ifB_ne dX9_cut_92 (fun qc92q => ?_) (fun qc92q => ?_)
        · have hv := (show vd A.2.2.2.2.2.2.2.2 Q y.toNat = false from decide_eq_false (fun a => a.2 qc92q))
          refine x_iinc dX9_cut_115 rfl rfl rfl ?_
          refine x_goto dX9_cut_118 ?_
          first | exact hskip (by omega) hv | exact hhit _ (by omega) hv hM12 (hF11.tr hF12)
        · have hv := (show vd A.2.2.2.2.2.2.2.2 Q y.toNat = true from decide_eq_true ⟨qc1q, qc92q⟩)
          refine x_aload_n dX9_cut_95 rfl ?_
          refine x_iload dX9_cut_96 rfl ?_
          refine x_iconst dX9_cut_98 ?_
          refine x_iconst dX9_cut_99 ?_
          refine v_V dX9_cut_100 lX9_91 (c_X9_to sz hM10 (x := y) (v := 0) (z := 0) (by omega)) hM10.1 rfl rfl rfl rfl (by decide) (fun h11 ⟨hM11, hF11⟩ => ?_)
          refine x_aload_n dX9_cut_103 rfl ?_
          refine x_iload dX9_cut_104 rfl ?_
          refine x_bipush dX9_cut_106 (by decide) ?_
          refine x_iconst dX9_cut_108 ?_
          refine v_V dX9_cut_109 lX9_91 (c_X9_to sz hM11 (x := y) (v := 11) (z := 0) (by omega)) hM11.1 rfl rfl rfl rfl (by decide) (fun h12 ⟨hM12, hF12⟩ => ?_)
          rw [fU_o, fU_s, fU_o, fU_s] at hM12
          refine x_iinc dX9_cut_112 rfl rfl rfl ?_
          refine x_iinc dX9_cut_115 rfl rfl rfl ?_
          refine x_goto dX9_cut_118 ?_
          first | exact hskip (by omega) hv | exact hhit _ (by omega) hv hM12 (hF11.tr hF12)
  · refine x_bipush dX9_cut_12 (by decide) ?_
    refine x_ireturn dX9_cut_14 rfl ?_
    obtain ⟨q2, q3⟩ : z = -2 ∧ A' = A := by
      rcases hSp with q | q
      · exact ⟨q.2.1, q.2.2⟩
      · exact absurd (by omega) q.1
    rw [q2, q3]
    exact ⟨_, rfl, rfl, ⟨w, u, hM0, hC0⟩, Fr.rf⟩
