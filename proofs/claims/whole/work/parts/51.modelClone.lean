def RmS (r : Nat → Int) (S : CS) : Prop := r 0 = (S.1 : Int) ∧ RmI r S.1 S.2.2.2.2 ∧ RmT r S.1 S.2.1 S.2.2.1
theorem RmR.s {r : Nat → Int} {S : CS} (h : RmR r S) : RmS r S := ⟨h.1, h.2.2.1, h.2.2.2.2⟩
theorem RmS.kids {r r' : Nat → Int} {S : CS} (h : RmS r S) (hN : NoB S.1 S.2.1 S.2.2.1) {p : Nat} (hs : Sm r r' (2 + 52 * p + 11) (2 + 52 * p + 52)) : RmS r' S := by
  obtain ⟨g0, g2, g4⟩ := h
  refine ⟨(hs _ (by omega)).trans g0, fun x hx => (hs _ (by omega)).trans (g2 x hx), fun x hx1 hx => ?_⟩
  have hl := (hN.2 x hx1 hx).1
  exact ⟨(hs _ (by omega)).trans (g4 x hx1 hx).1, fun j hj => (hs _ (by omega)).trans ((g4 x hx1 hx).2.1 j hj), (hs _ (by omega)).trans (g4 x hx1 hx).2.2⟩
/-- the rows behind a change of pairs that leaves all nodes in reach -/
theorem RmS.lay {r r0 : Nat → Int} {S : CS} {L' : List LK} {pl' : List PE} (hS : InvS S) (hI : InvS (S.1, S.2.1, S.2.2.1, L', pl')) (hN : NoB S.1 S.2.1 S.2.2.1) (h : RmS r0 S) (h2 : RmK r0 S.1 (kid L')) (hr : ∀ x, Rc (kid S.2.2.2.1) 0 x ↔ Rc (kid L') 0 x) (hp : RmP r pl') (e : ∀ i, i < 2134 → i ≠ 1 → r i = r0 i) : RmR r (S.1, S.2.1, S.2.2.1, L', pl') := by
  refine RmR.lay (r0 := r0) hI (fun x hx1 hx => (hN.2 x hx1 hx).1) h.1 (h.2.1.cg (fun x _ => ?_)) h2 h.2.2 hp e
  have qe1q := hI.al x
  rw [hS.al x, qe1q]
  exact hr x
theorem er_lfi {l : List Nat} {y : Nat} (h : y ∈ l) : ∃ j : Nat, lfi l y = (j : Int) ∧ j < l.length ∧ l.take j ++ l.drop (j + 1) = l.erase y := by
  obtain ⟨a, b, h1, h2, h3⟩ := List.exists_erase_eq h
  refine ⟨a.length, ?_, ?_, ?_⟩
  · rw [h2]
    exact lfi_at a b y h1
  · rw [h2, List.length_append, List.length_cons]
    omega
  · rw [h3, h2]
    simp
theorem KB.sub {d : Nat} {K K1 : Nat → List Nat} (h : KB d K) (hs : ∀ u, (K1 u).Sublist (K u)) : KB d K1 := ⟨h.1, fun x hx => ⟨Nat.le_trans (hs x).length_le (h.2 x hx).1, fun y hy => (h.2 x hx).2 y ((hs x).subset hy)⟩⟩
/-- what is in reach when a node gets a parent more, and when it moves -/
theorem rc_cl {K K' : Nat → List Nat} {p x : Nat} (hA : AdE K K' p x) (hx : Rc K 0 x) (u : Nat) : Rc K 0 u ↔ Rc K' 0 u := by
  refine ⟨hA.up, fun q => ?_⟩
  rcases hA.rc q with a | ⟨a1, a2⟩
  · exact a
  · exact hx.tr a2
theorem rc_mv {d : Nat} {K K1 K2 : Nat → List Nat} {p x : Nat} (hK2 : InvK d K2) (hs : ∀ u y, y ∈ K1 u → y ∈ K u) (hA : AdE K1 K2 p x) (hx : Rc K 0 x) (hK : ∀ u, u ≠ x → ∀ z, u ∈ K z → u ∈ K1 z) (hK0 : InvK d K) (hpr : Rc K 0 p) (hn : ¬ Rc K x p) (u : Nat) : Rc K 0 u ↔ Rc K2 0 u := by
  constructor
  · have hp2 : ∀ w, Rc K 0 w → ¬ Rc K x w → Rc K2 0 w := by
      rintro w ⟨n, hw⟩
      induction n generalizing w with
      | zero =>
        intro _
        have q : w = 0 := hw
        rw [q]
        exact Rc.rf _ _
      | succ n ihq =>
        obtain ⟨z, z1, z2⟩ := hw
        intro hnw
        have h3 := ihq z z1 (fun q => hnw (q.st z2))
        exact h3.st ((hA z w).mpr (Or.inl (hK w (fun q => hnw (by rw [q]; exact Rc.rf K x)) z z2)))
    have hx2 : Rc K2 0 x := (hp2 p hpr hn).st ((hA p x).mpr (Or.inr ⟨rfl, rfl⟩))
    rintro ⟨n, hw⟩
    induction n generalizing u with
    | zero =>
      have q : u = 0 := hw
      rw [q]
      exact Rc.rf _ _
    | succ n ihq =>
      obtain ⟨z, z1, z2⟩ := hw
      by_cases q : u = x
      · rw [q]
        exact hx2
      · exact (ihq z z1).st ((hA z u).mpr (Or.inl (hK u q z z2)))
  · intro q
    rcases hA.rc q with a | ⟨a1, a2⟩
    · exact Rc.sub hs a
    · exact hx.tr (Rc.sub hs a2)
theorem c_X9_cloneTo (sz : Nat) {h : AH} {m : Nat} {A : AS} (hMo : MoR h m A) (hIn : In2 A) (hIv : InvS A.2.2.2.2) (hSB : StB A.2.2.2.2) {r v z : Int} (hr : inR r) (hv : inR v) {A' : AS} (hSp : SpClone A r v z A') (hIn' : PlB A'.2.2.2.2.2.2.2.2) : CC mX9_cloneTo 4 0 0 [.ref m, .int (zI r), .int (zI v)] sz h (QI (fun z' h' => z' = z ∧ MoR h' m A' ∧ Fr h h' m (m + 17))) := by
  refine CC.intro [some (.ref m), some (.int (zI r)), some (.int (zI v)), none, none, none] pfX9_cloneTo rfl rfl ?_
  obtain ⟨w, u, hM, hC⟩ := hMo
  have hM0 := hM
  unfold MoW at hM
  have hC0 := hC
  have hIn0 := hIn
  obtain ⟨k1, k2, k3, k4, k5, k6⟩ := hC
  obtain ⟨i1, i2, i3, i4, i5, i6⟩ := hIn
  have hB := i4.1
  have hL := hB.1
  have hKB := i4.2.2.1
  have hd40 := hKB.1
  have hLv := hIv.wf.1
  unfold SpClone at hSp
  dsimp only at hSp
  have hz9 := noM_no (pl := A.2.2.2.2.2.2.2.2) hB (r := v)
  have hy9 := plM_z A.2.2.2.2.2.2.2.2 r
  have hyr := plZ_r A.2.2.2.2.2.2.2.2 r
  refine x_aload_n dX9_cloneTo_0 rfl ?_
  refine x_iload_n dX9_cloneTo_1 rfl ?_
  refine p_V dX9_cloneTo_2 lX9_88 (c_X9_placeOf sz hM0 k1.2.1 hB hr) hM.1 rfl rfl rfl rfl (by decide) ?_
  refine x_istore_n dX9_cloneTo_5 rfl rfl rfl ?_
  refine x_aload_n dX9_cloneTo_6 rfl ?_
  refine x_iload_n dX9_cloneTo_7 rfl ?_
  refine p_V dX9_cloneTo_8 lX9_98 (c_X9_nodeOf sz hM0 k1.2.1 hB hv) hM.1 rfl rfl rfl rfl (by decide) ?_
  refine x_istore dX9_cloneTo_11 rfl rfl rfl ?_
  refine x_iload_n dX9_cloneTo_13 rfl ?_
  refine x_bipush dX9_cloneTo_14 (by decide) ?_
  refine x_icmp_eq dX9_cloneTo_16 ⟨by omega, by omega⟩ ⟨by omega, by omega⟩ (fun qc16q => ?_) (fun qc16q => ?_)
  · refine x_bipush dX9_cloneTo_26 (by decide) ?_
    refine x_ireturn dX9_cloneTo_28 rfl ?_
    obtain ⟨q2, q3⟩ : z = -2 ∧ A' = A := by
      rcases hSp with q | q | q
      · exact ⟨q.2.1, q.2.2⟩
      · exact absurd q.1 (fun a => by have := a.1; have := a.2; omega)
      · exact absurd q.1 (fun a => by have := a.1; have := a.2; omega)
    rw [q2, q3]
    exact ⟨_, rfl, rfl, ⟨w, u, hM0, hC0⟩, Fr.rf⟩
  · refine x_iload dX9_cloneTo_19 rfl ?_
    refine x_bipush dX9_cloneTo_21 (by decide) ?_
    refine x_icmp_ne dX9_cloneTo_23 ⟨by omega, by omega⟩ ⟨by omega, by omega⟩ (fun qc23q => ?_) (fun qc23q => ?_)
    · obtain ⟨hkr, hk0, hk1, hks⟩ : plM A.2.2.2.2.2.2.2.2 r = plZ A.2.2.2.2.2.2.2.2 r ∧ 0 ≤ plZ A.2.2.2.2.2.2.2.2 r ∧ plZ A.2.2.2.2.2.2.2.2 r < A.2.2.2.2.2.2.2.2.length ∧ sn A.2.2.2.2.2.2.2.2 (plZ A.2.2.2.2.2.2.2.2 r).toNat = true := by
        rcases hy9 with q | q
        · omega
        · exact q
      have hkz : plZ A.2.2.2.2.2.2.2.2 r ≠ -2 := by omega
      have hpu : plR A.2.2.2.2.2.2.2.2 v ≠ -2 := by omega
      obtain ⟨p1, p2, p3⟩ := hIv.nr hpu
      obtain ⟨x1, x2, x3, x4, x5⟩ := hIv.nd hk0 hk1
      have hnp : noM A.2.2.2.2.2.2.2.2 v = (((gN A.2.2.2.2.2.2.2.2 (plR A.2.2.2.2.2.2.2.2 v)).toNat : Nat) : Int) := by
        unfold noM
        rw [if_neg hpu]
        exact p3
      have hat := k1.2.1.at hk0 hk1
      have hrf := hIv.rf hk0 hk1 p3
      have hKa := kd_cl hIv hkz hpu
      generalize hkk : plZ A.2.2.2.2.2.2.2.2 r = k at *
      generalize hpp : (gN A.2.2.2.2.2.2.2.2 (plR A.2.2.2.2.2.2.2.2 v)).toNat = p at *
      generalize hxx : (gN A.2.2.2.2.2.2.2.2 k).toNat = x at *
      rw [hnp, hkr]
      refine x_aload_n dX9_cloneTo_29 rfl ?_
      refine x_iload_n dX9_cloneTo_30 rfl ?_
      refine x_iconst dX9_cloneTo_31 ?_
      refine p_V dX9_cloneTo_32 lX9_77 (c_X9_at sz hM0 (x := k) (v := 0) (by omega)) hM.1 rfl rfl rfl rfl (by decide) ?_
      rw [hat.1, ← x5]
      refine x_istore dX9_cloneTo_35 rfl rfl rfl ?_
      refine x_aload_n dX9_cloneTo_37 rfl ?_
      refine x_iload dX9_cloneTo_38 rfl ?_
      refine x_iload dX9_cloneTo_40 rfl ?_
      refine i_V dX9_cloneTo_42 lX9_135 (c_X9_mayStand sz hM0 k1.2.2.2.1 hKB (x := x) (p := p) x2 p1) hM.1 rfl rfl rfl rfl (by decide) (fun z0 h1 ⟨hz0, iw, qu, hM1, hF1⟩ => ?_)
      refine x_if_ne dX9_cloneTo_45 ⟨by omega, by omega⟩ (fun qc45q => ?_) (fun qc45q => ?_)
      · have hnr : ¬ (Rc (kid A.2.2.2.2.2.2.2.1) x p ∨ x ∈ kid A.2.2.2.2.2.2.2.1 p) := by
          rcases hz0 with q | q
          · omega
          · exact q.1
        have hrfP : ¬ rfP A.2.2.2.2 k (plR A.2.2.2.2.2.2.2.2 v) := fun q => hnr (hrf.mp q)
        have hKa := hKa hrfP
        have hAt : Att A A.2.2.2.2.1 A.2.2.2.2.2.1 A.2.2.2.2.2.2.1 A.2.2.2.2.2.2.2.1 p x z A' := by
          rcases hSp with q | q | q
          · rcases q.1 with a | a
            · exact absurd a hkz
            · exact absurd a hpu
          · exact absurd q.2.1 hrfP
          · exact q.2.2
        have hrm := att_room hKa A.2.2.2.2.2.2.2.2
        have hK0 := kd_room (d := A.2.2.2.2.1) (K := kid A.2.2.2.2.2.2.2.1) (p := p) (x := x) (by rw [← kid_snoc]; exact hKa)
        have hC1 : MoC (fU (fU w 8 iw) 9 qu) u A := hC0.wq
        refine x_aload_n dX9_cloneTo_51 rfl ?_
        refine v_V dX9_cloneTo_52 lX9_105 (c_X9_takeSpare sz hM1) hM1.1 rfl rfl rfl rfl (by decide) (fun h2 ⟨ga, hga, hM2, hF2⟩ => ?_)
        have hGa := k1.c1 i4 hga
        have hG2 := hF1.tr hF2
        refine x_aload_n dX9_cloneTo_55 rfl ?_
        refine x_iload dX9_cloneTo_56 rfl ?_
        refine x_iload dX9_cloneTo_58 rfl ?_
        refine v_V dX9_cloneTo_60 lX9_115 (c_X9_addKid sz hM2 k1.2.2.2.1 hKB (p := p) (y := x) p1 (by omega) hK0) hM2.1 rfl rfl rfl rfl (by decide) (fun h5 ⟨r4, hs4, hK4, hM5, hF5⟩ => ?_)
        have hs5 := k1.s.kids i4.2.1 hs4
        rw [← kid_snoc] at hK4
        have hG5 := hG2.tr hF5
        have hA : AdE (kid A.2.2.2.2.2.2.2.1) (kid (A.2.2.2.2.2.2.2.1 ++ [(p, x)])) p x := by
          rw [kid_snoc]
          exact AdE.of _ _ _
        have hrc : ∀ y, Rc (kid A.2.2.2.2.2.2.2.1) 0 y ↔ Rc (kid (A.2.2.2.2.2.2.2.1 ++ [(p, x)])) 0 y := rc_cl hA x3
        refine x_aload_n dX9_cloneTo_63 rfl ?_
        refine i_V dX9_cloneTo_64 lX9_119 (c_X9_layPlaces sz hM5 hK4 hKa.kb hGa.2.1 hB hKa.dp) hM5.1 rfl rfl rfl rfl (by decide) (fun z1 h6 ⟨r5, nx, wy, ol, ⟨hcs, hsame⟩, hM6, hF6⟩ => ?_)
        have hG6 := hG5.tr hF6
        have hcs2 : ((lyO (A.2.2.2.2.2.2.2.1 ++ [(p, x)]) A.2.2.2.2.2.2.2.2).length ≤ 120 ∧ z1 = 1 ∧ RmP r5 (lyO (A.2.2.2.2.2.2.2.1 ++ [(p, x)]) A.2.2.2.2.2.2.2.2)) ∨ (120 < (lyO (A.2.2.2.2.2.2.2.1 ++ [(p, x)]) A.2.2.2.2.2.2.2.2).length ∧ z1 = 0) := hcs
        refine x_if_ne dX9_cloneTo_67 ⟨by omega, by omega⟩ (fun qc67q => ?_) (fun qc67q => ?_)
        · obtain ⟨hlen, -, hRP⟩ : (lyO (A.2.2.2.2.2.2.2.1 ++ [(p, x)]) A.2.2.2.2.2.2.2.2).length ≤ 120 ∧ z1 = 1 ∧ RmP r5 (lyO (A.2.2.2.2.2.2.2.1 ++ [(p, x)]) A.2.2.2.2.2.2.2.2) := by
            rcases hcs2 with q | q
            · exact q
            · omega
          have hI1 : InvS (A.2.2.2.2.1, A.2.2.2.2.2.1, A.2.2.2.2.2.2.1, (A.2.2.2.2.2.2.2.1 ++ [(p, x)]), lyO (A.2.2.2.2.2.2.2.1 ++ [(p, x)]) A.2.2.2.2.2.2.2.2) := hKa.lyO _ _ _
          have hR1 : RmR r5 (A.2.2.2.2.1, A.2.2.2.2.2.1, A.2.2.2.2.2.2.1, (A.2.2.2.2.2.2.2.1 ++ [(p, x)]), lyO (A.2.2.2.2.2.2.2.1 ++ [(p, x)]) A.2.2.2.2.2.2.2.2) := RmS.lay hIv hI1 i4.2.1 hs5 hK4 hrc hRP hsame
          obtain ⟨q2, q3⟩ : z = pCnt (lyO (A.2.2.2.2.2.2.2.1 ++ [(p, x)]) A.2.2.2.2.2.2.2.2) x ∧ A' = Done A (A.2.2.2.2.1, A.2.2.2.2.2.1, A.2.2.2.2.2.2.1, (A.2.2.2.2.2.2.2.1 ++ [(p, x)]), lyO (A.2.2.2.2.2.2.2.1 ++ [(p, x)]) A.2.2.2.2.2.2.2.2) := by
            rcases hAt with q | q
            · exact q.2
            · exact absurd (hrm.mpr hlen) q.1
          rw [q3] at hIn'
          rw [q2, q3]
          refine x_aload_n dX9_cloneTo_77 rfl ?_
          refine v_V dX9_cloneTo_78 lX9_126 (c_X9_record sz hM6 (n := A.2.1.length) k3 i2) hM6.1 rfl rfl rfl rfl (by decide) (fun h8 ⟨g, n1, hn1, hg1, hg2, hM8, hF8⟩ => ?_)
          refine x_aload_n dX9_cloneTo_81 rfl ?_
          refine x_iload dX9_cloneTo_82 rfl ?_
          refine p_V dX9_cloneTo_84 lX9_139 (c_X9_placesOf sz hM8 hRP hIn' (y := (x : Int)) ⟨by omega, by omega⟩) hM8.1 rfl rfl rfl rfl (by decide) ?_
          refine x_ireturn dX9_cloneTo_87 rfl ?_
          exact ⟨_, rfl, rfl, ⟨_, _, hM8, MoC.done hC1 hIn0 hn1 hg1 (fun i hi => (hg2 i hi).trans (hga i hi)) hR1 rfl rfl⟩, hG6.tr hF8⟩
        · refine x_aload_n dX9_cloneTo_70 rfl ?_
          refine v_V dX9_cloneTo_71 lX9_123 (c_X9_putBack sz hM6) hM6.1 rfl rfl rfl rfl (by decide) (fun h7 ⟨g7, hg7, hM7, hF7⟩ => ?_)
          refine x_bipush dX9_cloneTo_74 (by decide) ?_
          refine x_ireturn dX9_cloneTo_76 rfl ?_
          obtain ⟨q2, q3⟩ : z = -4 ∧ A' = A := by
            rcases hAt with q | q
            · have := hrm.mp q.1
              omega
            · exact q.2
          rw [q2, q3]
          exact ⟨_, rfl, rfl, ⟨_, _, hM7, k1.c1 i4 (fun i hi => (hg7 i hi).trans (hga i hi)), k2, k3, k4, k5, k6⟩, hG6.tr hF7⟩
      · refine x_bipush dX9_cloneTo_48 (by decide) ?_
        refine x_ireturn dX9_cloneTo_50 rfl ?_
        have hrfP : rfP A.2.2.2.2 k (plR A.2.2.2.2.2.2.2.2 v) := by
          rcases hz0 with q | q
          · exact hrf.mpr q.1
          · omega
        obtain ⟨q2, q3⟩ : z = -5 ∧ A' = A := by
          rcases hSp with q | q | q
          · rcases q.1 with a | a
            · exact absurd a hkz
            · exact absurd a hpu
          · exact q.2.2
          · exact absurd hrfP q.2.1
        rw [q2, q3]
        exact ⟨_, rfl, rfl, ⟨_, _, hM1, hC0.wq⟩, hF1⟩
    · refine x_bipush dX9_cloneTo_26 (by decide) ?_
      refine x_ireturn dX9_cloneTo_28 rfl ?_
      obtain ⟨q2, q3⟩ : z = -2 ∧ A' = A := by
        rcases hSp with q | q | q
        · exact ⟨q.2.1, q.2.2⟩
        · exact absurd q.1 (fun a => by have := a.1; have := a.2; omega)
        · exact absurd q.1 (fun a => by have := a.1; have := a.2; omega)
      rw [q2, q3]
      exact ⟨_, rfl, rfl, ⟨w, u, hM0, hC0⟩, Fr.rf⟩
theorem c_X9_move (sz : Nat) {h : AH} {m : Nat} {A : AS} (hMo : MoR h m A) (hIn : In2 A) (hIv : InvS A.2.2.2.2) (hSB : StB A.2.2.2.2) {r v z : Int} (hr : inR r) (hv : inR v) {A' : AS} (hSp : SpMove A r v z A') (hIn' : PlB A'.2.2.2.2.2.2.2.2) : CC mX9_move 4 0 0 [.ref m, .int (zI r), .int (zI v)] sz h (QI (fun z' h' => z' = z ∧ MoR h' m A' ∧ Fr h h' m (m + 17))) := by
  refine CC.intro [some (.ref m), some (.int (zI r)), some (.int (zI v)), none, none, none, none] pfX9_move rfl rfl ?_
  obtain ⟨w, u, hM, hC⟩ := hMo
  have hM0 := hM
  unfold MoW at hM
  have hC0 := hC
  have hIn0 := hIn
  obtain ⟨k1, k2, k3, k4, k5, k6⟩ := hC
  obtain ⟨i1, i2, i3, i4, i5, i6⟩ := hIn
  have hB := i4.1
  have hL := hB.1
  have hKB := i4.2.2.1
  have hd40 := hKB.1
  have hLv := hIv.wf.1
  unfold SpMove at hSp
  dsimp only at hSp
  have hz9 := noM_no (pl := A.2.2.2.2.2.2.2.2) hB (r := v)
  have hy9 := plM_z A.2.2.2.2.2.2.2.2 r
  have hyr := plZ_r A.2.2.2.2.2.2.2.2 r
  refine x_aload_n dX9_move_0 rfl ?_
  refine x_iload_n dX9_move_1 rfl ?_
  refine p_V dX9_move_2 lX9_88 (c_X9_placeOf sz hM0 k1.2.1 hB hr) hM.1 rfl rfl rfl rfl (by decide) ?_
  refine x_istore_n dX9_move_5 rfl rfl rfl ?_
  refine x_aload_n dX9_move_6 rfl ?_
  refine x_iload_n dX9_move_7 rfl ?_
  refine p_V dX9_move_8 lX9_98 (c_X9_nodeOf sz hM0 k1.2.1 hB hv) hM.1 rfl rfl rfl rfl (by decide) ?_
  refine x_istore dX9_move_11 rfl rfl rfl ?_
  refine x_iload_n dX9_move_13 rfl ?_
  refine x_bipush dX9_move_14 (by decide) ?_
  refine x_icmp_eq dX9_move_16 ⟨by omega, by omega⟩ ⟨by omega, by omega⟩ (fun qc16q => ?_) (fun qc16q => ?_)
  · refine x_bipush dX9_move_26 (by decide) ?_
    refine x_ireturn dX9_move_28 rfl ?_
    obtain ⟨q2, q3⟩ : z = -2 ∧ A' = A := by
      rcases hSp with q | q | q
      · exact ⟨q.2.1, q.2.2⟩
      · exact absurd q.1 (fun a => by have := a.1; have := a.2; omega)
      · exact absurd q.1 (fun a => by have := a.1; have := a.2; omega)
    rw [q2, q3]
    exact ⟨_, rfl, rfl, ⟨w, u, hM0, hC0⟩, Fr.rf⟩
  · refine x_iload dX9_move_19 rfl ?_
    refine x_bipush dX9_move_21 (by decide) ?_
    refine x_icmp_ne dX9_move_23 ⟨by omega, by omega⟩ ⟨by omega, by omega⟩ (fun qc23q => ?_) (fun qc23q => ?_)
    · obtain ⟨hkr, hk0, hk1, hks⟩ : plM A.2.2.2.2.2.2.2.2 r = plZ A.2.2.2.2.2.2.2.2 r ∧ 0 ≤ plZ A.2.2.2.2.2.2.2.2 r ∧ plZ A.2.2.2.2.2.2.2.2 r < A.2.2.2.2.2.2.2.2.length ∧ sn A.2.2.2.2.2.2.2.2 (plZ A.2.2.2.2.2.2.2.2 r).toNat = true := by
        rcases hy9 with q | q
        · omega
        · exact q
      have hkz : plZ A.2.2.2.2.2.2.2.2 r ≠ -2 := by omega
      have hpu : plR A.2.2.2.2.2.2.2.2 v ≠ -2 := by omega
      obtain ⟨p1, p2, p3⟩ := hIv.nr hpu
      obtain ⟨x1, x2, x3, x4, x5⟩ := hIv.nd hk0 hk1
      have hnp : noM A.2.2.2.2.2.2.2.2 v = (((gN A.2.2.2.2.2.2.2.2 (plR A.2.2.2.2.2.2.2.2 v)).toNat : Nat) : Int) := by
        unfold noM
        rw [if_neg hpu]
        exact p3
      have hat := k1.2.1.at hk0 hk1
      have hrf := hIv.rf hk0 hk1 p3
      have hKa := kd_mv hIv hB hkz hpu
      have hkx := kd_x hIv hB hk0 hk1
      have hmx := kid_mem.mpr (hIv.lk hB _ hk0 hk1)
      have hfx : gN A.2.2.2.2.2.2.2.2 (pPar A.2.2.2.2.2.2.2.2 (plZ A.2.2.2.2.2.2.2.2 r)) = (((gN A.2.2.2.2.2.2.2.2 (pPar A.2.2.2.2.2.2.2.2 (plZ A.2.2.2.2.2.2.2.2 r))).toNat : Nat) : Int) := by have := gN_r hB (pPar A.2.2.2.2.2.2.2.2 (plZ A.2.2.2.2.2.2.2.2 r)); omega
      have hfd := (hIv.1.2.2.2 _ _ hmx).1.1
      generalize hkk : plZ A.2.2.2.2.2.2.2.2 r = k at *
      generalize hpp : (gN A.2.2.2.2.2.2.2.2 (plR A.2.2.2.2.2.2.2.2 v)).toNat = p at *
      generalize hxx : (gN A.2.2.2.2.2.2.2.2 k).toNat = x at *
      rw [hnp, hkr]
      refine x_aload_n dX9_move_29 rfl ?_
      refine x_iload_n dX9_move_30 rfl ?_
      refine x_iconst dX9_move_31 ?_
      refine p_V dX9_move_32 lX9_77 (c_X9_at sz hM0 (x := k) (v := 0) (by omega)) hM.1 rfl rfl rfl rfl (by decide) ?_
      rw [hat.1, ← x5]
      refine x_istore dX9_move_35 rfl rfl rfl ?_
      refine x_aload_n dX9_move_37 rfl ?_
      refine x_iload dX9_move_38 rfl ?_
      refine x_iload dX9_move_40 rfl ?_
      refine i_V dX9_move_42 lX9_135 (c_X9_mayStand sz hM0 k1.2.2.2.1 hKB (x := x) (p := p) x2 p1) hM.1 rfl rfl rfl rfl (by decide) (fun z0 h1 ⟨hz0, iw, qu, hM1, hF1⟩ => ?_)
      refine x_if_ne dX9_move_45 ⟨by omega, by omega⟩ (fun qc45q => ?_) (fun qc45q => ?_)
      · have hnr : ¬ (Rc (kid A.2.2.2.2.2.2.2.1) x p ∨ x ∈ kid A.2.2.2.2.2.2.2.1 p) := by
          rcases hz0 with q | q
          · omega
          · exact q.1
        have hrfP : ¬ rfP A.2.2.2.2 k (plR A.2.2.2.2.2.2.2.2 v) := fun q => hnr (hrf.mp q)
        have hKa := hKa hrfP
        have hAt : Att A A.2.2.2.2.1 A.2.2.2.2.2.1 A.2.2.2.2.2.2.1 (lkX A.2.2.2.2 k) p x z A' := by
          rcases hSp with q | q | q
          · rcases q.1 with a | a
            · exact absurd a hkz
            · exact absurd a hpu
          · exact absurd q.2.1 hrfP
          · exact q.2.2
        have hrm := att_room hKa A.2.2.2.2.2.2.2.2
        have hK0 := kd_room (d := A.2.2.2.2.1) (K := kid (lkX A.2.2.2.2 k)) (p := p) (x := x) (by rw [← kid_snoc]; exact hKa)
        have hC1 : MoC (fU (fU w 8 iw) 9 qu) u A := hC0.wq
        refine x_aload_n dX9_move_51 rfl ?_
        refine v_V dX9_move_52 lX9_105 (c_X9_takeSpare sz hM1) hM1.1 rfl rfl rfl rfl (by decide) (fun h2 ⟨ga, hga, hM2, hF2⟩ => ?_)
        have hGa := k1.c1 i4 hga
        have hG2 := hF1.tr hF2
        refine x_aload_n dX9_move_55 rfl ?_
        refine x_iload_n dX9_move_56 rfl ?_
        refine p_V dX9_move_57 lX9_142 (c_X9_parent sz hM2 k1.2.1 hB hLv hk0 hk1) hM2.1 rfl rfl rfl rfl (by decide) ?_
        generalize hff : (gN A.2.2.2.2.2.2.2.2 (pPar A.2.2.2.2.2.2.2.2 k)).toNat = f at *
        rw [hfx]
        obtain ⟨j, j1, j2, j3⟩ := er_lfi hmx
        refine x_istore dX9_move_60 rfl rfl rfl ?_
        refine x_aload_n dX9_move_62 rfl ?_
        refine x_iload dX9_move_63 rfl ?_
        refine x_aload_n dX9_move_65 rfl ?_
        refine x_iload dX9_move_66 rfl ?_
        refine x_iload dX9_move_68 rfl ?_
        refine p_V dX9_move_70 lX9_132 (c_X9_position sz hM2 k1.2.2.2.1 hKB (x := f) (y := x) hfd (by omega)) hM2.1 rfl rfl rfl rfl (by decide) ?_
        rw [show poM (kid A.2.2.2.2.2.2.2.1 f) x = (j : Int) by unfold poM; rw [j1, if_neg (by omega)]]
        refine v_V dX9_move_73 lX9_145 (c_X9_takeKid sz hM2 k1.2.2.2.1 hKB (p := f) (k := j) hfd j2) hM2.1 rfl rfl rfl rfl (by decide) (fun h3 ⟨r3, hs3, hK3, hM3, hF3⟩ => ?_)
        rw [j3, ← hkx] at hK3
        have hsb : ∀ u, (kid (lkX A.2.2.2.2 k) u).Sublist (kid A.2.2.2.2.2.2.2.1 u) := fun u => by
          rw [hkx]
          exact er_sub _ _ _ u
        have hKB1 : KB A.2.2.2.2.1 (kid (lkX A.2.2.2.2 k)) := hKB.sub hsb
        have hs30 := k1.s.kids i4.2.1 hs3
        refine x_aload_n dX9_move_76 rfl ?_
        refine x_iload dX9_move_77 rfl ?_
        refine x_iload dX9_move_79 rfl ?_
        refine v_V dX9_move_81 lX9_115 (c_X9_addKid sz hM3 hK3 hKB1 (p := p) (y := x) p1 (by omega) hK0) hM3.1 rfl rfl rfl rfl (by decide) (fun h5 ⟨r4, hs4, hK4, hM5, hF5⟩ => ?_)
        have hs5 := hs30.kids i4.2.1 hs4
        rw [← kid_snoc] at hK4
        have hG5 := (hG2.tr hF3).tr hF5
        have hA : AdE (kid (lkX A.2.2.2.2 k)) (kid (lkX A.2.2.2.2 k ++ [(p, x)])) p x := by
          rw [kid_snoc]
          exact AdE.of _ _ _
        have hrc : ∀ y, Rc (kid A.2.2.2.2.2.2.2.1) 0 y ↔ Rc (kid (lkX A.2.2.2.2 k ++ [(p, x)])) 0 y := rc_mv hKa (fun u y q => (hsb u).subset q) hA x3 (fun u hu y hy => by
          rw [hkx]
          exact (er_mem hIv.1.2.2.1).mpr ⟨hy, fun a => hu a.2⟩) hIv.1 p2 (fun q => hnr (Or.inl q))
        refine x_aload_n dX9_move_84 rfl ?_
        refine i_V dX9_move_85 lX9_119 (c_X9_layPlaces sz hM5 hK4 hKa.kb hGa.2.1 hB hKa.dp) hM5.1 rfl rfl rfl rfl (by decide) (fun z1 h6 ⟨r5, nx, wy, ol, ⟨hcs, hsame⟩, hM6, hF6⟩ => ?_)
        have hG6 := hG5.tr hF6
        have hcs2 : ((lyO (lkX A.2.2.2.2 k ++ [(p, x)]) A.2.2.2.2.2.2.2.2).length ≤ 120 ∧ z1 = 1 ∧ RmP r5 (lyO (lkX A.2.2.2.2 k ++ [(p, x)]) A.2.2.2.2.2.2.2.2)) ∨ (120 < (lyO (lkX A.2.2.2.2 k ++ [(p, x)]) A.2.2.2.2.2.2.2.2).length ∧ z1 = 0) := hcs
        refine x_if_ne dX9_move_88 ⟨by omega, by omega⟩ (fun qc88q => ?_) (fun qc88q => ?_)
        · obtain ⟨hlen, -, hRP⟩ : (lyO (lkX A.2.2.2.2 k ++ [(p, x)]) A.2.2.2.2.2.2.2.2).length ≤ 120 ∧ z1 = 1 ∧ RmP r5 (lyO (lkX A.2.2.2.2 k ++ [(p, x)]) A.2.2.2.2.2.2.2.2) := by
            rcases hcs2 with q | q
            · exact q
            · omega
          have hI1 : InvS (A.2.2.2.2.1, A.2.2.2.2.2.1, A.2.2.2.2.2.2.1, (lkX A.2.2.2.2 k ++ [(p, x)]), lyO (lkX A.2.2.2.2 k ++ [(p, x)]) A.2.2.2.2.2.2.2.2) := hKa.lyO _ _ _
          have hR1 : RmR r5 (A.2.2.2.2.1, A.2.2.2.2.2.1, A.2.2.2.2.2.2.1, (lkX A.2.2.2.2 k ++ [(p, x)]), lyO (lkX A.2.2.2.2 k ++ [(p, x)]) A.2.2.2.2.2.2.2.2) := RmS.lay hIv hI1 i4.2.1 hs5 hK4 hrc hRP hsame
          obtain ⟨q2, q3⟩ : z = pCnt (lyO (lkX A.2.2.2.2 k ++ [(p, x)]) A.2.2.2.2.2.2.2.2) x ∧ A' = Done A (A.2.2.2.2.1, A.2.2.2.2.2.1, A.2.2.2.2.2.2.1, (lkX A.2.2.2.2 k ++ [(p, x)]), lyO (lkX A.2.2.2.2 k ++ [(p, x)]) A.2.2.2.2.2.2.2.2) := by
            rcases hAt with q | q
            · exact q.2
            · exact absurd (hrm.mpr hlen) q.1
          rw [q3] at hIn'
          rw [q2, q3]
          refine x_aload_n dX9_move_98 rfl ?_
          refine v_V dX9_move_99 lX9_126 (c_X9_record sz hM6 (n := A.2.1.length) k3 i2) hM6.1 rfl rfl rfl rfl (by decide) (fun h8 ⟨g, n1, hn1, hg1, hg2, hM8, hF8⟩ => ?_)
          refine x_aload_n dX9_move_102 rfl ?_
          refine x_iload dX9_move_103 rfl ?_
          refine p_V dX9_move_105 lX9_139 (c_X9_placesOf sz hM8 hRP hIn' (y := (x : Int)) ⟨by omega, by omega⟩) hM8.1 rfl rfl rfl rfl (by decide) ?_
          refine x_ireturn dX9_move_108 rfl ?_
          exact ⟨_, rfl, rfl, ⟨_, _, hM8, MoC.done hC1 hIn0 hn1 hg1 (fun i hi => (hg2 i hi).trans (hga i hi)) hR1 rfl rfl⟩, hG6.tr hF8⟩
        · refine x_aload_n dX9_move_91 rfl ?_
          refine v_V dX9_move_92 lX9_123 (c_X9_putBack sz hM6) hM6.1 rfl rfl rfl rfl (by decide) (fun h7 ⟨g7, hg7, hM7, hF7⟩ => ?_)
          refine x_bipush dX9_move_95 (by decide) ?_
          refine x_ireturn dX9_move_97 rfl ?_
          obtain ⟨q2, q3⟩ : z = -4 ∧ A' = A := by
            rcases hAt with q | q
            · have := hrm.mp q.1
              omega
            · exact q.2
          rw [q2, q3]
          exact ⟨_, rfl, rfl, ⟨_, _, hM7, k1.c1 i4 (fun i hi => (hg7 i hi).trans (hga i hi)), k2, k3, k4, k5, k6⟩, hG6.tr hF7⟩
      · refine x_bipush dX9_move_48 (by decide) ?_
        refine x_ireturn dX9_move_50 rfl ?_
        have hrfP : rfP A.2.2.2.2 k (plR A.2.2.2.2.2.2.2.2 v) := by
          rcases hz0 with q | q
          · exact hrf.mpr q.1
          · omega
        obtain ⟨q2, q3⟩ : z = -5 ∧ A' = A := by
          rcases hSp with q | q | q
          · rcases q.1 with a | a
            · exact absurd a hkz
            · exact absurd a hpu
          · exact q.2.2
          · exact absurd hrfP q.2.1
        rw [q2, q3]
        exact ⟨_, rfl, rfl, ⟨_, _, hM1, hC0.wq⟩, hF1⟩
    · refine x_bipush dX9_move_26 (by decide) ?_
      refine x_ireturn dX9_move_28 rfl ?_
      obtain ⟨q2, q3⟩ : z = -2 ∧ A' = A := by
        rcases hSp with q | q | q
        · exact ⟨q.2.1, q.2.2⟩
        · exact absurd q.1 (fun a => by have := a.1; have := a.2; omega)
        · exact absurd q.1 (fun a => by have := a.1; have := a.2; omega)
      rw [q2, q3]
      exact ⟨_, rfl, rfl, ⟨w, u, hM0, hC0⟩, Fr.rf⟩
