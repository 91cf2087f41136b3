theorem gA (a m : List Nat) (i : Nat) : (a ++ m).getD i 0 = if i < a.length then a.getD i 0 else m.getD (i - a.length) 0 := by
  rw [List.getD_eq_getElem?_getD, List.getElem?_append]
  split
  · rw [List.getD_eq_getElem?_getD]
  · rw [List.getD_eq_getElem?_getD]
theorem gC (y : Nat) (m : List Nat) (i : Nat) : (y :: m).getD i 0 = if i = 0 then y else m.getD (i - 1) 0 := by
  cases i with
  | zero => rfl
  | succ i =>
    rw [if_neg (by omega), Nat.add_sub_cancel]
    rfl
theorem gT (l : List Nat) (n i : Nat) : (l.take n).getD i 0 = if i < n then l.getD i 0 else 0 := by
  rw [List.getD_eq_getElem?_getD, List.getElem?_take]
  split
  · rw [List.getD_eq_getElem?_getD]
  · rfl
theorem gDr (l : List Nat) (n i : Nat) : (l.drop n).getD i 0 = l.getD (n + i) 0 := by
  rw [List.getD_eq_getElem?_getD, List.getElem?_drop, List.getD_eq_getElem?_getD]
theorem shK_at {a b : List Nat} {y : Nat} {v : Int} (h0 : v ≠ 0) (h1 : 0 ≤ (a.length : Int) + v) (h2 : (a.length : Int) + v ≤ a.length + b.length) (i : Nat) : (shK a b y v).getD i 0 = if (i : Int) = a.length + v then y else if a.length ≤ i ∧ (i : Int) < a.length + v then (a ++ y :: b).getD (i + 1) 0 else if (a.length : Int) + v < i ∧ i ≤ a.length then (a ++ y :: b).getD (i - 1) 0 else (a ++ y :: b).getD i 0 := by
  unfold shK
  by_cases hv : 0 < v
  · rw [if_pos hv]
    simp only [gA, gC, gT, gDr, List.length_take, List.length_drop]
    repeat' split
    all_goals first | rfl | (exfalso; omega) | (congr 1; omega)
  · rw [if_neg hv]
    simp only [gA, gC, gT, gDr, List.length_take, List.length_drop]
    repeat' split
    all_goals first | rfl | (exfalso; omega) | (congr 1; omega)
/-- the children of a node while one of them moves, from the place j to k -/
def ShI (r0 r : Nat → Int) (f : Nat) (K : List Nat) (j k : Int) : Prop := Sm r0 r (2 + 52 * f + 12) (2 + 52 * f + 52) ∧ ∀ i : Nat, i < K.length → r (2 + 52 * f + (12 + i)) = if j ≤ i ∧ (i : Int) < k then ((K.getD (i + 1) 0 : Nat) : Int) else if k < i ∧ (i : Int) ≤ j then ((K.getD (i - 1) 0 : Nat) : Int) else ((K.getD i 0 : Nat) : Int)
theorem ShI.up {r0 r : Nat → Int} {f : Nat} {K : List Nat} {j k : Int} (h : ShI r0 r f K j k) (hl : K.length ≤ 40) (h0 : 0 ≤ j) (h1 : j ≤ k) (h2 : k + 1 < K.length) {i0 : Nat} (qe0q : i0 = 2 + 52 * f + (12 + k.toNat)) : ShI r0 (zU r i0 (r (2 + 52 * f + (12 + (k.toNat + 1))))) f K j (k + 1) := by
  refine ⟨fun i hi => (zU_n (by omega)).trans (h.1 i hi), fun i hi => ?_⟩
  have qe1q := h.2 (k.toNat + 1) (by omega)
  rw [if_neg (by omega), if_neg (by omega)] at qe1q
  by_cases q : i = k.toNat
  · subst q
    rw [← qe0q, zU_s, if_pos ⟨by omega, by omega⟩, qe1q]
  · rw [zU_n (by omega), h.2 i hi, if_neg (show ¬ (k + 1 < (i : Int) ∧ (i : Int) ≤ j) by omega), if_neg (show ¬ (k < (i : Int) ∧ (i : Int) ≤ j) by omega)]
    by_cases q2 : j ≤ i ∧ (i : Int) < k
    · rw [if_pos q2, if_pos ⟨q2.1, by omega⟩]
    · rw [if_neg q2, if_neg (by omega)]
theorem ShI.dn {r0 r : Nat → Int} {f : Nat} {K : List Nat} {j k : Int} (h : ShI r0 r f K j k) (hl : K.length ≤ 40) (h0 : 1 ≤ k) (h1 : k ≤ j) (h2 : j < K.length) {i0 : Nat} (qe0q : i0 = 2 + 52 * f + (12 + k.toNat)) : ShI r0 (zU r i0 (r (2 + 52 * f + (12 + (k.toNat - 1))))) f K j (k - 1) := by
  refine ⟨fun i hi => (zU_n (by omega)).trans (h.1 i hi), fun i hi => ?_⟩
  have qe1q := h.2 (k.toNat - 1) (by omega)
  rw [if_neg (by omega), if_neg (by omega)] at qe1q
  by_cases q : i = k.toNat
  · subst q
    rw [← qe0q, zU_s, if_neg (by omega), if_pos ⟨by omega, by omega⟩, qe1q]
  · rw [zU_n (by omega), h.2 i hi, if_neg (show ¬ (j ≤ (i : Int) ∧ (i : Int) < k - 1) by omega), if_neg (show ¬ (j ≤ (i : Int) ∧ (i : Int) < k) by omega)]
    by_cases q2 : k < i ∧ (i : Int) ≤ j
    · rw [if_pos q2, if_pos ⟨by omega, q2.2⟩]
    · rw [if_neg q2, if_neg (by omega)]
theorem ShI.fin {r0 r : Nat → Int} {d f y : Nat} {L M : List LK} {v : Int} {a b : List Nat} (h : ShI r0 r f (kid L f) a.length (a.length + v)) (hK : RmK r0 d (kid L)) (hKB : KB d (kid L)) (hf : f ≤ d) (hm : ShK L M f y v a b) (hv : v ≠ 0) {i0 : Nat} (qe0q : (i0 : Int) = 2 + 52 * f + (12 + (a.length + v))) : RmK (zU r i0 (y : Int)) d (kid M) ∧ Sm r0 (zU r i0 (y : Int)) (2 + 52 * f + 11) (2 + 52 * f + 52) := by
  obtain ⟨m1, m2, m3, m4, m5, m6, m7⟩ := hm
  have hlk := (hKB.2 f hf).1
  have hln : (kid L f).length = a.length + b.length + 1 := by
    rw [m1, List.length_append, List.length_cons]
    omega
  have hs : Sm r0 (zU r i0 (y : Int)) (2 + 52 * f + 11) (2 + 52 * f + 52) := fun i hi => (zU_n (by omega)).trans (h.1 i (by omega))
  refine ⟨?_, hs⟩
  have e : kid M = fU (kid L) f (shK a b y v) := by
    funext u
    by_cases q : u = f
    · rw [q, fU_s, m5]
    · rw [fU_n q, m6 u q]
  rw [e]
  have hpl := (shK_perm a b y v).length_eq
  rw [← m1] at hpl
  refine hK.upd hKB hs ?_ (fun i hi => ?_)
  · rw [zU_n (by omega), h.1 _ (by omega), (hK f hf).1, hpl]
  · rw [hpl] at hi
    have qe1q := h.2 i hi
    rw [shK_at hv m3 m4 i, ← m1]
    by_cases q : (i : Int) = a.length + v
    · rw [if_pos q, show 2 + 52 * f + (12 + i) = i0 by omega, zU_s]
    · rw [if_neg q, zU_n (by omega), qe1q]
      by_cases q1 : a.length ≤ i ∧ (i : Int) < a.length + v
      · rw [if_pos ⟨by omega, q1.2⟩, if_pos q1]
      · rw [if_neg (by omega), if_neg q1]
        by_cases q2 : (a.length : Int) + v < i ∧ i ≤ a.length
        · rw [if_pos ⟨q2.1, by omega⟩, if_pos q2]
        · rw [if_neg (by omega), if_neg q2]
theorem c_X9_shift (sz : Nat) {h : AH} {m : Nat} {A : AS} (hMo : MoR h m A) (hIn : In2 A) (hIv : InvS A.2.2.2.2) (hSB : StB A.2.2.2.2) {r v z : Int} (hr : inR r) (hv : inR v) {A' : AS} (hSp : SpShift A r v z A') : CC mX9_shift 3 0 0 [.ref m, .int (zI r), .int (zI v)] sz h (QI (fun z' h' => z' = z ∧ MoR h' m A' ∧ Fr h h' m (m + 17))) := by
  refine CC.intro [some (.ref m), some (.int (zI r)), some (.int (zI v)), none, none, none, none, none, none, none] pfX9_shift rfl rfl ?_
  obtain ⟨w, u, hM, hC⟩ := hMo
  have hM0 := hM
  unfold MoW at hM
  have hC0 := hC
  have hIn0 := hIn
  obtain ⟨k1, k2, k3, k4, k5, k6⟩ := hC
  obtain ⟨i1, i2, i3, i4, i5, i6⟩ := hIn
  have hB := i4.1
  have hL := hB.1
  have hKB := i4.2.2.1
  have hd40 := hKB.1
  have hLv := hIv.wf.1
  unfold SpShift at hSp
  dsimp only at hSp
  have hy9 := plM_z A.2.2.2.2.2.2.2.2 r
  have hyr := plZ_r A.2.2.2.2.2.2.2.2 r
  refine x_aload_n dX9_shift_0 rfl ?_
  refine x_iload_n dX9_shift_1 rfl ?_
  refine p_V dX9_shift_2 lX9_88 (c_X9_placeOf sz hM0 k1.2.1 hB hr) hM.1 rfl rfl rfl rfl (by decide) ?_
  refine x_istore_n dX9_shift_5 rfl rfl rfl ?_
  refine x_iload_n dX9_shift_6 rfl ?_
  refine x_bipush dX9_shift_7 (by decide) ?_
  refine x_icmp_ne dX9_shift_9 ⟨by omega, by omega⟩ ⟨by omega, by omega⟩ (fun qc9q => ?_) (fun qc9q => ?_)
  · obtain ⟨hkr, hk0, hk1, hks⟩ : plM A.2.2.2.2.2.2.2.2 r = plZ A.2.2.2.2.2.2.2.2 r ∧ 0 ≤ plZ A.2.2.2.2.2.2.2.2 r ∧ plZ A.2.2.2.2.2.2.2.2 r < A.2.2.2.2.2.2.2.2.length ∧ sn A.2.2.2.2.2.2.2.2 (plZ A.2.2.2.2.2.2.2.2 r).toNat = true := by
      rcases hy9 with q | q
      · omega
      · exact q
    have hkz : plZ A.2.2.2.2.2.2.2.2 r ≠ -2 := by omega
    obtain ⟨x1, x2, x3, x4, x5⟩ := hIv.nd hk0 hk1
    have hat := k1.2.1.at hk0 hk1
    have hmx := kid_mem.mpr (hIv.lk hB _ hk0 hk1)
    have hfx : gN A.2.2.2.2.2.2.2.2 (pPar A.2.2.2.2.2.2.2.2 (plZ A.2.2.2.2.2.2.2.2 r)) = (((gN A.2.2.2.2.2.2.2.2 (pPar A.2.2.2.2.2.2.2.2 (plZ A.2.2.2.2.2.2.2.2 r))).toNat : Nat) : Int) := by have := gN_r hB (pPar A.2.2.2.2.2.2.2.2 (plZ A.2.2.2.2.2.2.2.2 r)); omega
    have hfd := (hIv.1.2.2.2 _ _ hmx).1.1
    obtain ⟨j, j1, j2, j3⟩ := er_lfi hmx
    have hpo : poA A.2.2.2.2 (plZ A.2.2.2.2.2.2.2.2 r) = (j : Int) := j1
    rw [hpo] at hSp
    generalize hkk : plZ A.2.2.2.2.2.2.2.2 r = k at *
    generalize hxx : (gN A.2.2.2.2.2.2.2.2 k).toNat = x at *
    generalize hff : (gN A.2.2.2.2.2.2.2.2 (pPar A.2.2.2.2.2.2.2.2 k)).toNat = f at *
    have hlf := (hKB.2 f hfd).1
    rw [hkr]
    refine x_iload_n dX9_shift_15 rfl ?_
    refine x_bipush dX9_shift_16 (by decide) ?_
    refine x_bipush dX9_shift_18 (by decide) ?_
    refine p_S dX9_shift_20 lX9_101 (c_X9_in sz h hv (b := -39) (c := 39) ⟨by omega, by omega⟩ ⟨by omega, by omega⟩) rfl rfl rfl (by decide) ?_
    refine x_ifB_eq dX9_shift_23 (fun qc23q => ?_) (fun qc23q => ?_)
    · refine x_bipush dX9_shift_30 (by decide) ?_
      refine x_ireturn dX9_shift_32 rfl ?_
      obtain ⟨q2, q3⟩ : z = -3 ∧ A' = A := by
        rcases hSp with q | q | q | q
        · exact absurd q.1 hkz
        · exact ⟨q.2.2.1, q.2.2.2⟩
        · exact absurd q.2.1 (fun a => by omega)
        · exact absurd q.2.1 (fun a => by omega)
      rw [q2, q3]
      exact ⟨_, rfl, rfl, ⟨w, u, hM0, hC0⟩, Fr.rf⟩
    · refine x_iload_n dX9_shift_26 rfl ?_
      refine x_if_ne dX9_shift_27 ⟨by omega, by omega⟩ (fun qc27q => ?_) (fun qc27q => ?_)
      · refine x_aload_n dX9_shift_33 rfl ?_
        refine x_iload_n dX9_shift_34 rfl ?_
        refine x_iconst dX9_shift_35 ?_
        refine p_V dX9_shift_36 lX9_77 (c_X9_at sz hM0 (x := k) (v := 0) (by omega)) hM.1 rfl rfl rfl rfl (by decide) ?_
        rw [hat.1, ← x5]
        refine x_istore dX9_shift_39 rfl rfl rfl ?_
        refine x_aload_n dX9_shift_41 rfl ?_
        refine x_iload_n dX9_shift_42 rfl ?_
        refine p_V dX9_shift_43 lX9_142 (c_X9_parent sz hM0 k1.2.1 hB hLv hk0 hk1) hM.1 rfl rfl rfl rfl (by decide) ?_
        rw [hfx]
        refine x_istore dX9_shift_46 rfl rfl rfl ?_
        refine x_aload_n dX9_shift_48 rfl ?_
        refine x_iload dX9_shift_49 rfl ?_
        refine x_iload dX9_shift_51 rfl ?_
        refine p_V dX9_shift_53 lX9_132 (c_X9_position sz hM0 k1.2.2.2.1 hKB (x := f) (y := x) hfd (by omega)) hM.1 rfl rfl rfl rfl (by decide) ?_
        rw [show poM (kid A.2.2.2.2.2.2.2.1 f) x = (j : Int) by unfold poM; rw [j1, if_neg (by omega)]]
        refine x_istore dX9_shift_56 rfl rfl rfl ?_
        refine x_iload dX9_shift_58 rfl ?_
        refine x_iload_n dX9_shift_60 rfl ?_
        refine x_iadd dX9_shift_61 ?_
        refine x_istore dX9_shift_62 rfl rfl rfl ?_
        refine x_iload dX9_shift_64 rfl ?_
        refine x_iconst dX9_shift_66 ?_
        refine x_aload_n dX9_shift_67 rfl ?_
        refine x_iload dX9_shift_68 rfl ?_
        refine x_bipush dX9_shift_70 (by decide) ?_
        refine p_V dX9_shift_72 lX9_64 (c_X9_of sz hM0 (x := (f : Int)) (v := 11) (by omega)) hM.1 rfl rfl rfl rfl (by decide) ?_
        rw [show w 0 (2 + 52 * (f : Int) + 11).toNat = ((kid A.2.2.2.2.2.2.2.1 f).length : Int) from k1.2.2.2.1.at (x := (f : Int)) (by omega) (by omega)]
        refine x_iconst dX9_shift_75 ?_
        refine x_isub dX9_shift_76 ?_
        refine p_S dX9_shift_77 lX9_101 (c_X9_in sz h (a := (j : Int) + v) (b := 0) (c := ((kid A.2.2.2.2.2.2.2.1 f).length : Int) - 1) ⟨by omega, by omega⟩ ⟨by omega, by omega⟩ ⟨by omega, by omega⟩) rfl rfl rfl (by decide) ?_
        refine x_ifB_ne dX9_shift_80 (fun qc80q => ?_) (fun qc80q => ?_)
        · obtain ⟨M, a, b, hm, q2, q3⟩ : ∃ M a b, ShK A.2.2.2.2.2.2.2.1 M f x v a b ∧ z = (a.length : Int) + v ∧ A' = Done A (A.2.2.2.2.1, A.2.2.2.2.2.1, A.2.2.2.2.2.2.1, M, lyO M A.2.2.2.2.2.2.2.2) := by
            rcases hSp with q | q | q | q
            · exact absurd q.1 hkz
            · exact absurd ⟨by omega, by omega⟩ q.2.1
            · exact absurd ⟨by omega, by omega⟩ q.2.2.1
            · exact q.2.2.2
          have hja : (j : Int) = (a.length : Int) := by
            rw [← j1, hm.1]
            exact lfi_at a b x hm.2.1
          have hv0 : v ≠ 0 := by omega
          obtain ⟨hkd1, hkd2⟩ := kd_sh hIv hm
          have hpm : ∀ y, (kid M y).Perm (kid A.2.2.2.2.2.2.2.1 y) := fun y => by
            obtain ⟨m1, m2, m3, m4, m5, m6, m7⟩ := hm
            by_cases q : y = f
            · subst q
              rw [m5, m1]
              exact shK_perm a b x v
            · rw [m6 y q]
          refine x_aload_n dX9_shift_86 rfl ?_
          refine v_V dX9_shift_87 lX9_105 (c_X9_takeSpare sz hM0) hM.1 rfl rfl rfl rfl (by decide) (fun h2 ⟨ga, hga, hM2, hF2⟩ => ?_)
          have hGa := k1.c1 i4 hga
          have K105 : ∀ st : Int, (st = 1 ∧ 0 < v ∨ st = -1 ∧ v < 0) → XM mX9_shift 3 0 0 (QI (fun z' h' => z' = z ∧ MoR h' m A' ∧ Fr h h' m (m + 17))) 0 0 sz h2 105 [some (.ref m), some (.int (zI r)), some (.int (zI v)), some (.int (zI k)), some (.int (zI (x : Int))), some (.int (zI (f : Int))), some (.int (zI (j : Int))), some (.int (zI ((j : Int) + v))), some (.int (zI st)), some (.int (zI (j : Int)))] [] := by
            intro st hst
            refine x_loop (fun s : AH × (Nat → Int) × Int => s.1) (fun s => [some (.ref m), some (.int (zI r)), some (.int (zI v)), some (.int (zI k)), some (.int (zI (x : Int))), some (.int (zI (f : Int))), some (.int (zI (j : Int))), some (.int (zI ((j : Int) + v))), some (.int (zI st)), some (.int (zI s.2.2))]) (fun s => (0 < v ∧ (j : Int) ≤ s.2.2 ∧ s.2.2 ≤ j + v ∨ v < 0 ∧ (j : Int) + v ≤ s.2.2 ∧ s.2.2 ≤ j) ∧ ShI (w 0) s.2.1 f (kid A.2.2.2.2.2.2.2.1 f) j s.2.2 ∧ MoW s.1 m (fU (fU w 3 ga) 0 s.2.1) u ∧ Fr h s.1 m (m + 17)) (fun s => (if 0 < v then j + v - s.2.2 else s.2.2 - (j + v)).toNat) (h2, w 0, (j : Int)) rfl rfl ⟨by dsimp only; omega, ⟨fun _ _ => rfl, fun i hi => by dsimp only; rw [if_neg (by omega), if_neg (by omega)]; exact (k1.2.2.2.1 f hfd).2 i hi⟩, hM2, hF2⟩ ?_
            clear hM hM0 hM2
            rintro ⟨h3, r3, g⟩ ⟨hg, hSh, hM, hG⟩ ihq
            try dsimp only at *
            have hM3 := hM
            unfold MoW at hM
            refine x_iload dX9_shift_105 rfl ?_
            refine x_iload dX9_shift_107 rfl ?_
            refine x_icmp_eq dX9_shift_109 ⟨by omega, by omega⟩ ⟨by omega, by omega⟩ (fun qc109q => ?_) (fun qc109q => ?_)
            · have hgt : g = (j : Int) + v := by omega
              subst hgt
              rw [hja] at hSh
              refine x_aload_n dX9_shift_144 rfl ?_
              refine x_iload dX9_shift_145 rfl ?_
              refine x_bipush dX9_shift_147 (by decide) ?_
              refine x_iload dX9_shift_149 rfl ?_
              refine x_iadd dX9_shift_151 ?_
              refine x_iload dX9_shift_152 rfl ?_
              refine v_V dX9_shift_154 lX9_91 (c_X9_to sz hM3 (x := (f : Int)) (v := 12 + (j + v)) (z := (x : Int)) (by omega)) hM3.1 rfl rfl rfl rfl (by decide) (fun h5 ⟨hM5, hF5⟩ => ?_)
              rw [fU_o, fU_s] at hM5
              obtain ⟨hK5, hs5⟩ := hSh.fin k1.2.2.2.1 hKB hfd hm hv0 (i0 := (2 + 52 * (f : Int) + (12 + (j + v))).toNat) (by omega)
              have hS5 := k1.s.kids i4.2.1 hs5
              refine x_aload_n dX9_shift_157 rfl ?_
              refine i_V dX9_shift_158 lX9_119 (c_X9_layPlaces sz hM5 hK5 hkd1.kb hGa.2.1 hB hkd1.dp) hM5.1 rfl rfl rfl rfl (by decide) (fun z1 h6 ⟨r5, nx, wy, ol, ⟨hcs, hsame⟩, hM6, hF6⟩ => ?_)
              have hRP : RmP r5 (lyO M A.2.2.2.2.2.2.2.2) := by
                have hcs2 : ((lyO M A.2.2.2.2.2.2.2.2).length ≤ 120 ∧ z1 = 1 ∧ RmP r5 (lyO M A.2.2.2.2.2.2.2.2)) ∨ (120 < (lyO M A.2.2.2.2.2.2.2.2).length ∧ z1 = 0) := hcs
                rcases hcs2 with q | q
                · exact q.2.2
                · omega
              have hrc : ∀ y, Rc (kid A.2.2.2.2.2.2.2.1) 0 y ↔ Rc (kid M) 0 y := fun y => ⟨Rc.sub (fun a b q => (hpm a).mem_iff.mpr q), Rc.sub (fun a b q => (hpm a).mem_iff.mp q)⟩
              have hR6 : RmR r5 (A.2.2.2.2.1, A.2.2.2.2.2.1, A.2.2.2.2.2.2.1, M, lyO M A.2.2.2.2.2.2.2.2) := RmS.lay hIv (hkd1.lyO _ _ _) i4.2.1 hS5 hK5 hrc hRP hsame
              refine x_istore dX9_shift_161 rfl rfl rfl ?_
              refine x_aload_n dX9_shift_163 rfl ?_
              refine v_V dX9_shift_164 lX9_126 (c_X9_record sz hM6 (n := A.2.1.length) k3 i2) hM6.1 rfl rfl rfl rfl (by decide) (fun h8 ⟨g8, n1, hn1, hg1, hg2, hM8, hF8⟩ => ?_)
              refine x_iload dX9_shift_167 rfl ?_
              refine x_ireturn dX9_shift_169 rfl ?_
              rw [q2, q3, ← hja]
              exact ⟨_, rfl, rfl, ⟨_, _, hM8, MoC.done hC0 hIn0 hn1 hg1 (fun i hi => (hg2 i hi).trans (hga i hi)) hR6 rfl rfl⟩, ((hG.tr hF5).tr hF6).tr hF8⟩
            · refine x_aload_n dX9_shift_112 rfl ?_
              refine x_iload dX9_shift_113 rfl ?_
              refine x_bipush dX9_shift_115 (by decide) ?_
              refine x_iload dX9_shift_117 rfl ?_
              refine x_iadd dX9_shift_119 ?_
              refine x_aload_n dX9_shift_120 rfl ?_
              refine x_iload dX9_shift_121 rfl ?_
              refine x_iload dX9_shift_123 rfl ?_
              refine x_iload dX9_shift_125 rfl ?_
              refine x_iadd dX9_shift_127 ?_
              refine p_V dX9_shift_128 lX9_71 (c_X9_kid sz hM3 (x := (f : Int)) (v := g + st) (by omega)) hM3.1 rfl rfl rfl rfl (by decide) ?_
              refine v_V dX9_shift_131 lX9_91 (c_X9_to sz hM3 (x := (f : Int)) (v := 12 + g) (by omega)) hM3.1 rfl rfl rfl rfl (by decide) (fun h4 ⟨hM4, hF4⟩ => ?_)
              rw [fU_o, fU_s] at hM4
              refine x_iload dX9_shift_134 rfl ?_
              refine x_iload dX9_shift_136 rfl ?_
              refine x_iadd dX9_shift_138 ?_
              refine x_istore dX9_shift_139 rfl rfl rfl ?_
              refine x_goto dX9_shift_141 ?_
              refine ihq (h4, _, g + st) ⟨by dsimp only; omega, ?_, hM4, hG.tr hF4⟩ (by dsimp only; split <;> omega)
              rcases hst with ⟨st1, st2⟩ | ⟨st1, st2⟩
              · subst st1
                dsimp only
                rw [show (2 + 52 * (f : Int) + (12 + (g + 1))).toNat = 2 + 52 * f + (12 + (g.toNat + 1)) by omega]
                exact hSh.up hlf (by omega) (by omega) (by omega) (by omega)
              · subst st1
                dsimp only
                rw [show (2 + 52 * (f : Int) + (12 + (g + -1))).toNat = 2 + 52 * f + (12 + (g.toNat - 1)) by omega]
                exact hSh.dn hlf (by omega) (by omega) (by omega) (by omega)
          refine x_iload_n dX9_shift_90 rfl ?_
          refine x_if_ge dX9_shift_91 ⟨by omega, by omega⟩ (fun qc91q => ?_) (fun qc91q => ?_)
          · refine x_iconst dX9_shift_98 ?_
            refine x_istore dX9_shift_99 rfl rfl rfl ?_
            refine x_iload dX9_shift_101 rfl ?_
            refine x_istore dX9_shift_103 rfl rfl rfl ?_
            first | exact K105 1 (Or.inl ⟨rfl, by omega⟩) | exact K105 (-1) (Or.inr ⟨rfl, by omega⟩)
          · refine x_iconst dX9_shift_94 ?_
            refine x_goto dX9_shift_95 ?_
            refine x_istore dX9_shift_99 rfl rfl rfl ?_
            refine x_iload dX9_shift_101 rfl ?_
            refine x_istore dX9_shift_103 rfl rfl rfl ?_
            first | exact K105 1 (Or.inl ⟨rfl, by omega⟩) | exact K105 (-1) (Or.inr ⟨rfl, by omega⟩)
        · refine x_bipush dX9_shift_83 (by decide) ?_
          refine x_ireturn dX9_shift_85 rfl ?_
          obtain ⟨q2, q3⟩ : z = -5 ∧ A' = A := by
            rcases hSp with q | q | q | q
            · exact absurd q.1 hkz
            · exact absurd ⟨by omega, by omega⟩ q.2.1
            · exact ⟨q.2.2.2.1, q.2.2.2.2⟩
            · exact absurd ⟨q.2.2.1.1, by have := q.2.2.1.2; omega⟩ qc80q
          rw [q2, q3]
          exact ⟨_, rfl, rfl, ⟨w, u, hM0, hC0⟩, Fr.rf⟩
      · refine x_bipush dX9_shift_30 (by decide) ?_
        refine x_ireturn dX9_shift_32 rfl ?_
        obtain ⟨q2, q3⟩ : z = -3 ∧ A' = A := by
          rcases hSp with q | q | q | q
          · exact absurd q.1 hkz
          · exact ⟨q.2.2.1, q.2.2.2⟩
          · exact absurd q.2.1 (fun a => by omega)
          · exact absurd q.2.1 (fun a => by omega)
        rw [q2, q3]
        exact ⟨_, rfl, rfl, ⟨w, u, hM0, hC0⟩, Fr.rf⟩
  · refine x_bipush dX9_shift_12 (by decide) ?_
    refine x_ireturn dX9_shift_14 rfl ?_
    obtain ⟨q2, q3⟩ : z = -2 ∧ A' = A := by
      rcases hSp with q | q | q | q
      · exact ⟨q.2.1, q.2.2⟩
      · exact absurd (by omega) q.1
      · exact absurd (by omega) q.1
      · exact absurd (by omega) q.1
    rw [q2, q3]
    exact ⟨_, rfl, rfl, ⟨w, u, hM0, hC0⟩, Fr.rf⟩
