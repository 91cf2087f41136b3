theorem RmI.cg {r : Nat → Int} {d : Nat} {a b : List PE} (h : RmI r d a) (e : ∀ x, x ≤ d → (alv a x ↔ alv b x)) : RmI r d b := by
  intro x hx
  have h1 := h x hx
  by_cases q : alv a x
  · rw [if_pos q] at h1
    rw [h1, if_pos ((e x hx).mp q)]
  · rw [if_neg q] at h1
    rw [h1, if_neg (fun z => q ((e x hx).mpr z))]
theorem RmR.lay {r r0 : Nat → Int} {S : CS} (hI : InvS S) (hN : ∀ x, 1 ≤ x → x ≤ S.1 → (S.2.1 x).length ≤ 8) (h0 : r0 0 = (S.1 : Int)) (h1 : RmI r0 S.1 S.2.2.2.2) (h2 : RmK r0 S.1 (kid S.2.2.2.1)) (h3 : RmT r0 S.1 S.2.1 S.2.2.1) (hp : RmP r S.2.2.2.2) (e : ∀ i, i < 2134 → i ≠ 1 → r i = r0 i) : RmR r S := by
  have hd := hI.1.1
  refine ⟨(e 0 (by omega) (by omega)).trans h0, hp, fun x hx => (e _ (by omega) (by omega)).trans (h1 x hx), fun x hx => ?_, fun x hx1 hx => ?_⟩
  · have hl := (hI.1.kb.2 x hx).1
    exact ⟨(e _ (by omega) (by omega)).trans (h2 x hx).1, fun j hj => (e _ (by omega) (by omega)).trans ((h2 x hx).2 j hj)⟩
  · have hl := hN x hx1 hx
    exact ⟨(e _ (by omega) (by omega)).trans (h3 x hx1 hx).1, fun j hj => (e _ (by omega) (by omega)).trans ((h3 x hx1 hx).2.1 j hj), (e _ (by omega) (by omega)).trans (h3 x hx1 hx).2.2⟩
/-- rows where the children of a node alone were changed -/
theorem RmR.kids {r r' : Nat → Int} {S : CS} (h : RmR r S) (hI : In1 S) {p : Nat} (hs : Sm r r' (2 + 52 * p + 11) (2 + 52 * p + 52)) : r' 0 = (S.1 : Int) ∧ RmI r' S.1 S.2.2.2.2 ∧ RmT r' S.1 S.2.1 S.2.2.1 := by
  obtain ⟨g0, g1, g2, g3, g4⟩ := h
  refine ⟨(hs _ (by omega)).trans g0, fun x hx => (hs _ (by omega)).trans (g2 x hx), fun x hx1 hx => ?_⟩
  have hl := (hI.2.1.2 x hx1 hx).1
  exact ⟨(hs _ (by omega)).trans (g4 x hx1 hx).1, fun j hj => (hs _ (by omega)).trans ((g4 x hx1 hx).2.1 j hj), (hs _ (by omega)).trans (g4 x hx1 hx).2.2⟩
theorem pCnt_0 (pl : List PE) (z : Int) : 0 ≤ pCnt pl z := (cZ_r _ (by omega)).1
theorem kd_room {d : Nat} {K : Nat → List Nat} {p x : Nat} (h : InvK d (fU K p (K p ++ [x]))) : (K p).length < 40 := by
  have h1 := (nd_len (n := d) (h.2.2.1 p) (fun y hy => (h.2.2.2 p y hy).1.2))
  rw [fU_s, List.length_append, List.length_singleton] at h1
  have h2 := h.1
  omega
/-- the rows behind a node made -/
theorem RmR.made {r r1 r2 r3 : Nat → Int} {S : CS} (h : RmR r S) (hI : InvS S) (hi : In1 S) (hd : S.1 < 40) {t : List Int} (ht : t.length ≤ 8) (qe1q : r1 = zU r 0 ((S.1 + 1 : Nat) : Int))
    (hs2 : Sm r1 r2 (2 + 52 * (S.1 + 1)) (2 + 52 * (S.1 + 1) + 52)) (hi2 : r2 (2 + 52 * (S.1 + 1)) = 1 ∧ ∀ i, 1 ≤ i → i < 52 → r2 (2 + 52 * (S.1 + 1) + i) = 0)
    (hs3 : Sm r2 r3 (2 + 52 * (S.1 + 1) + 1) (2 + 52 * (S.1 + 1) + 10)) (hl3 : r3 (2 + 52 * (S.1 + 1) + 1) = t.length) (hg3 : ∀ j, j < t.length → r3 (2 + 52 * (S.1 + 1) + (2 + j)) = t.getD j 0) :
    r3 0 = ((S.1 + 1 : Nat) : Int) ∧ (∀ x, x ≤ S.1 + 1 → r3 (2 + 52 * x) = if x = S.1 + 1 ∨ alv S.2.2.2.2 x then 1 else 0) ∧ RmK r3 (S.1 + 1) (kid S.2.2.2.1) ∧ RmT r3 (S.1 + 1) (fU S.2.1 (S.1 + 1) t) (fU S.2.2.1 (S.1 + 1) 0) ∧ KB (S.1 + 1) (kid S.2.2.2.1) := by
  obtain ⟨g0, g1, g2, g3, g4⟩ := h
  have hno : kid S.2.2.2.1 (S.1 + 1) = [] := hI.1.out (by omega)
  have hkb := hI.1.kb
  have hq : ∀ i, 1 ≤ i → (i < 2 + 52 * (S.1 + 1) ∨ 2 + 52 * (S.1 + 1) + 52 ≤ i) → r3 i = r i := fun i h1 h2 => by
    rw [hs3 i (by omega), hs2 i (by omega), qe1q, zU_n (by omega)]
  refine ⟨by rw [hs3 0 (by omega), hs2 0 (by omega), qe1q, zU_s], fun x hx => ?_, fun x hx => ?_, fun x hx1 hx => ?_, ⟨by omega, fun x hx => ?_⟩⟩
  · by_cases q : x = S.1 + 1
    · rw [if_pos (Or.inl q), q, hs3 _ (by omega), hi2.1]
    · rw [hq _ (by omega) (by omega), g2 x (by omega)]
      by_cases q2 : alv S.2.2.2.2 x
      · rw [if_pos q2, if_pos (Or.inr q2)]
      · rw [if_neg q2, if_neg (fun z => z.elim q q2)]
  · by_cases q : x = S.1 + 1
    · subst q
      rw [hno, hs3 _ (by omega), hi2.2 11 (by omega) (by omega)]
      exact ⟨rfl, fun j hj => by simp at hj⟩
    · have hl := (hkb.2 x (by omega)).1
      exact ⟨(hq _ (by omega) (by omega)).trans (g3 x (by omega)).1, fun j hj => (hq _ (by omega) (by omega)).trans ((g3 x (by omega)).2 j hj)⟩
  · by_cases q : x = S.1 + 1
    · subst q
      rw [fU_s, fU_s]
      exact ⟨hl3, hg3, by rw [hs3 _ (by omega), hi2.2 10 (by omega) (by omega)]; rfl⟩
    · have hl := (hi.2.1.2 x hx1 (by omega)).1
      rw [fU_n q, fU_n q]
      exact ⟨(hq _ (by omega) (by omega)).trans (g4 x hx1 (by omega)).1, fun j hj => (hq _ (by omega) (by omega)).trans ((g4 x hx1 (by omega)).2.1 j hj), (hq _ (by omega) (by omega)).trans (g4 x hx1 (by omega)).2.2⟩
  · by_cases q : x = S.1 + 1
    · subst q
      rw [hno]
      exact ⟨by simp, fun y hy => by cases hy⟩
    · have h1 := hkb.2 x (by omega)
      exact ⟨h1.1, fun y hy => by have := h1.2 y hy; omega⟩
theorem c_X9_add (sz : Nat) {h : AH} {m : Nat} {A : AS} (hMo : MoR h m A) (hIn : In2 A) (hIv : InvS A.2.2.2.2) (hSB : StB A.2.2.2.2) {r z : Int} (hr : inR r) {A' : AS} (hSp : SpAdd A r z A') : CC mX9_add 4 0 0 [.ref m, .int (zI r)] sz h (QI (fun z' h' => z' = z ∧ MoR h' m A' ∧ Fr h h' m (m + 17))) := by
  refine CC.intro [some (.ref m), some (.int (zI r)), none, none] pfX9_add rfl rfl ?_
  obtain ⟨w, u, hM, hC⟩ := hMo
  have hM0 := hM
  unfold MoW at hM
  have hC0 := hC
  have hIn0 := hIn
  obtain ⟨k1, k2, k3, k4, k5, k6⟩ := hC
  obtain ⟨i1, i2, i3, i4, i5, i6⟩ := hIn
  have hB := i4.1
  have hL := hB.1
  have hKB := i4.2.2.1
  have hd40 := hKB.1
  have hu := k6.1
  have hl60 := i1.1
  unfold SpAdd at hSp
  dsimp only at hSp
  have hz9 := noM_no (pl := A.2.2.2.2.2.2.2.2) hB (r := r)
  refine x_aload_n dX9_add_0 rfl ?_
  refine x_iload_n dX9_add_1 rfl ?_
  refine p_V dX9_add_2 lX9_98 (c_X9_nodeOf sz hM0 k1.2.1 hB hr) hM.1 rfl rfl rfl rfl (by decide) ?_
  refine x_istore_n dX9_add_5 rfl rfl rfl ?_
  refine x_iload_n dX9_add_6 rfl ?_
  refine x_bipush dX9_add_7 (by decide) ?_
  refine x_icmp_ne dX9_add_9 ⟨by omega, by omega⟩ ⟨by omega, by omega⟩ (fun qc9q => ?_) (fun qc9q => ?_)
  · have hpu : plR A.2.2.2.2.2.2.2.2 r ≠ -2 := by omega
    obtain ⟨p1, p2, p3⟩ := hIv.nr hpu
    have hnp : noM A.2.2.2.2.2.2.2.2 r = (((gN A.2.2.2.2.2.2.2.2 (plR A.2.2.2.2.2.2.2.2 r)).toNat : Nat) : Int) := by
      unfold noM
      rw [if_neg hpu]
      exact p3
    have hKa := kd_add hIv hpu
    generalize hpp : (gN A.2.2.2.2.2.2.2.2 (plR A.2.2.2.2.2.2.2.2 r)).toNat = p at *
    rw [hnp]
    refine x_aload_n dX9_add_15 rfl ?_
    refine s_get dX9_add_16 fX9_95 hM rfl ?_
    refine x_iconst dX9_add_19 ?_
    refine x_bipush dX9_add_20 (by decide) ?_
    refine p_S dX9_add_22 lX9_101 (c_X9_in sz h (a := u 2) (b := 1) (c := 8) ⟨by omega, by omega⟩ ⟨by omega, by omega⟩ ⟨by omega, by omega⟩) rfl rfl rfl (by decide) ?_
    refine x_ifB_ne dX9_add_25 (fun qc25q => ?_) (fun qc25q => ?_)
    · refine x_aload_n dX9_add_31 rfl ?_
      refine s_get dX9_add_32 fX9_7 hM rfl ?_
      refine x_iconst dX9_add_35 ?_
      refine s_iald dX9_add_36 hM rfl rfl ⟨by omega, by omega⟩ ?_
      refine x_bipush dX9_add_37 (by decide) ?_
      rw [show w 0 (0 : Int).toNat = (A.2.2.2.2.1 : Int) from k1.1]
      refine x_icmp_ne dX9_add_39 ⟨by omega, by omega⟩ ⟨by omega, by omega⟩ (fun qc39q => ?_) (fun qc39q => ?_)
      · have hd0 : A.2.2.2.2.1 < 40 := by omega
        have hKa := hKa hd0
        obtain ⟨v, hAt, hzv⟩ : ∃ v, Att A (A.2.2.2.2.1 + 1) (fU A.2.2.2.2.2.1 (A.2.2.2.2.1 + 1) A.1) (fU A.2.2.2.2.2.2.1 (A.2.2.2.2.1 + 1) 0) A.2.2.2.2.2.2.2.1 p (A.2.2.2.2.1 + 1) v A' ∧ z = if v = -4 then -4 else (A.2.2.2.2.1 : Int) + 1 := by
          rcases hSp with q | q | q | q
          · exact absurd q.1 hpu
          · exact absurd ⟨by omega, by omega⟩ q.2.1
          · have := q.2.2.1
            omega
          · exact q.2.2.2
        have hrm := att_room hKa A.2.2.2.2.2.2.2.2
        have hK0 := kd_room (d := A.2.2.2.2.1 + 1) (K := kid A.2.2.2.2.2.2.2.1) (p := p) (x := A.2.2.2.2.1 + 1) (by rw [← kid_snoc]; exact hKa)
        refine x_aload_n dX9_add_45 rfl ?_
        refine v_V dX9_add_46 lX9_105 (c_X9_takeSpare sz hM0) hM.1 rfl rfl rfl rfl (by decide) (fun h1 ⟨ga, hga, hM1, hF1⟩ => ?_)
        have hM : SO h1 h1 m 17 9 (moF m u) (moA (fU w 3 ga)) := hM1
        have hGa := k1.c1 i4 hga
        refine x_aload_n dX9_add_49 rfl ?_
        refine s_get dX9_add_50 fX9_7 hM rfl ?_
        refine x_iconst dX9_add_53 ?_
        refine x_dup2 dX9_add_54 rfl rfl ?_
        refine s_iald dX9_add_55 hM rfl rfl ⟨by omega, by omega⟩ ?_
        rw [show fU w 3 ga 0 (0 : Int).toNat = (A.2.2.2.2.1 : Int) from k1.1]
        refine x_iconst dX9_add_56 ?_
        refine x_iadd dX9_add_57 ?_
        rw [show (A.2.2.2.2.1 : Int) + 1 = ((A.2.2.2.2.1 + 1 : Nat) : Int) by omega]
        refine s_iast dX9_add_58 hM rfl rfl ⟨by omega, by omega⟩ (fun h2 hM hF => ?_)
        have hM2 : MoW h2 m (fU (fU w 3 ga) 0 (zU (w 0) 0 ((A.2.2.2.2.1 + 1 : Nat) : Int))) u := hM.st
        have hF2 := hM.fr
        have hM : SO h2 h2 m 17 9 (moF m u) (moA (fU (fU w 3 ga) 0 (zU (w 0) 0 ((A.2.2.2.2.1 + 1 : Nat) : Int)))) := hM2
        refine x_aload_n dX9_add_59 rfl ?_
        refine s_get dX9_add_60 fX9_7 hM rfl ?_
        refine x_iconst dX9_add_63 ?_
        refine s_iald dX9_add_64 hM rfl rfl ⟨by omega, by omega⟩ ?_
        rw [show fU (fU w 3 ga) 0 (zU (w 0) 0 ((A.2.2.2.2.1 + 1 : Nat) : Int)) 0 (0 : Int).toNat = ((A.2.2.2.2.1 + 1 : Nat) : Int) from rfl]
        refine x_istore_n dX9_add_65 rfl rfl rfl ?_
        refine x_aload_n dX9_add_66 rfl ?_
        refine x_iload_n dX9_add_67 rfl ?_
        refine v_V dX9_add_68 lX9_108 (c_X9_make sz hM2 (x := A.2.2.2.2.1 + 1) (by omega)) hM2.1 rfl rfl rfl rfl (by decide) (fun h3 ⟨r2, hs2, hi2, hM3, hF3⟩ => ?_)
        refine x_aload_n dX9_add_71 rfl ?_
        refine x_iload_n dX9_add_72 rfl ?_
        refine v_V dX9_add_73 lX9_112 (c_X9_writeText sz hM3 (t := A.1) k6 i1 (by omega) (x := A.2.2.2.2.1 + 1) (by omega)) hM3.1 rfl rfl rfl rfl (by decide) (fun h4 ⟨r3, hs3, hl3, hg3, hM4, hF4⟩ => ?_)
        obtain ⟨m0, m1, m2, m3, m4⟩ := k1.made hIv i4 hd0 (t := A.1) (by omega) rfl hs2 hi2 hs3 hl3 hg3
        refine x_aload_n dX9_add_76 rfl ?_
        refine x_iload_n dX9_add_77 rfl ?_
        refine x_iload_n dX9_add_78 rfl ?_
        refine v_V dX9_add_79 lX9_115 (c_X9_addKid sz hM4 m2 m4 (p := p) (y := A.2.2.2.2.1 + 1) (by omega) (by omega) hK0) hM4.1 rfl rfl rfl rfl (by decide) (fun h5 ⟨r4, hs4, hK4, hM5, hF5⟩ => ?_)
        rw [← kid_snoc] at hK4
        refine x_aload_n dX9_add_82 rfl ?_
        refine i_V dX9_add_83 lX9_119 (c_X9_layPlaces sz hM5 hK4 hKa.kb hGa.2.1 hB hKa.dp) hM5.1 rfl rfl rfl rfl (by decide) (fun z1 h6 ⟨r5, nx, wy, ol, ⟨hcs, hsame⟩, hM6, hF6⟩ => ?_)
        have hG6 := ((((hF1.tr hF2).tr hF3).tr hF4).tr hF5).tr hF6
        have hcs2 : ((lyO (A.2.2.2.2.2.2.2.1 ++ [(p, A.2.2.2.2.1 + 1)]) A.2.2.2.2.2.2.2.2).length ≤ 120 ∧ z1 = 1 ∧ RmP r5 (lyO (A.2.2.2.2.2.2.2.1 ++ [(p, A.2.2.2.2.1 + 1)]) A.2.2.2.2.2.2.2.2)) ∨ (120 < (lyO (A.2.2.2.2.2.2.2.1 ++ [(p, A.2.2.2.2.1 + 1)]) A.2.2.2.2.2.2.2.2).length ∧ z1 = 0) := hcs
        refine x_if_ne dX9_add_86 ⟨by omega, by omega⟩ (fun qc86q => ?_) (fun qc86q => ?_)
        · obtain ⟨hlen, -, hRP⟩ : (lyO (A.2.2.2.2.2.2.2.1 ++ [(p, A.2.2.2.2.1 + 1)]) A.2.2.2.2.2.2.2.2).length ≤ 120 ∧ z1 = 1 ∧ RmP r5 (lyO (A.2.2.2.2.2.2.2.1 ++ [(p, A.2.2.2.2.1 + 1)]) A.2.2.2.2.2.2.2.2) := by
            rcases hcs2 with q | q
            · exact q
            · omega
          have hI1 : InvS (A.2.2.2.2.1 + 1, fU A.2.2.2.2.2.1 (A.2.2.2.2.1 + 1) A.1, fU A.2.2.2.2.2.2.1 (A.2.2.2.2.1 + 1) 0, (A.2.2.2.2.2.2.2.1 ++ [(p, A.2.2.2.2.1 + 1)]), lyO (A.2.2.2.2.2.2.2.1 ++ [(p, A.2.2.2.2.1 + 1)]) A.2.2.2.2.2.2.2.2) := hKa.lyO _ _ _
          have hR1 : RmR r5 (A.2.2.2.2.1 + 1, fU A.2.2.2.2.2.1 (A.2.2.2.2.1 + 1) A.1, fU A.2.2.2.2.2.2.1 (A.2.2.2.2.1 + 1) 0, (A.2.2.2.2.2.2.2.1 ++ [(p, A.2.2.2.2.1 + 1)]), lyO (A.2.2.2.2.2.2.2.1 ++ [(p, A.2.2.2.2.1 + 1)]) A.2.2.2.2.2.2.2.2) := by
            refine RmR.lay (r0 := r4) hI1 (fun x hx1 hx => ?_) ?_ ?_ hK4 ?_ hRP hsame
            · dsimp only
              by_cases q : x = A.2.2.2.2.1 + 1
              · rw [q, fU_s]
                omega
              · rw [fU_n q]
                dsimp only at hx
                exact (hSB.1.2 x hx1 (by omega)).1
            · exact (hs4 0 (by omega)).trans m0
            · intro x hx
              dsimp only at hx ⊢
              refine (hs4 _ (by omega)).trans ((m1 x hx).trans ?_)
              have qe1q := hI1.al x
              have qe2q := hIv.al x
              dsimp only at qe1q
              have hA : AdE (kid A.2.2.2.2.2.2.2.1) (kid (A.2.2.2.2.2.2.2.1 ++ [(p, A.2.2.2.2.1 + 1)])) p (A.2.2.2.2.1 + 1) := by
                rw [kid_snoc]
                exact AdE.of _ _ _
              have qe3q : (x = A.2.2.2.2.1 + 1 ∨ alv A.2.2.2.2.2.2.2.2 x) ↔ alv (lyO (A.2.2.2.2.2.2.2.1 ++ [(p, A.2.2.2.2.1 + 1)]) A.2.2.2.2.2.2.2.2) x := by
                rw [qe1q, qe2q]
                constructor
                · rintro (q | q)
                  · rw [q]
                    exact (hA.up p2).st ((hA _ _).mpr (Or.inr ⟨rfl, rfl⟩))
                  · exact hA.up q
                · intro q
                  rcases hA.rc q with a | ⟨a1, a2⟩
                  · exact Or.inr a
                  · rcases a2.un with b | ⟨y, y1, y2⟩
                    · exact Or.inl b.symm
                    · rw [hIv.1.out (a := A.2.2.2.2.1 + 1) (by omega)] at y1
                      cases y1
              by_cases q : x = A.2.2.2.2.1 + 1 ∨ alv A.2.2.2.2.2.2.2.2 x
              · rw [if_pos q, if_pos (qe3q.mp q)]
              · rw [if_neg q, if_neg (fun z => q (qe3q.mpr z))]
            · intro x hx1 hx
              dsimp only at hx
              have hl : ((fU A.2.2.2.2.2.1 (A.2.2.2.2.1 + 1) A.1) x).length ≤ 8 := by
                by_cases q : x = A.2.2.2.2.1 + 1
                · rw [q, fU_s]
                  omega
                · rw [fU_n q]
                  exact (hSB.1.2 x hx1 (by omega)).1
              exact ⟨(hs4 _ (by omega)).trans (m3 x hx1 hx).1, fun j hj => (hs4 _ (by dsimp only at hj; omega)).trans ((m3 x hx1 hx).2.1 j hj), (hs4 _ (by omega)).trans (m3 x hx1 hx).2.2⟩
          obtain ⟨q2, q3⟩ : z = ((A.2.2.2.2.1 + 1 : Nat) : Int) ∧ A' = Done A (A.2.2.2.2.1 + 1, fU A.2.2.2.2.2.1 (A.2.2.2.2.1 + 1) A.1, fU A.2.2.2.2.2.2.1 (A.2.2.2.2.1 + 1) 0, (A.2.2.2.2.2.2.2.1 ++ [(p, A.2.2.2.2.1 + 1)]), lyO (A.2.2.2.2.2.2.2.1 ++ [(p, A.2.2.2.2.1 + 1)]) A.2.2.2.2.2.2.2.2) := by
            rcases hAt with q | q
            · have h9 := pCnt_0 (lyO (A.2.2.2.2.2.2.2.1 ++ [(p, A.2.2.2.2.1 + 1)]) A.2.2.2.2.2.2.2.2) (A.2.2.2.2.1 + 1 : Nat)
              have h8 := q.2.1
              rw [if_neg (by omega)] at hzv
              exact ⟨by omega, q.2.2⟩
            · exact absurd (hrm.mpr hlen) q.1
          rw [q2, q3]
          refine x_aload_n dX9_add_96 rfl ?_
          refine v_V dX9_add_97 lX9_126 (c_X9_record sz hM6 (n := A.2.1.length) k3 i2) hM6.1 rfl rfl rfl rfl (by decide) (fun h8 ⟨g, n1, hn1, hg1, hg2, hM8, hF8⟩ => ?_)
          refine x_iload_n dX9_add_100 rfl ?_
          refine x_ireturn dX9_add_101 rfl ?_
          exact ⟨_, rfl, rfl, ⟨_, _, hM8, MoC.done hC0 hIn0 hn1 hg1 (fun i hi => (hg2 i hi).trans (hga i hi)) hR1 rfl rfl⟩, hG6.tr hF8⟩
        · refine x_aload_n dX9_add_89 rfl ?_
          refine v_V dX9_add_90 lX9_123 (c_X9_putBack sz hM6) hM6.1 rfl rfl rfl rfl (by decide) (fun h7 ⟨g7, hg7, hM7, hF7⟩ => ?_)
          refine x_bipush dX9_add_93 (by decide) ?_
          refine x_ireturn dX9_add_95 rfl ?_
          obtain ⟨q2, q3⟩ : z = -4 ∧ A' = A := by
            rcases hAt with q | q
            · have := hrm.mp q.1
              omega
            · rw [if_pos q.2.1] at hzv
              exact ⟨hzv, q.2.2⟩
          rw [q2, q3]
          exact ⟨_, rfl, rfl, ⟨_, _, hM7, k1.c1 i4 (fun i hi => (hg7 i hi).trans (hga i hi)), k2, k3, k4, k5, k6⟩, hG6.tr hF7⟩
      · refine x_bipush dX9_add_42 (by decide) ?_
        refine x_ireturn dX9_add_44 rfl ?_
        obtain ⟨q2, q3⟩ : z = -4 ∧ A' = A := by
          rcases hSp with q | q | q | q
          · exact absurd q.1 hpu
          · exact absurd ⟨by omega, by omega⟩ q.2.1
          · exact ⟨q.2.2.2.1, q.2.2.2.2⟩
          · have := q.2.2.1
            omega
        rw [q2, q3]
        exact ⟨_, rfl, rfl, ⟨w, u, hM0, hC0⟩, Fr.rf⟩
    · refine x_bipush dX9_add_28 (by decide) ?_
      refine x_ireturn dX9_add_30 rfl ?_
      obtain ⟨q2, q3⟩ : z = -3 ∧ A' = A := by
        rcases hSp with q | q | q | q
        · exact absurd q.1 hpu
        · exact ⟨q.2.2.1, q.2.2.2⟩
        · exact absurd ⟨by have := q.2.1.1; omega, by have := q.2.1.2; omega⟩ qc25q
        · exact absurd ⟨by have := q.2.1.1; omega, by have := q.2.1.2; omega⟩ qc25q
      rw [q2, q3]
      exact ⟨_, rfl, rfl, ⟨w, u, hM0, hC0⟩, Fr.rf⟩
  · refine x_bipush dX9_add_12 (by decide) ?_
    refine x_ireturn dX9_add_14 rfl ?_
    obtain ⟨q2, q3⟩ : z = -2 ∧ A' = A := by
      rcases hSp with q | q | q | q
      · exact ⟨q.2.1, q.2.2⟩
      · exact absurd (by omega) q.1
      · exact absurd (by omega) q.1
      · exact absurd (by omega) q.1
    rw [q2, q3]
    exact ⟨_, rfl, rfl, ⟨w, u, hM0, hC0⟩, Fr.rf⟩
