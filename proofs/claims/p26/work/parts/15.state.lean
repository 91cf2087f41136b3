-- a state: nodes made, texts, marks, pairs, places
abbrev CS : Type := Nat × (Nat → List Int) × (Nat → Nat) × List LK × List PE
theorem SO.st2 {h : AH} {p w ci : Nat} {fs : List Value} {as : List (Nat × Nat × (Nat → Int))} (h1 : h p = some (xO ci fs)) (h2 : ∀ (j : Nat) (a : Nat × Nat × (Nat → Int)), as[j]? = some a → h (p + 1 + j) = some (.inl a)) (h3 : as.length < w) : SO h h p w ci fs as := ⟨h1, h2, h3, fun _ _ => rfl⟩
theorem PlR.mv {h h' : AH} {p lo hi : Nat} {pl : List PE} (a : PlR h p pl) (f : Fr h h' lo hi) (d : hi ≤ p ∨ p + 4 ≤ lo) : PlR h' p pl := by
  obtain ⟨n, l, fo, hP, hB, hH⟩ := a
  exact ⟨n, l, fo, hP.mv f d, hB, hH⟩
theorem NoR.mv {h h' : AH} {p lo hi d : Nat} {tx : Nat → List Int} {mk : Nat → Nat} (a : NoR h p d tx mk) (f : Fr h h' lo hi) (e : hi ≤ p ∨ p + 4 ≤ lo) : NoR h' p d tx mk := by
  obtain ⟨n, l, fo, hP, hB, hH⟩ := a
  exact ⟨n, l, fo, hP.mv f e, hB, hH⟩
theorem LiR.mv {h h' : AH} {p lo hi : Nat} {L : List LK} (a : LiR h p L) (f : Fr h h' lo hi) (e : hi ≤ p ∨ p + 3 ≤ lo) : LiR h' p L := by
  obtain ⟨n, l, hP, hB, hH⟩ := a
  exact ⟨n, l, hP.mv f e, hB, hH⟩
theorem TyR.mv {h h' : AH} {p lo hi : Nat} {t : List Int} (a : TyR h p t) (f : Fr h h' lo hi) (e : hi ≤ p ∨ p + 2 ≤ lo) : TyR h' p t := by
  obtain ⟨n, hP, hB, hH⟩ := a
  exact ⟨n, hP.mv f e, hB, hH⟩
theorem PlR.so {h : AH} {p : Nat} {pl : List PE} (a : PlR h p pl) : ∃ n l f, SO h h p 4 3 (plF p pl.length) (plA n l f) := by
  obtain ⟨n, l, fo, hP, -⟩ := a
  exact ⟨n, l, fo, hP⟩
theorem NoR.so {h : AH} {p d : Nat} {tx : Nat → List Int} {mk : Nat → Nat} (a : NoR h p d tx mk) : ∃ m l c, SO h h p 4 2 (noF p d) (noA m l c) := by
  obtain ⟨n, l, fo, hP, -⟩ := a
  exact ⟨n, l, fo, hP⟩
theorem LiR.so {h : AH} {p : Nat} {L : List LK} (a : LiR h p L) : ∃ x y, SO h h p 3 1 (liF p L.length) (liA x y) := by
  obtain ⟨n, l, hP, -⟩ := a
  exact ⟨n, l, hP⟩
theorem TyR.so {h : AH} {p : Nat} {t : List Int} (a : TyR h p t) : ∃ c, SO h h p 2 7 (tyF p t.length) [(0, 60, c)] := by
  obtain ⟨n, hP, -⟩ := a
  exact ⟨n, hP⟩
theorem PlR.B {h : AH} {p : Nat} {pl : List PE} (a : PlR h p pl) : PlB pl := by
  obtain ⟨n, l, fo, hP, hB, -⟩ := a
  exact hB
theorem LiR.B {h : AH} {p : Nat} {L : List LK} (a : LiR h p L) : LiB L := by
  obtain ⟨n, l, hP, hB, -⟩ := a
  exact hB
theorem NoR.B {h : AH} {p d : Nat} {tx : Nat → List Int} {mk : Nat → Nat} (a : NoR h p d tx mk) : NoB d tx mk := by
  obtain ⟨n, l, fo, hP, hB, -⟩ := a
  exact hB
theorem TyR.B {h : AH} {p : Nat} {t : List Int} (a : TyR h p t) : TyB t := by
  obtain ⟨n, hP, hB, -⟩ := a
  exact hB
abbrev stF (q : Nat) : List Value := [.ref (q + 1), .ref (q + 5), .ref (q + 8)]
def StR (h : AH) (q : Nat) (S : CS) : Prop := SO h h q 1 6 (stF q) [] ∧ NoR h (q + 1) S.1 S.2.1 S.2.2.1 ∧ LiR h (q + 5) S.2.2.2.1 ∧ PlR h (q + 8) S.2.2.2.2
theorem StR.mv {h h' : AH} {q lo hi : Nat} {S : CS} (a : StR h q S) (f : Fr h h' lo hi) (e : hi ≤ q ∨ q + 12 ≤ lo) : StR h' q S := ⟨a.1.mv f (by omega), a.2.1.mv f (by omega), a.2.2.1.mv f (by omega), a.2.2.2.mv f (by omega)⟩

theorem c_X6_copyFrom (sz : Nat) {h : AH} {q r : Nat} {S S0 : CS} (hSt : StR h q S0) (hUt : StR h r S) (hd : q + 12 ≤ r ∨ r + 12 ≤ q) : CC mX6_copyFrom 2 0 0 [.ref q, .ref r] sz h (QV (fun h' => StR h' q S ∧ Fr h h' q (q + 12))) := by
  refine CC.intro [some (.ref q), some (.ref r)] pfX6_copyFrom rfl rfl ?_
  obtain ⟨hS, hN, hL, hP⟩ := hSt
  obtain ⟨hU, hV, hW, hZ⟩ := hUt
  obtain ⟨_, _, _, hNs⟩ := hN.so
  refine x_aload_n dX6_copyFrom_0 rfl ?_
  refine s_get dX6_copyFrom_1 fX6_12 hS rfl ?_
  refine x_aload_n dX6_copyFrom_4 rfl ?_
  refine s_get dX6_copyFrom_5 fX6_12 hU rfl ?_
  refine v_V dX6_copyFrom_8 lX6_32 (c_X2_copyFrom sz hN hV (by omega)) hNs.1 rfl rfl rfl rfl (by decide) (fun h ⟨hN, hF⟩ => ?_)
  have hS := hS.mv hF (by omega)
  have hU := hU.mv hF (by omega)
  have hL := hL.mv hF (by omega)
  have hP := hP.mv hF (by omega)
  have hW := hW.mv hF (by omega)
  have hZ := hZ.mv hF (by omega)
  have hF0 := hF.wd (lo' := q) (hi' := q + 12) (by omega) (by omega)
  obtain ⟨_, _, hLs⟩ := hL.so
  refine x_aload_n dX6_copyFrom_11 rfl ?_
  refine s_get dX6_copyFrom_12 fX6_21 hS rfl ?_
  refine x_aload_n dX6_copyFrom_15 rfl ?_
  refine s_get dX6_copyFrom_16 fX6_21 hU rfl ?_
  refine v_V dX6_copyFrom_19 lX6_36 (c_X1_copyFrom sz hL hW (by omega)) hLs.1 rfl rfl rfl rfl (by decide) (fun h ⟨hL, hF⟩ => ?_)
  have hS := hS.mv hF (by omega)
  have hU := hU.mv hF (by omega)
  have hN := hN.mv hF (by omega)
  have hP := hP.mv hF (by omega)
  have hZ := hZ.mv hF (by omega)
  have hF0 := hF0.tr (hF.wd (lo' := q) (hi' := q + 12) (by omega) (by omega))
  obtain ⟨_, _, _, hPs⟩ := hP.so
  refine x_aload_n dX6_copyFrom_22 rfl ?_
  refine s_get dX6_copyFrom_23 fX6_28 hS rfl ?_
  refine x_aload_n dX6_copyFrom_26 rfl ?_
  refine s_get dX6_copyFrom_27 fX6_28 hU rfl ?_
  refine v_V dX6_copyFrom_30 lX6_39 (c_X3_copyFrom sz hP hZ (by omega)) hPs.1 rfl rfl rfl rfl (by decide) (fun h ⟨hP, hF⟩ => ?_)
  refine x_vreturn dX6_copyFrom_33 rfl ?_
  exact ⟨rfl, ⟨hS.mv hF (by omega), hN.mv hF (by omega), hL.mv hF (by omega), hP⟩, hF0.tr (hF.wd (lo' := q) (hi' := q + 12) (by omega) (by omega))⟩
theorem c_X6_clearNodes (sz : Nat) {h : AH} {q : Nat} {S : CS} (hSt : StR h q S) : CC mX6_clearNodes 0 0 0 [.ref q] sz h (QV (fun h' => StR h' q (0, S.2.1, S.2.2.1, [], S.2.2.2.2) ∧ Fr h h' q (q + 12))) := by
  refine CC.intro [some (.ref q)] pfX6_clearNodes rfl rfl ?_
  obtain ⟨hS, hN, hL, hP⟩ := hSt
  obtain ⟨_, _, _, hNs, -, -⟩ := hN
  obtain ⟨_, _, hLs, -, -⟩ := hL
  refine x_aload_n dX6_clearNodes_0 rfl ?_
  refine s_get dX6_clearNodes_1 fX6_12 hS rfl ?_
  refine x_iconst dX6_clearNodes_4 ?_
  refine s_puti dX6_clearNodes_5 fX6_42 hNs rfl (fun h hNs hF => ?_)
  have hS := hS.mv hF (by omega)
  have hLs := hLs.mv hF (by omega)
  have hP := hP.mv hF (by omega)
  have hF0 := hF.wd (lo' := q) (hi' := q + 12) (by omega) (by omega)
  refine x_aload_n dX6_clearNodes_8 rfl ?_
  refine s_get dX6_clearNodes_9 fX6_21 hS rfl ?_
  refine x_iconst dX6_clearNodes_12 ?_
  refine s_puti dX6_clearNodes_13 fX6_46 hLs rfl (fun h hLs hF => ?_)
  refine x_vreturn dX6_clearNodes_16 rfl ?_
  exact ⟨rfl, ⟨hS.mv hF (by omega), ⟨_, _, _, hNs.mv hF (by omega), ⟨by omega, fun i h1 h2 => by omega⟩, fun i h1 h2 => by omega⟩, ⟨_, _, hLs.st, ⟨by simp, by simp⟩, fun i hi => by simp at hi⟩, hP.mv hF (by omega)⟩, hF0.tr (hF.wd (lo' := q) (hi' := q + 12) (by omega) (by omega))⟩
/-- the depth below a node is n at most -/
def Dp (K : Nat → List Nat) : Nat → Nat → Prop
  | 0, x => K x = []
  | n + 1, x => ∀ c ∈ K x, Dp K n c
/-- the places below: bef are the places before, o is where the parent was among them -/
def lyF (K : Nat → List Nat) (bef : List PE) : Nat → Nat → Int → List Nat → List PE
  | 0, _, _, _ => []
  | n + 1, lev, o, cs => cs.flatMap fun c => (c, lev, (gF bef (pChl bef o c)).toNat) :: lyF K bef n (lev + 1) (pChl bef o c) (K c)
theorem lyF_app (K : Nat → List Nat) (bef : List PE) (n lev : Nat) (o : Int) (a b : List Nat) : lyF K bef n lev o (a ++ b) = lyF K bef n lev o a ++ lyF K bef n lev o b := by
  cases n with
  | zero => rfl
  | succ n => rw [lyF, lyF, lyF, List.flatMap_append]
theorem lyF_one (K : Nat → List Nat) (bef : List PE) (n lev : Nat) (o : Int) (c : Nat) : lyF K bef (n + 1) lev o [c] = (c, lev, (gF bef (pChl bef o c)).toNat) :: lyF K bef n (lev + 1) (pChl bef o c) (K c) := by
  rw [lyF, List.flatMap_cons, List.flatMap_nil, List.append_nil]
theorem lyF_nil (K : Nat → List Nat) (bef : List PE) (n lev : Nat) (o : Int) : lyF K bef n lev o [] = [] := by
  cases n <;> rfl
theorem pChl_r {bef : List PE} (z x : Int) (hz : z < bef.length) : -2 ≤ pChl bef z x ∧ (pChl bef z x < bef.length ∨ pChl bef z x = -2) := by
  unfold pChl
  split
  · omega
  · split
    · have := fZ_spec (pChQ bef (gV bef z + 1) x) bef.length (i := z + 1) (by omega) (by omega)
      omega
    · omega
theorem kid_mem {L : List LK} {x c : Nat} : c ∈ kid L x ↔ (x, c) ∈ L := by
  unfold kid
  constructor
  · intro h
    obtain ⟨q, h1, h2⟩ := List.mem_map.mp h
    obtain ⟨h3, h4⟩ := List.mem_filter.mp h1
    have h5 : q.1 = x := by simpa using h4
    rw [← h2, ← h5]
    exact h3
  · intro h
    exact List.mem_map.mpr ⟨(x, c), List.mem_filter.mpr ⟨h, by simp⟩, rfl⟩
/-- the struct that grow looks the earlier places up in: another one, or its own when all is new -/
def Bf (h : AH) (pb q : Nat) (bef : List PE) (old : Int) : Prop := (PlR h pb bef ∧ (pb + 4 ≤ q ∨ q + 12 ≤ pb) ∧ -2 ≤ old ∧ old < bef.length) ∨ (pb = q + 8 ∧ old = -2 ∧ bef = [])
theorem Bf.mv {h h' : AH} {pb q : Nat} {bef : List PE} {old : Int} (a : Bf h pb q bef old) (f : Fr h h' (q + 8) (q + 12)) : Bf h' pb q bef old := by
  rcases a with ⟨a1, a2, a3⟩ | a
  · exact Or.inl ⟨a1.mv f (by omega), a2, a3⟩
  · exact Or.inr a
theorem Bf.ch {h : AH} {pb q : Nat} {bef : List PE} {old : Int} (a : Bf h pb q bef old) (x : Nat) : Bf h pb q bef (pChl bef old x) := by
  rcases a with ⟨a1, a2, a3, a4⟩ | ⟨a1, a2, a3⟩
  · refine Or.inl ⟨a1, a2, ?_, ?_⟩
    · exact (pChl_r old x a4).1
    · rcases (pChl_r old x a4).2 with q1 | q1
      · exact q1
      · rw [q1]; omega
  · refine Or.inr ⟨a1, ?_, a3⟩
    rw [a2, a3]
    rfl
theorem Bf.use {h : AH} {pb q : Nat} {bef pl : List PE} {old : Int} (a : Bf h pb q bef old) (hP : PlR h (q + 8) pl) : ∃ bl, PlR h pb bl ∧ (∀ x : Int, pChl bl old x = pChl bef old x) ∧ gF bl old = gF bef old ∧ -2 ≤ old ∧ old < bl.length := by
  rcases a with ⟨a1, a2, a3, a4⟩ | ⟨a1, a2, a3⟩
  · exact ⟨bef, a1, fun _ => rfl, rfl, a3, a4⟩
  · refine ⟨pl, by rw [a1]; exact hP, fun x => ?_, ?_, by omega, by omega⟩
    · rw [a2]
      rfl
    · rw [a2]
      rfl
theorem gF_n {bef : List PE} (hB : PlB bef) (z : Int) : gF bef z = ((gF bef z).toNat : Int) ∧ (gF bef z).toNat ≤ 1 := by
  have := gF_r hB z
  omega
theorem Bf.f1 {h : AH} {pb q : Nat} {bef : List PE} {old : Int} (a : Bf h pb q bef old) (z : Int) : gF bef z = ((gF bef z).toNat : Int) ∧ (gF bef z).toNat ≤ 1 := by
  rcases a with ⟨a1, a2, a3, a4⟩ | ⟨a1, a2, a3⟩
  · exact gF_n a1.B z
  · rw [a3]
    exact gF_n ⟨by simp, by simp⟩ z
theorem gN_last {pl : List PE} {a b c : Nat} : gN (pl ++ [(a, b, c)]) pl.length = a := by
  unfold gN
  rw [if_pos (by omega), Int.toNat_natCast, pg_app_eq.1]
theorem gN_old {pl t : List PE} {z : Int} (h : z < pl.length) : gN (pl ++ t) z = gN pl z := by
  unfold gN
  by_cases q : 0 ≤ z
  · rw [if_pos q, if_pos q, (pg_app_lt (by omega)).1]
  · rw [if_neg q, if_neg q]

set_option maxHeartbeats 4000000 in
theorem c_X6_grow : ∀ (n : Nat) (sz : Nat) {h : AH} {q pb d x lev : Nat} {tx : Nat → List Int} {mk : Nat → Nat} {L : List LK} {pl bef : List PE} {z old : Int} (hSt : StR h q (d, tx, mk, L, pl)) (hBf : Bf h pb q bef old) (hz : -1 ≤ z) (hz1 : z < pl.length) (hx : gN pl z = x) (hD : Dp (kid L) n x) (hl0 : 1 ≤ lev) (hl : lev + n ≤ 41), CC mX6_grow (3 + n) 0 0 [.ref q, .ref pb, .int (zI z), .int (zI old), .int (zI lev)] sz h (QI (fun z h' => ((pl ++ lyF (kid L) bef n lev old (kid L x)).length ≤ 120 ∧ z = 1 ∧ StR h' q (d, tx, mk, L, pl ++ lyF (kid L) bef n lev old (kid L x)) ∧ Fr h h' (q + 8) (q + 12)) ∨ (120 < (pl ++ lyF (kid L) bef n lev old (kid L x)).length ∧ z = 0 ∧ (∃ pl', StR h' q (d, tx, mk, L, pl')) ∧ Fr h h' (q + 8) (q + 12)))) := by
  intro n
  induction n with
  | zero =>
    intro sz h q pb d x lev tx mk L pl bef z old hSt hBf hz hz1 hx hD hl0 hl
    have hD0 : kid L x = [] := hD
    have hBf0 := hBf
    obtain ⟨hS, hN, hL, hP⟩ := hSt
    dsimp only at hN hL hP
    have hB := hP.B
    have hBl := hB.1
    have hLB := hL.B
    have hLl := hLB.1
    have hxr := gN_r hB z
    obtain ⟨ka, kb, hLs, hLb, hLh⟩ := id hL
    obtain ⟨_, _, _, hPs⟩ := hP.so
    refine CC.intro [some (.ref q), some (.ref pb), some (.int (zI z)), some (.int (zI old)), some (.int (zI lev)), none, none, none, none, none, none] pfX6_grow rfl rfl ?_
    refine x_aload_n dX6_grow_0 rfl ?_
    refine s_get dX6_grow_1 fX6_21 hS rfl ?_
    refine x_astore dX6_grow_4 rfl rfl rfl ?_
    refine x_aload_n dX6_grow_6 rfl ?_
    refine s_get dX6_grow_7 fX6_28 hS rfl ?_
    refine x_iload_n dX6_grow_10 rfl ?_
    refine p_V dX6_grow_11 lX6_54 (c_X3_nodeOf sz hP (z := z) ⟨by omega, by omega⟩) hPs.1 rfl rfl rfl rfl (by decide) ?_
    rw [hx]
    refine x_istore dX6_grow_14 rfl rfl rfl ?_
    refine x_iconst dX6_grow_16 ?_
    refine x_istore dX6_grow_17 rfl rfl rfl ?_
    refine x_loop (fun s : AH × Int => s.1) (fun s => [some (.ref q), some (.ref pb), some (.int (zI z)), some (.int (zI old)), some (.int (zI lev)), some (.ref (q + 5)), some (.int (zI x)), some (.int (zI s.2)), none, none, none]) (fun s => s.1 = h ∧ 0 ≤ s.2 ∧ s.2 ≤ L.length) (fun s => (L.length - s.2).toNat) (h, 0) rfl rfl ⟨rfl, by dsimp only; omega, by dsimp only; omega⟩ ?_
    rintro ⟨h2, i⟩ ⟨hh2, hi0, hi1⟩ ihq
    try dsimp only at *
    subst hh2
    have hpre : i < L.length → ka i.toNat = (lp L i.toNat).1 ∧ (lp L i.toNat).1 ≤ 40 ∧ (lp L i.toNat).1 ≠ x := fun hlt => ⟨(hLh i.toNat (by omega)).1, (lp_r hLb (by omega)).1, fun q1 => by
      have q2 : (lp L i.toNat).2 ∈ kid L x := kid_mem.mpr (by rw [← q1]; exact lp_mem (by omega))
      rw [hD0] at q2
      cases q2⟩
    refine x_iload dX6_grow_19 rfl ?_
    refine x_aload dX6_grow_21 rfl ?_
    refine s_get dX6_grow_23 fX6_46 hLs rfl ?_
    refine x_icmp_ge dX6_grow_26 ⟨by omega, by omega⟩ ⟨by omega, by omega⟩ (fun qc26q => ?_) (fun qc26q => ?_)
    · refine x_iconst dX6_grow_111 ?_
      refine x_zreturn dX6_grow_112 rfl (by decide) ?_
      refine ⟨_, rfl, Or.inl ⟨?_, rfl, ?_, Fr.rf⟩⟩
      · rw [hD0, lyF_nil, List.append_nil]
        exact hB.1
      · rw [hD0, lyF_nil, List.append_nil]
        exact ⟨hS, hN, hL, hP⟩
    · obtain ⟨qe1q, qe2q, qe3q⟩ := hpre (by omega)
      refine x_aload dX6_grow_29 rfl ?_
      refine s_get dX6_grow_31 fX6_58 hLs rfl ?_
      refine x_iload dX6_grow_34 rfl ?_
      refine s_iald dX6_grow_36 hLs rfl rfl ⟨by omega, by omega⟩ ?_
      refine x_iload dX6_grow_37 rfl ?_
      refine x_icmp_ne dX6_grow_39 ⟨by omega, by omega⟩ ⟨by omega, by omega⟩ (fun qc39q => ?_) (fun qc39q => ?_)
      · refine x_iinc dX6_grow_105 rfl rfl rfl ?_
        refine x_goto dX6_grow_108 ?_
        exact ihq (_, i + 1) ⟨rfl, by dsimp only; omega, by dsimp only; omega⟩ (by dsimp only; omega)
      · exact absurd qc39q (by omega)
  | succ n ihn =>
    intro sz h q pb d x lev tx mk L pl bef z old hSt hBf hz hz1 hx hD hl0 hl
    have hD0 : ∀ c ∈ kid L x, Dp (kid L) n c := hD
    have hSt0 := hSt
    obtain ⟨hS, hN, hL, hP⟩ := hSt
    dsimp only at hN hL hP
    have hB := hP.B
    have hBl := hB.1
    have hLB := hL.B
    have hLl := hLB.1
    have hxr := gN_r hB z
    obtain ⟨_, _, _, hPs⟩ := hP.so
    obtain ⟨_, _, hLs⟩ := hL.so
    obtain ⟨bl0, -, -, -, hold0, hold1⟩ := hBf.use hP
    refine CC.intro [some (.ref q), some (.ref pb), some (.int (zI z)), some (.int (zI old)), some (.int (zI lev)), none, none, none, none, none, none] pfX6_grow rfl rfl ?_
    refine x_aload_n dX6_grow_0 rfl ?_
    refine s_get dX6_grow_1 fX6_21 hS rfl ?_
    refine x_astore dX6_grow_4 rfl rfl rfl ?_
    refine x_aload_n dX6_grow_6 rfl ?_
    refine s_get dX6_grow_7 fX6_28 hS rfl ?_
    refine x_iload_n dX6_grow_10 rfl ?_
    refine p_V dX6_grow_11 lX6_54 (c_X3_nodeOf sz hP (z := z) ⟨by omega, by omega⟩) hPs.1 rfl rfl rfl rfl ⟨⟨by show 1 + 1 ≤ 3 + (n + 1); omega, by show 8 + (2 + 11) + 40 * 1 ≤ 40 * (3 + (n + 1)); omega⟩, Nat.zero_le _, Nat.zero_le _⟩ ?_
    rw [hx]
    refine x_istore dX6_grow_14 rfl rfl rfl ?_
    refine x_iconst dX6_grow_16 ?_
    refine x_istore dX6_grow_17 rfl rfl rfl ?_
    refine x_loop (fun s : AH × Int => s.1) (fun s => [some (.ref q), some (.ref pb), some (.int (zI z)), some (.int (zI old)), some (.int (zI lev)), some (.ref (q + 5)), some (.int (zI x)), some (.int (zI s.2)), none, none, none]) (fun s => 0 ≤ s.2 ∧ s.2 ≤ L.length ∧ (pl ++ lyF (kid L) bef (n + 1) lev old (kid (L.take s.2.toNat) x)).length ≤ 120 ∧ StR s.1 q (d, tx, mk, L, pl ++ lyF (kid L) bef (n + 1) lev old (kid (L.take s.2.toNat) x)) ∧ Bf s.1 pb q bef old ∧ Fr h s.1 (q + 8) (q + 12)) (fun s => (L.length - s.2).toNat) (h, 0) rfl rfl ⟨by dsimp only; omega, by dsimp only; omega, by dsimp only; rw [show kid (L.take (0 : Int).toNat) x = [] from rfl, lyF_nil, List.append_nil]; exact hB.1, by dsimp only; rw [show kid (L.take (0 : Int).toNat) x = [] from rfl, lyF_nil, List.append_nil]; exact hSt0, hBf, Fr.rf⟩ ?_
    clear hSt0 hS hN hL hP hPs hLs hBf
    rintro ⟨h2, i⟩ ⟨hi0, hi1, hlen, hSt, hBf, hFr⟩ ihq
    try dsimp only at *
    have hSt0 := hSt
    obtain ⟨hS, hN, hL, hP⟩ := hSt
    dsimp only at hN hL hP
    obtain ⟨ka, kb, hLs, hLb, hLh⟩ := id hL
    obtain ⟨_, _, _, hPs⟩ := hP.so
    obtain ⟨bl, hbl, hblc, hblf, -, hbll⟩ := hBf.use hP
    obtain ⟨_, _, _, hBs⟩ := hbl.so
    have hblB := hbl.B
    have hpre : i < L.length → ka i.toNat = (lp L i.toNat).1 ∧ kb i.toNat = (lp L i.toNat).2 ∧ (lp L i.toNat).1 ≤ 40 ∧ 1 ≤ (lp L i.toNat).2 ∧ (lp L i.toNat).2 ≤ 40 := fun hlt => ⟨(hLh i.toNat (by omega)).1, (hLh i.toNat (by omega)).2, (lp_r hLb (by omega)).1, (lp_r hLb (by omega)).2.1, (lp_r hLb (by omega)).2.2⟩
    have hnx : i < L.length → kid (L.take (i + 1).toNat) x = kid (L.take i.toNat) x ++ kid [lp L i.toNat] x := fun hlt => by rw [lp_take hi0 hlt, kid_app]
    have hall : i < L.length → (lp L i.toNat).1 = x → ∃ M, kid L x = kid (L.take i.toNat) x ++ (lp L i.toNat).2 :: M := fun hlt q1 => by
      have q2 := lp_split (L := L) (i := i.toNat) (by omega)
      rw [show lp L i.toNat = (x, (lp L i.toNat).2) from Prod.ext q1 rfl] at q2
      exact ⟨kid (L.drop (i.toNat + 1)) x, by conv => lhs; rw [q2, kid_app, kid_hit]⟩
    refine x_iload dX6_grow_19 rfl ?_
    refine x_aload dX6_grow_21 rfl ?_
    refine s_get dX6_grow_23 fX6_46 hLs rfl ?_
    refine x_icmp_ge dX6_grow_26 ⟨by omega, by omega⟩ ⟨by omega, by omega⟩ (fun qc26q => ?_) (fun qc26q => ?_)
    · refine x_iconst dX6_grow_111 ?_
      refine x_zreturn dX6_grow_112 rfl (by decide) ?_
      refine ⟨_, rfl, Or.inl ⟨?_, rfl, ?_, hFr⟩⟩
      · rw [List.take_of_length_le (by omega)] at hlen
        exact hlen
      · rw [List.take_of_length_le (by omega)] at hSt0
        exact hSt0
    · obtain ⟨qe1q, qe2q, qe3q, qe4q, qe5q⟩ := hpre (by omega)
      refine x_aload dX6_grow_29 rfl ?_
      refine s_get dX6_grow_31 fX6_58 hLs rfl ?_
      refine x_iload dX6_grow_34 rfl ?_
      refine s_iald dX6_grow_36 hLs rfl rfl ⟨by omega, by omega⟩ ?_
      refine x_iload dX6_grow_37 rfl ?_
      refine x_icmp_ne dX6_grow_39 ⟨by omega, by omega⟩ ⟨by omega, by omega⟩ (fun qc39q => ?_) (fun qc39q => ?_)
      · refine x_iinc dX6_grow_105 rfl rfl rfl ?_
        refine x_goto dX6_grow_108 ?_
        first
          | (refine ihq (h2, i + 1) ⟨by dsimp only; omega, by dsimp only; omega, ?_, ?_, hBf, hFr⟩ (by dsimp only; omega)
             · dsimp only
               rw [hnx (by omega), show lp L i.toNat = ((lp L i.toNat).1, (lp L i.toNat).2) from rfl, kid_miss _ (by dsimp only; omega), kid_nil, List.append_nil]
               exact hlen
             · dsimp only
               rw [hnx (by omega), show lp L i.toNat = ((lp L i.toNat).1, (lp L i.toNat).2) from rfl, kid_miss _ (by dsimp only; omega), kid_nil, List.append_nil]
               exact hSt0)
          | (refine x_kill 8 (x_kill 9 (x_kill 10 ?_))
             exact ihq (h6, i + 1) ⟨by dsimp only; omega, by dsimp only; omega, by dsimp only; rw [qe11q]; exact q6, by dsimp only; rw [qe11q]; exact q8, (hBf.mv q5).mv q9, (hFr.tr q5).tr q9⟩ (by dsimp only; omega))
      · have qe6q : (lp L i.toNat).1 = x := by omega
        obtain ⟨M1, qe7q⟩ := hall (by omega) qe6q
        have qe8q : kid (L.take (i + 1).toNat) x = kid (L.take i.toNat) x ++ [(lp L i.toNat).2] := by rw [hnx (by omega), show lp L i.toNat = (x, (lp L i.toNat).2) from Prod.ext qe6q rfl, kid_hit, kid_nil]
        have qe9q : Dp (kid L) n (lp L i.toNat).2 := hD0 _ (by rw [qe7q]; exact List.mem_append_right _ List.mem_cons_self)
        have hBc := hBf.ch (lp L i.toNat).2
        have hf1 := hBf.f1 (pChl bef old (lp L i.toNat).2)
        have qe10q : pl ++ lyF (kid L) bef (n + 1) lev old (kid L x) = (pl ++ lyF (kid L) bef (n + 1) lev old (kid (L.take i.toNat) x)) ++ ((lp L i.toNat).2, lev, (gF bef (pChl bef old (lp L i.toNat).2)).toNat) :: (lyF (kid L) bef n (lev + 1) (pChl bef old (lp L i.toNat).2) (kid L (lp L i.toNat).2) ++ lyF (kid L) bef (n + 1) lev old M1) := by rw [qe7q, lyF_app, show (lp L i.toNat).2 :: M1 = [(lp L i.toNat).2] ++ M1 from rfl, lyF_app, lyF_one]; simp
        have qe11q : pl ++ lyF (kid L) bef (n + 1) lev old (kid (L.take (i + 1).toNat) x) = (pl ++ lyF (kid L) bef (n + 1) lev old (kid (L.take i.toNat) x)) ++ [((lp L i.toNat).2, lev, (gF bef (pChl bef old (lp L i.toNat).2)).toNat)] ++ lyF (kid L) bef n (lev + 1) (pChl bef old (lp L i.toNat).2) (kid L (lp L i.toNat).2) := by rw [qe8q, lyF_app, lyF_one]; simp
        generalize hA : pl ++ lyF (kid L) bef (n + 1) lev old (kid (L.take i.toNat) x) = acc at *
        refine x_aload dX6_grow_42 rfl ?_
        refine s_get dX6_grow_44 fX6_62 hLs rfl ?_
        refine x_iload dX6_grow_47 rfl ?_
        refine s_iald dX6_grow_49 hLs rfl rfl ⟨by omega, by omega⟩ ?_
        refine x_istore dX6_grow_50 rfl rfl rfl ?_
        refine x_aload_n dX6_grow_52 rfl ?_
        refine x_iload_n dX6_grow_53 rfl ?_
        refine x_iload dX6_grow_54 rfl ?_
        refine p_V dX6_grow_56 lX6_65 (c_X3_childPlace sz hbl (z := old) (x := kb i.toNat) hold0 hbll ⟨by omega, by omega⟩) hBs.1 rfl rfl rfl rfl ⟨⟨by show 2 + 1 ≤ 3 + (n + 1); omega, by show 8 + (5 + 11) + 40 * 2 ≤ 40 * (3 + (n + 1)); omega⟩, Nat.zero_le _, Nat.zero_le _⟩ ?_
        rw [qe2q, hblc]
        refine x_istore dX6_grow_59 rfl rfl rfl ?_
        refine x_aload_n dX6_grow_61 rfl ?_
        refine s_get dX6_grow_62 fX6_28 hS rfl ?_
        refine x_iload dX6_grow_65 rfl ?_
        refine x_iload dX6_grow_67 rfl ?_
        obtain ⟨bl2, hbl2, -, hblf2, hb20, hb21⟩ := hBc.use hP
        obtain ⟨_, _, _, hBs2⟩ := hbl2.so
        have hbl2l := hbl2.B.1
        refine x_aload_n dX6_grow_69 rfl ?_
        refine x_iload dX6_grow_70 rfl ?_
        refine p_V dX6_grow_72 lX6_69 (c_X3_foldOf sz hbl2 (z := pChl bef old (lp L i.toNat).2) ⟨by omega, by omega⟩) hBs2.1 rfl rfl rfl rfl ⟨⟨by show 1 + 1 ≤ 3 + (n + 1); omega, by show 8 + (2 + 11) + 40 * 1 ≤ 40 * (3 + (n + 1)); omega⟩, Nat.zero_le _, Nat.zero_le _⟩ ?_
        rw [hblf2, hf1.1]
        refine i_V dX6_grow_75 lX6_72 (c_X3_append sz hP (a := (lp L i.toNat).2) (b := lev) (c := (gF bef (pChl bef old (lp L i.toNat).2)).toNat) ⟨by omega, by omega⟩ ⟨by omega, by omega⟩ hf1.2) hPs.1 rfl rfl rfl rfl ⟨⟨by show 0 + 1 ≤ 3 + (n + 1); omega, by show 8 + (4 + 11) + 40 * 0 ≤ 40 * (3 + (n + 1)); omega⟩, Nat.zero_le _, Nat.zero_le _⟩ (fun r h4 hr => ?_)
        have hrr : -2 ≤ r ∧ r ≤ 120 := by rcases hr with q1 | q1 <;> omega
        refine x_istore dX6_grow_78 rfl rfl rfl ?_
        refine x_iload dX6_grow_80 rfl ?_
        refine x_bipush dX6_grow_82 (by decide) ?_
        refine x_icmp_eq dX6_grow_84 ⟨by omega, by omega⟩ ⟨by omega, by omega⟩ (fun qc84q => ?_) (fun qc84q => ?_)
        · obtain ⟨q1, q2, q3⟩ : 120 ≤ acc.length ∧ r = -2 ∧ h4 = h2 := by
            rcases hr with q1 | q1
            · omega
            · exact ⟨by omega, q1.2⟩
          subst q3
          refine x_iconst dX6_grow_103 ?_
          refine x_zreturn dX6_grow_104 rfl (by decide) ?_
          first
            | (refine ⟨_, rfl, Or.inr ⟨?_, rfl, ⟨_, hSt0⟩, hFr⟩⟩
               rw [qe10q, List.length_append, List.length_cons]
               omega)
            | (refine ⟨_, rfl, Or.inr ⟨?_, rfl, q8, (hFr.tr q5).tr q9⟩⟩
               rw [qe10q]
               simp only [List.length_append, List.length_cons, List.length_nil] at q6 ⊢
               omega)
        · obtain ⟨q1, q2, q3, q4, q5⟩ : acc.length < 120 ∧ lev ≤ 40 ∧ r = acc.length ∧ PlR h4 (q + 8) (acc ++ [((lp L i.toNat).2, lev, (gF bef (pChl bef old (lp L i.toNat).2)).toNat)]) ∧ Fr h2 h4 (q + 8) (q + 8 + 4) := by
            rcases hr with q1 | q1
            · exact q1
            · omega
          subst q3
          have q5 : Fr h2 h4 (q + 8) (q + 12) := q5
          have hS := hS.mv q5 (by omega)
          have hSt1 : StR h4 q (d, tx, mk, L, acc ++ [((lp L i.toNat).2, lev, (gF bef (pChl bef old (lp L i.toNat).2)).toNat)]) := ⟨hS, hN.mv q5 (by omega), hL.mv q5 (by omega), q4⟩
          have hcap := q4.B.1
          refine x_aload_n dX6_grow_87 rfl ?_
          refine x_aload_n dX6_grow_88 rfl ?_
          refine x_iload dX6_grow_89 rfl ?_
          refine x_iload dX6_grow_91 rfl ?_
          refine x_iload dX6_grow_93 rfl ?_
          refine x_iconst dX6_grow_95 ?_
          refine x_iadd dX6_grow_96 ?_
          rw [show ((lev : Nat) : Int) + 1 = ((lev + 1 : Nat) : Int) by omega]
          refine i_S dX6_grow_97 lX6_50 (ihn sz hSt1 (hBc.mv q5) (z := acc.length) (old := pChl bef old (lp L i.toNat).2) (x := (lp L i.toNat).2) (lev := lev + 1) (by omega) (by rw [List.length_append]; simp; omega) gN_last qe9q (by omega) (by omega)) rfl rfl rfl ⟨⟨by show 3 + n + 1 ≤ 3 + (n + 1); omega, by show 8 + (11 + 11) + 40 * (3 + n) ≤ 40 * (3 + (n + 1)); omega⟩, Nat.zero_le _, Nat.zero_le _⟩ (fun r5 h6 hr5 => ?_)
          refine x_if_ne dX6_grow_100 ⟨by rcases hr5 with q6 | q6 <;> omega, by rcases hr5 with q6 | q6 <;> omega⟩ (fun qc100q => ?_) (fun qc100q => ?_)
          · obtain ⟨q6, q7, q8, q9⟩ : (acc ++ [((lp L i.toNat).2, lev, (gF bef (pChl bef old (lp L i.toNat).2)).toNat)] ++ lyF (kid L) bef n (lev + 1) (pChl bef old (lp L i.toNat).2) (kid L (lp L i.toNat).2)).length ≤ 120 ∧ r5 = 1 ∧ StR h6 q (d, tx, mk, L, acc ++ [((lp L i.toNat).2, lev, (gF bef (pChl bef old (lp L i.toNat).2)).toNat)] ++ lyF (kid L) bef n (lev + 1) (pChl bef old (lp L i.toNat).2) (kid L (lp L i.toNat).2)) ∧ Fr h4 h6 (q + 8) (q + 12) := by
              rcases hr5 with q6 | q6
              · exact q6
              · omega
            
            refine x_iinc dX6_grow_105 rfl rfl rfl ?_
            refine x_goto dX6_grow_108 ?_
            first
              | (refine ihq (h2, i + 1) ⟨by dsimp only; omega, by dsimp only; omega, ?_, ?_, hBf, hFr⟩ (by dsimp only; omega)
                 · dsimp only
                   rw [hnx (by omega), show lp L i.toNat = ((lp L i.toNat).1, (lp L i.toNat).2) from rfl, kid_miss _ (by dsimp only; omega), kid_nil, List.append_nil]
                   exact hlen
                 · dsimp only
                   rw [hnx (by omega), show lp L i.toNat = ((lp L i.toNat).1, (lp L i.toNat).2) from rfl, kid_miss _ (by dsimp only; omega), kid_nil, List.append_nil]
                   exact hSt0)
              | (refine x_kill 8 (x_kill 9 (x_kill 10 ?_))
                 exact ihq (h6, i + 1) ⟨by dsimp only; omega, by dsimp only; omega, by dsimp only; rw [qe11q]; exact q6, by dsimp only; rw [qe11q]; exact q8, (hBf.mv q5).mv q9, (hFr.tr q5).tr q9⟩ (by dsimp only; omega))
          · obtain ⟨q6, q7, q8, q9⟩ : 120 < (acc ++ [((lp L i.toNat).2, lev, (gF bef (pChl bef old (lp L i.toNat).2)).toNat)] ++ lyF (kid L) bef n (lev + 1) (pChl bef old (lp L i.toNat).2) (kid L (lp L i.toNat).2)).length ∧ r5 = 0 ∧ (∃ pl', StR h6 q (d, tx, mk, L, pl')) ∧ Fr h4 h6 (q + 8) (q + 12) := by
              rcases hr5 with q6 | q6
              · omega
              · exact q6
            refine x_iconst dX6_grow_103 ?_
            refine x_zreturn dX6_grow_104 rfl (by decide) ?_
            first
              | (refine ⟨_, rfl, Or.inr ⟨?_, rfl, ⟨_, hSt0⟩, hFr⟩⟩
                 rw [qe10q, List.length_append, List.length_cons]
                 omega)
              | (refine ⟨_, rfl, Or.inr ⟨?_, rfl, q8, (hFr.tr q5).tr q9⟩⟩
                 rw [qe10q]
                 simp only [List.length_append, List.length_cons, List.length_nil] at q6 ⊢
                 omega)
