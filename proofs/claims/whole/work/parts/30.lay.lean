def om (z : Int) : Int := if z = -2 then -6 else z
/-- what is still to be laid: frames (node, next kid, its earlier place) -/
def lpR (K : Nat → List Nat) (bef : List PE) (F : Nat → Nat × Nat × Int) : Nat → List PE
  | 0 => []
  | i + 1 => lyF K bef (40 - i) (i + 1) (F i).2.2 ((K (F i).1).drop (F i).2.1) ++ lpR K bef F i
theorem lpR_cg {K : Nat → List Nat} {bef : List PE} {F G : Nat → Nat × Nat × Int} : ∀ i, (∀ j, j < i → F j = G j) → lpR K bef F i = lpR K bef G i
  | 0, _ => rfl
  | i + 1, h => by rw [lpR, lpR, h i (by omega), lpR_cg i (fun j hj => h j (by omega))]
theorem lpR_push {K : Nat → List Nat} {bef : List PE} {F : Nat → Nat × Nat × Int} {i x k y : Nat} {o : Int} {l : List Nat} (hF : F i = (x, k, o)) (hk : (K x).drop k = y :: l) (hi : i < 40) : lpR K bef F (i + 1) = (y, i + 1, (gF bef (pChl bef o y)).toNat) :: lpR K bef (fU (fU F i (x, k + 1, o)) (i + 1) (y, 0, pChl bef o y)) (i + 1 + 1) := by
  have h2 := (drop_cons hk).2.1
  rw [lpR, hF, lpR, fU_s, lpR, fU_n (by omega), fU_s, List.drop_zero, h2]
  dsimp only
  rw [hk, show 40 - i = (40 - (i + 1)) + 1 by omega, show y :: l = [y] ++ l from rfl, lyF_app, lyF_one, lpR_cg (F := F) (G := fU (fU F i (x, k + 1, o)) (i + 1) (y, 0, pChl bef o y)) i (fun j hj => by rw [fU_n (by omega), fU_n (by omega)])]
  simp
def RmQ (r : Nat → Int) (pl : List PE) : Prop := ∀ k, k < pl.length → r (2134 + 3 * k) = pn pl k ∧ r (2134 + 3 * k + 1) = pv pl k ∧ r (2134 + 3 * k + 2) = pf pl k
theorem RmQ.app {r : Nat → Int} {pl : List PE} (h : RmQ r pl) {a b c : Nat} {i0 i1 i2 : Nat} (qe0q : i0 = 2134 + 3 * pl.length) (qe1q : i1 = i0 + 1) (qe2q : i2 = i0 + 2) : RmQ (zU (zU (zU r i0 a) i1 b) i2 c) (pl ++ [(a, b, c)]) := by
  intro k hk
  rw [List.length_append, List.length_singleton] at hk
  by_cases q : k = pl.length
  · subst q
    rw [zU_n (by omega), zU_n (by omega), qe0q, zU_s, pg_app_eq.1, pg_app_eq.2.1, pg_app_eq.2.2]
    refine ⟨rfl, ?_, ?_⟩
    · rw [zU_n (by omega), show 2134 + 3 * pl.length + 1 = i1 by omega, zU_s]
    · rw [show 2134 + 3 * pl.length + 2 = i2 by omega, zU_s]
  · rw [zU_n (by omega), zU_n (by omega), zU_n (by omega), zU_n (by omega), zU_n (by omega), zU_n (by omega), zU_n (by omega), zU_n (by omega), zU_n (by omega), (pg_app_lt (by omega)).1, (pg_app_lt (by omega)).2.1, (pg_app_lt (by omega)).2.2]
    exact h k (by omega)
def lyW (w : Nat → Nat → Int) (r nx wy ol : Nat → Int) : Nat → Nat → Int := fun j => if j = 0 then r else if j = 4 then nx else if j = 5 then wy else if j = 6 then ol else w j
abbrev moL (w : Nat → Nat → Int) (r nx wy ol : Nat → Int) : List (Nat × Nat × (Nat → Int)) := [(0, 2494, r), (0, 12470, w 1), (0, 2494, w 2), (0, 2494, w 3), (0, 42, nx), (0, 42, wy), (0, 120, ol), (0, 121, w 7), (2, 41, w 8), (0, 41, w 9), (1, 60, w 10), (0, 26, w 11), (0, 28, w 12), (0, 28, w 13), (0, 784, w 14), (0, 62, w 15)]
theorem moL_W {h : AH} {m : Nat} {w : Nat → Nat → Int} {u : Nat → Int} {r nx wy ol : Nat → Int} (a : SO h h m 17 9 (moF m u) (moL w r nx wy ol)) : MoW h m (lyW w r nx wy ol) u := a
theorem Dp_kids {K : Nat → List Nat} {n x y : Nat} (h : Dp K n x) (hy : y ∈ K x) : 1 ≤ n ∧ Dp K (n - 1) y := by
  cases n with
  | zero => rw [show K x = [] from h] at hy; cases hy
  | succ n => exact ⟨by omega, h y hy⟩

def LyI (K : Nat → List Nat) (bef : List PE) (d : Nat) (r0 r nx wy ol : Nat → Int) (F : Nat → Nat × Nat × Int) (c : Nat) (acc : List PE) : Prop :=
  c ≤ 41 ∧ (∀ i, i < c → ((F i).1 ≤ d ∧ (F i).2.1 ≤ (K (F i).1).length ∧ Dp K (40 - i) (F i).1 ∧ -2 ≤ (F i).2.2 ∧ (F i).2.2 < bef.length) ∧ wy i = (F i).1 ∧ nx i = (F i).2.1 ∧ ol i = om (F i).2.2) ∧ acc.length ≤ 120 ∧ lyF K bef 40 1 (-1) (K 0) = acc ++ lpR K bef F c ∧ RmQ r acc ∧ ∀ j, j < 2134 → r j = r0 j
theorem LyI.pop {K : Nat → List Nat} {bef : List PE} {d : Nat} {r0 r nx wy ol : Nat → Int} {F : Nat → Nat × Nat × Int} {i : Nat} {acc : List PE} (h : LyI K bef d r0 r nx wy ol F (i + 1) acc) (he : (F i).2.1 = (K (F i).1).length) : LyI K bef d r0 r nx wy ol F i acc ∧ lpR K bef F (i + 1) = lpR K bef F i := by
  obtain ⟨h1, h2, h3, h4, h5, h6⟩ := h
  have e : lpR K bef F (i + 1) = lpR K bef F i := by
    rw [lpR, he, List.drop_length, lyF_nil, List.nil_append]
  rw [e] at h4
  exact ⟨⟨by omega, fun j hj => h2 j (by omega), h3, h4, h5, h6⟩, e⟩
theorem LyI.more {K : Nat → List Nat} {bef : List PE} {d : Nat} {r0 r nx wy ol : Nat → Int} {F : Nat → Nat × Nat × Int} {i x k : Nat} {o : Int} {acc : List PE} (h : LyI K bef d r0 r nx wy ol F (i + 1) acc) (hF : F i = (x, k, o)) (hk : k < (K x).length) : i < 40 ∧ (K x).drop k = (K x).getD k 0 :: (K x).drop (k + 1) ∧ Dp K (40 - (i + 1)) ((K x).getD k 0) ∧ acc.length < (lyF K bef 40 1 (-1) (K 0)).length := by
  obtain ⟨h1, h2, h3, h4, h5, h6⟩ := h
  have e := (h2 i (by omega)).1
  rw [hF] at e
  have hm : (K x).getD k 0 ∈ K x := by
    rw [List.getD_eq_getElem?_getD, List.getElem?_eq_getElem hk]
    exact List.getElem_mem _
  have qe2q := Dp_kids e.2.2.1 hm
  have qe3q : (K x).drop k = (K x).getD k 0 :: (K x).drop (k + 1) := by
    rw [List.getD_eq_getElem?_getD, List.getElem?_eq_getElem hk]
    exact (List.getElem_cons_drop (h := hk)).symm
  refine ⟨by omega, qe3q, by rw [show 40 - (i + 1) = 40 - i - 1 by omega]; exact qe2q.2, ?_⟩
  rw [h4, lpR_push hF qe3q (by omega), List.length_append, List.length_cons]
  omega
theorem LyI.push {K : Nat → List Nat} {bef : List PE} {d : Nat} {r0 r nx wy ol r' nx' wy' ol' : Nat → Int} {F : Nat → Nat × Nat × Int} {i x k : Nat} {o : Int} {acc : List PE} (hKB : KB d K) (hB : PlB bef) (h : LyI K bef d r0 r nx wy ol F (i + 1) acc) (hF : F i = (x, k, o)) (hk : k < (K x).length) (ha : acc.length < 120) {y : Nat} (hy : y = (K x).getD k 0) {P : Int} (hP : P = pChl bef o y)
    (hwy : wy' (i + 1) = y ∧ ∀ j, j ≤ i → wy' j = wy j) (hnx : nx' (i + 1) = 0 ∧ nx' i = (k : Int) + 1 ∧ ∀ j, j < i → nx' j = nx j) (hol : ol' (i + 1) = om (P) ∧ ∀ j, j ≤ i → ol' j = ol j) (hr : RmQ r' (acc ++ [(y, i + 1, (gF bef (P)).toNat)]) ∧ ∀ j, j < 2134 → r' j = r j) :
    LyI K bef d r0 r' nx' wy' ol' (fU (fU F i (x, k + 1, o)) (i + 1) (y, 0, P)) (i + 1 + 1) (acc ++ [(y, i + 1, (gF bef (P)).toNat)]) ∧ (lpR K bef F (i + 1)).length = (lpR K bef (fU (fU F i (x, k + 1, o)) (i + 1) (y, 0, P)) (i + 1 + 1)).length + 1 := by
  subst hP
  have hmo := h.more hF hk
  obtain ⟨h1, h2, h3, h4, h5, h6⟩ := h
  subst hy
  have hfi := h2 i (by omega)
  rw [hF] at hfi
  dsimp only at hfi
  have hpr := pChl_r (bef := bef) o ((K x).getD k 0) hfi.1.2.2.2.2
  have hkd := (hKB.2 x hfi.1.1).2 ((K x).getD k 0) (by
    rw [List.getD_eq_getElem?_getD, List.getElem?_eq_getElem hk]
    exact List.getElem_mem _)
  have hp := lpR_push (bef := bef) hF hmo.2.1 hmo.1
  refine ⟨⟨by omega, fun j hj => ?_, by rw [List.length_append, List.length_singleton]; omega, ?_, hr.1, fun j hj => (hr.2 j hj).trans (h6 j hj)⟩, by rw [hp, List.length_cons]⟩
  · by_cases q : j = i + 1
    · subst q
      rw [fU_s]
      dsimp only
      refine ⟨⟨hkd.2, by omega, hmo.2.2.1, hpr.1, ?_⟩, hwy.1, hnx.1, hol.1⟩
      rcases hpr.2 with q1 | q1
      · exact q1
      · rw [q1]; omega
    · rw [fU_n q]
      by_cases q2 : j = i
      · subst q2
        rw [fU_s]
        dsimp only
        exact ⟨⟨hfi.1.1, by omega, hfi.1.2.2⟩, (hwy.2 j (by omega)).trans hfi.2.1, hnx.2.1, (hol.2 j (by omega)).trans hfi.2.2.2⟩
      · rw [fU_n q2]
        have h9 := h2 j (by omega)
        exact ⟨h9.1, (hwy.2 j (by omega)).trans h9.2.1, (hnx.2.2 j (by omega)).trans h9.2.2.1, (hol.2 j (by omega)).trans h9.2.2.2⟩
  · rw [h4, hp]
    simp
theorem pChl_0 (bef : List PE) (o y : Int) (h : -1 ≤ pChl bef o y) : 0 ≤ pChl bef o y := by
  unfold pChl at h ⊢
  split at h
  · omega
  · rename_i q0
    rw [if_neg q0]
    split at h
    · rename_i q1
      rw [if_pos q1]
      by_cases q2 : o + 1 ≤ bef.length
      · have := (fZ_spec (pChQ bef (gV bef o + 1) y) bef.length (i := o + 1) (by omega) q2).1
        omega
      · unfold fZ
        omega
    · omega
set_option maxHeartbeats 4000000 in
theorem c_X9_layPlaces (sz : Nat) {h : AH} {m : Nat} {w : Nat → Nat → Int} {u : Nat → Int} (hM : MoW h m w u) {d : Nat} {K : Nat → List Nat} {bef : List PE} (hK : RmK (w 0) d K) (hKB : KB d K) (hRs : RmP (w 3) bef) (hB : PlB bef) (hDp : Dp K 40 0) : CC mX9_layPlaces 2 0 0 [.ref m] sz h (QI (fun z h' => ∃ r nx wy ol, ((((lyF K bef 40 1 (-1) (K 0)).length ≤ 120 ∧ z = 1 ∧ RmP r (lyF K bef 40 1 (-1) (K 0))) ∨ (120 < (lyF K bef 40 1 (-1) (K 0)).length ∧ z = 0)) ∧ ∀ i, i < 2134 → i ≠ 1 → r i = w 0 i) ∧ MoW h' m (lyW w r nx wy ol) u ∧ Fr h h' m (m + 17))) := by
  refine CC.intro [some (.ref m), none, none, none, none] pfX9_layPlaces rfl rfl ?_
  have hM0 := hM
  unfold MoW at hM
  have hBl := hB.1
  have hd40 := hKB.1
  refine x_iconst dX9_layPlaces_0 ?_
  refine x_istore_n dX9_layPlaces_1 rfl rfl rfl ?_
  refine x_iconst dX9_layPlaces_2 ?_
  refine x_istore_n dX9_layPlaces_3 rfl rfl rfl ?_
  refine x_aload_n dX9_layPlaces_4 rfl ?_
  refine s_get dX9_layPlaces_5 fX9_25 hM rfl ?_
  refine x_iconst dX9_layPlaces_8 ?_
  refine x_iconst dX9_layPlaces_9 ?_
  refine s_iast dX9_layPlaces_10 hM rfl rfl ⟨by omega, by omega⟩ (fun ha hM hF => ?_)
  refine x_aload_n dX9_layPlaces_11 rfl ?_
  refine s_get dX9_layPlaces_12 fX9_22 hM rfl ?_
  refine x_iconst dX9_layPlaces_15 ?_
  refine x_iconst dX9_layPlaces_16 ?_
  refine s_iast dX9_layPlaces_17 hM rfl rfl ⟨by omega, by omega⟩ (fun hb hM hF => ?_)
  refine x_aload_n dX9_layPlaces_18 rfl ?_
  refine s_get dX9_layPlaces_19 fX9_28 hM rfl ?_
  refine x_iconst dX9_layPlaces_22 ?_
  refine x_iconst dX9_layPlaces_23 ?_
  refine s_iast dX9_layPlaces_24 hM rfl rfl ⟨by omega, by omega⟩ (fun hc hM hF => ?_)
  have hG0 := hM.fr
  have hM := hM.st
  refine x_loop (fun s : AH × (Nat → Int) × (Nat → Int) × (Nat → Int) × (Nat → Int) × (Nat → Nat × Nat × Int) × Nat × List PE => s.1) (fun s => [some (.ref m), some (.int (zI (s.2.2.2.2.2.2.2.length : Int))), some (.int (zI ((s.2.2.2.2.2.2.1 : Int) - 1))), none, none]) (fun s : AH × (Nat → Int) × (Nat → Int) × (Nat → Int) × (Nat → Int) × (Nat → Nat × Nat × Int) × Nat × List PE => LyI K bef d (w 0) s.2.1 s.2.2.1 s.2.2.2.1 s.2.2.2.2.1 s.2.2.2.2.2.1 s.2.2.2.2.2.2.1 s.2.2.2.2.2.2.2 ∧ SO hc s.1 m 17 9 (moF m u) (moL w s.2.1 s.2.2.1 s.2.2.2.1 s.2.2.2.2.1)) (fun s => 2 * (lpR K bef s.2.2.2.2.2.1 s.2.2.2.2.2.2.1).length + s.2.2.2.2.2.2.1) (_, w 0, zU (w 4) 0 0, zU (w 5) 0 0, zU (w 6) 0 (-1), (fun _ => (0, 0, -1)), 1, []) rfl rfl ⟨⟨by show 1 ≤ 41; omega, fun i hi => ?_, by simp, ?_, fun k hk => by simp at hk, fun i hi => rfl⟩, hM⟩ ?_
  · dsimp only at hi ⊢
    have qe0q : i = 0 := by omega
    subst qe0q
    exact ⟨⟨by omega, by omega, hDp, by omega, by omega⟩, zU_s _ _ _, zU_s _ _ _, zU_s _ _ _⟩
  · dsimp only
    rw [lpR, lpR, List.append_nil, List.nil_append]
    rfl
  clear hM hM0
  rintro ⟨h2, r, nx, wy, ol, F, c, acc⟩ ⟨hI, hM⟩ ihq
  try dsimp only at *
  refine x_iload_n dX9_layPlaces_25 rfl ?_
  refine x_if_lt dX9_layPlaces_26 ⟨by have := hI.1; omega, by have := hI.1; omega⟩ (fun qc26q => ?_) (fun qc26q => ?_)
  · refine x_aload_n dX9_layPlaces_213 rfl ?_
    refine s_get dX9_layPlaces_214 fX9_7 hM rfl ?_
    refine x_iconst dX9_layPlaces_217 ?_
    refine x_iload_n dX9_layPlaces_218 rfl ?_
    refine s_iast dX9_layPlaces_219 hM rfl rfl ⟨by omega, by omega⟩ (fun h hM hF => ?_)
    refine x_iconst dX9_layPlaces_220 ?_
    refine x_zreturn dX9_layPlaces_221 rfl (by decide) ?_
    have hc0 : c = 0 := by omega
    subst hc0
    obtain ⟨g1, g2, g3, g4, g5, g6⟩ := hI
    rw [show lpR K bef F 0 = [] from rfl, List.append_nil] at g4
    rw [g4]
    refine ⟨_, rfl, _, nx, wy, ol, ⟨Or.inl ⟨g3, rfl, zU_s _ _ _, fun k hk => ?_⟩, fun j hj1 hj2 => ?_⟩, hM.st, hG0.tr hM.fr⟩
    · rw [zU_n (by omega), zU_n (by omega), zU_n (by omega)]
      exact g5 k hk
    · rw [zU_n (by omega)]
      exact g6 j hj1
  · obtain ⟨i, rfl⟩ : ∃ i, c = i + 1 := ⟨c - 1, by omega⟩
    have hfi := hI.2.1 i (by omega)
    obtain ⟨⟨f1, f2, f3, f4, f5⟩, f6, f7, f8⟩ := hfi
    rw [show ((i + 1 : Nat) : Int) - 1 = (i : Int) by omega]
    obtain ⟨x, k, o, hFi⟩ : ∃ x k o, F i = (x, k, o) := ⟨_, _, _, rfl⟩
    rw [hFi] at f1 f2 f3 f4 f5 f6 f7 f8
    dsimp only at f1 f2 f3 f4 f5 f6 f7 f8
    have hwy : wy (i : Int).toNat = (x : Int) := by rw [Int.toNat_natCast]; exact f6
    have hnx : nx (i : Int).toNat = (k : Int) := by rw [Int.toNat_natCast]; exact f7
    have hol : ol (i : Int).toNat = om o := by rw [Int.toNat_natCast]; exact f8
    have hi41 := hI.1
    have hkl := (hKB.2 x f1).1
    have hK2 : RmK r d K := fun x1 hx1 => by
      have q1 := hK x1 hx1
      refine ⟨(hI.2.2.2.2.2 _ (by omega)).trans q1.1, fun j hj => (hI.2.2.2.2.2 _ ?_).trans (q1.2 j hj)⟩
      have := (hKB.2 x1 hx1).1
      omega
    have hkx := hK2.at (x := (x : Int)) (by omega) (by omega)
    rw [Int.toNat_natCast] at hkx
    refine x_aload_n dX9_layPlaces_29 rfl ?_
    refine s_get dX9_layPlaces_30 fX9_22 hM rfl ?_
    refine x_iload_n dX9_layPlaces_33 rfl ?_
    refine s_iald dX9_layPlaces_34 hM rfl rfl ⟨by omega, by omega⟩ ?_
    refine x_aload_n dX9_layPlaces_35 rfl ?_
    refine x_aload_n dX9_layPlaces_36 rfl ?_
    refine s_get dX9_layPlaces_37 fX9_25 hM rfl ?_
    refine x_iload_n dX9_layPlaces_40 rfl ?_
    refine s_iald dX9_layPlaces_41 hM rfl rfl ⟨by omega, by omega⟩ ?_
    rw [hwy, hnx]
    refine x_bipush dX9_layPlaces_42 (by decide) ?_
    refine p_V dX9_layPlaces_44 lX9_64 (c_X9_of sz (moL_W hM.st) (x := (x : Int)) (v := 11) (by omega)) hM.1 rfl rfl rfl rfl (by decide) ?_
    rw [show lyW w r nx wy ol 0 (2 + 52 * (x : Int) + 11).toNat = ((K x).length : Int) from hkx]
    refine x_icmp_ne dX9_layPlaces_47 ⟨by omega, by omega⟩ ⟨by omega, by omega⟩ (fun qc47q => ?_) (fun qc47q => ?_)
    · have hk : k < (K x).length := by omega
      have hmo := hI.more hFi hk
      have hacc := hI.2.2.1
      refine x_iload_n dX9_layPlaces_56 rfl ?_
      refine x_bipush dX9_layPlaces_57 (by decide) ?_
      refine x_icmp_ne dX9_layPlaces_59 ⟨by omega, by omega⟩ ⟨by omega, by omega⟩ (fun qc59q => ?_) (fun qc59q => ?_)
      · refine x_aload_n dX9_layPlaces_64 rfl ?_
        refine x_aload_n dX9_layPlaces_65 rfl ?_
        refine s_get dX9_layPlaces_66 fX9_25 hM rfl ?_
        refine x_iload_n dX9_layPlaces_69 rfl ?_
        refine s_iald dX9_layPlaces_70 hM rfl rfl ⟨by omega, by omega⟩ ?_
        refine x_aload_n dX9_layPlaces_71 rfl ?_
        refine s_get dX9_layPlaces_72 fX9_22 hM rfl ?_
        refine x_iload_n dX9_layPlaces_75 rfl ?_
        refine s_iald dX9_layPlaces_76 hM rfl rfl ⟨by omega, by omega⟩ ?_
        rw [hwy, hnx]
        have hky := hK2.kid hKB (x := (x : Int)) (j := (k : Int)) (by omega) (by omega) (by omega) (by rw [Int.toNat_natCast]; omega)
        rw [Int.toNat_natCast, Int.toNat_natCast] at hky
        generalize hy : (K x).getD k 0 = y at *
        refine p_V dX9_layPlaces_77 lX9_71 (c_X9_kid sz (moL_W hM.st) (x := (x : Int)) (v := (k : Int)) (by omega)) hM.1 rfl rfl rfl rfl (by decide) ?_
        rw [show lyW w r nx wy ol 0 (2 + 52 * (x : Int) + (12 + (k : Int))).toNat = (y : Int) from hky.1]
        refine x_istore_n dX9_layPlaces_80 rfl rfl rfl ?_
        have hpr := pChl_r (bef := bef) o y f5
        generalize hP : pChl bef o y = P at *
        have hom : (om P = -6 ∧ P = -2) ∨ (om P = P ∧ -1 ≤ P) := by
          unfold om
          split
          · exact Or.inl ⟨rfl, by assumption⟩
          · exact Or.inr ⟨rfl, by omega⟩
        have hom2 : (om o = -6 ∧ o = -2) ∨ (om o = o ∧ -1 ≤ o) := by
          unfold om
          split
          · exact Or.inl ⟨rfl, by assumption⟩
          · exact Or.inr ⟨rfl, by omega⟩
        have hgF := gF_r hB P
        have hPm : -1 ≤ P → 0 ≤ P := fun q => by
          rw [← hP] at q ⊢
          exact pChl_0 _ _ _ q
        have K108 : XM mX9_layPlaces 2 0 0 (QI (fun z h' => ∃ r nx wy ol, ((((lyF K bef 40 1 (-1) (K 0)).length ≤ 120 ∧ z = 1 ∧ RmP r (lyF K bef 40 1 (-1) (K 0))) ∨ (120 < (lyF K bef 40 1 (-1) (K 0)).length ∧ z = 0)) ∧ ∀ i, i < 2134 → i ≠ 1 → r i = w 0 i) ∧ MoW h' m (lyW w r nx wy ol) u ∧ Fr h h' m (m + 17))) 0 0 sz h2 108 [some (.ref m), some (.int (zI (acc.length : Int))), some (.int (zI (i : Int))), some (.int (zI (y : Int))), none] [.int (zI (om P))] := by
          refine x_istore dX9_layPlaces_108 rfl rfl rfl ?_
          refine x_aload_n dX9_layPlaces_110 rfl ?_
          refine s_get dX9_layPlaces_111 fX9_22 hM rfl ?_
          refine x_iload_n dX9_layPlaces_114 rfl ?_
          refine x_dup2 dX9_layPlaces_115 rfl rfl ?_
          refine s_iald dX9_layPlaces_116 hM rfl rfl ⟨by omega, by omega⟩ ?_
          refine x_iconst dX9_layPlaces_117 ?_
          refine x_iadd dX9_layPlaces_118 ?_
          refine s_iast dX9_layPlaces_119 hM rfl rfl ⟨by omega, by omega⟩ (fun h hM hF => ?_)
          refine x_iinc dX9_layPlaces_120 rfl rfl rfl ?_
          refine x_aload_n dX9_layPlaces_123 rfl ?_
          refine s_get dX9_layPlaces_124 fX9_25 hM rfl ?_
          refine x_iload_n dX9_layPlaces_127 rfl ?_
          refine x_iload_n dX9_layPlaces_128 rfl ?_
          refine s_iast dX9_layPlaces_129 hM rfl rfl ⟨by omega, by omega⟩ (fun h hM hF => ?_)
          refine x_aload_n dX9_layPlaces_130 rfl ?_
          refine s_get dX9_layPlaces_131 fX9_22 hM rfl ?_
          refine x_iload_n dX9_layPlaces_134 rfl ?_
          refine x_iconst dX9_layPlaces_135 ?_
          refine s_iast dX9_layPlaces_136 hM rfl rfl ⟨by omega, by omega⟩ (fun h hM hF => ?_)
          refine x_aload_n dX9_layPlaces_137 rfl ?_
          refine s_get dX9_layPlaces_138 fX9_28 hM rfl ?_
          refine x_iload_n dX9_layPlaces_141 rfl ?_
          refine x_iload dX9_layPlaces_142 rfl ?_
          refine s_iast dX9_layPlaces_144 hM rfl rfl ⟨by omega, by omega⟩ (fun h hM hF => ?_)
          refine x_aload_n dX9_layPlaces_145 rfl ?_
          refine s_get dX9_layPlaces_146 fX9_7 hM rfl ?_
          refine x_sipush dX9_layPlaces_149 (by decide) ?_
          refine x_iconst dX9_layPlaces_152 ?_
          refine x_iload_n dX9_layPlaces_153 rfl ?_
          refine x_imul dX9_layPlaces_154 ?_
          refine x_iadd dX9_layPlaces_155 ?_
          refine x_iconst dX9_layPlaces_156 ?_
          refine x_iadd dX9_layPlaces_157 ?_
          refine x_iload_n dX9_layPlaces_158 rfl ?_
          refine s_iast dX9_layPlaces_159 hM rfl rfl ⟨by omega, by omega⟩ (fun h hM hF => ?_)
          refine x_aload_n dX9_layPlaces_160 rfl ?_
          refine s_get dX9_layPlaces_161 fX9_7 hM rfl ?_
          refine x_sipush dX9_layPlaces_164 (by decide) ?_
          refine x_iconst dX9_layPlaces_167 ?_
          refine x_iload_n dX9_layPlaces_168 rfl ?_
          refine x_imul dX9_layPlaces_169 ?_
          refine x_iadd dX9_layPlaces_170 ?_
          refine x_iconst dX9_layPlaces_171 ?_
          refine x_iadd dX9_layPlaces_172 ?_
          refine x_iload_n dX9_layPlaces_173 rfl ?_
          refine s_iast dX9_layPlaces_174 hM rfl rfl ⟨by omega, by omega⟩ (fun h hM hF => ?_)
          refine x_aload_n dX9_layPlaces_175 rfl ?_
          refine s_get dX9_layPlaces_176 fX9_7 hM rfl ?_
          refine x_sipush dX9_layPlaces_179 (by decide) ?_
          refine x_iconst dX9_layPlaces_182 ?_
          refine x_iload_n dX9_layPlaces_183 rfl ?_
          refine x_imul dX9_layPlaces_184 ?_
          refine x_iadd dX9_layPlaces_185 ?_
          refine x_iconst dX9_layPlaces_186 ?_
          refine x_iadd dX9_layPlaces_187 ?_
          refine x_iload dX9_layPlaces_188 rfl ?_
          refine x_bipush dX9_layPlaces_190 (by decide) ?_
          refine x_icmp_ne dX9_layPlaces_192 ⟨by omega, by omega⟩ ⟨by omega, by omega⟩ (fun qc192q => ?_) (fun qc192q => ?_)
          · refine x_aload_n dX9_layPlaces_199 rfl ?_
            refine x_iload dX9_layPlaces_200 rfl ?_
            refine x_iconst dX9_layPlaces_202 ?_
            refine p_V dX9_layPlaces_203 lX9_68 (c_X9_spareAt sz (moL_W hM.st) (x := om P) (v := 2) (by omega)) hM.1 rfl rfl rfl rfl (by decide) ?_
            have qe20q : om P = P := by
              rcases hom with q | q
              · omega
              · exact q.1
            have qe23q : ∀ r1 nx1 wy1 ol1, lyW w r1 nx1 wy1 ol1 3 (2134 + 3 * om P + 2).toNat = gF bef P := fun _ _ _ _ => by rw [qe20q]; exact (hRs.at (z := P) (by omega) (by omega)).2.2.trans (gV_p (show 0 ≤ P by omega)).2.2
            rw [qe23q]
            refine s_iast dX9_layPlaces_206 hM rfl rfl ⟨by omega, by omega⟩ (fun h hM hF => ?_)
            refine x_iinc dX9_layPlaces_207 rfl rfl rfl ?_
            refine x_goto dX9_layPlaces_210 ?_
            first
              | (have qe21q : gF bef P = 0 := by
                   have qe22q : P = -2 := by omega
                   rw [qe22q]
                   rfl
                 have hp := LyI.push (y := y) hKB hB hI hFi hk (by omega) hy.symm hP.symm (wy' := zU wy ((i : Int) + 1).toNat y) (nx' := zU (zU nx (i : Int).toNat (nx (i : Int).toNat + 1)) ((i : Int) + 1).toNat 0) (ol' := zU ol ((i : Int) + 1).toNat (om P)) (r' := zU (zU (zU r (2134 + 3 * (acc.length : Int) + 0).toNat y) (2134 + 3 * (acc.length : Int) + 1).toNat ((i : Int) + 1)) (2134 + 3 * (acc.length : Int) + 2).toNat 0) ⟨by rw [show ((i : Int) + 1).toNat = i + 1 by omega, zU_s], fun j hj => zU_n (by omega)⟩ ⟨by rw [show ((i : Int) + 1).toNat = i + 1 by omega, zU_s], by rw [zU_n (by omega), Int.toNat_natCast, zU_s, ← Int.toNat_natCast i, hnx], fun j hj => by rw [zU_n (by omega), zU_n (by omega)]⟩ ⟨by rw [show ((i : Int) + 1).toNat = i + 1 by omega, zU_s], fun j hj => zU_n (by omega)⟩ (by have h9 := hI.2.2.2.2.1.app (a := y) (b := i + 1) (c := (gF bef P).toNat) (i0 := (2134 + 3 * (acc.length : Int) + 0).toNat) (i1 := (2134 + 3 * (acc.length : Int) + 1).toNat) (i2 := (2134 + 3 * (acc.length : Int) + 2).toNat) (by omega) (by omega) (by omega); rw [show (((i + 1 : Nat)) : Int) = (i : Int) + 1 by omega, qe21q] at h9; rw [qe21q]; exact ⟨h9, fun j hj => by rw [zU_n (by omega), zU_n (by omega), zU_n (by omega)]⟩)
                 rw [show (acc.length : Int) + 1 = ((acc ++ [(y, i + 1, (gF bef P).toNat)]).length : Int) by simp, show (i : Int) + 1 = ((i + 1 + 1 : Nat) : Int) - 1 by omega]
                 refine x_kill 3 (x_kill 4 ?_)
                 exact ihq (_, zU (zU (zU r (2134 + 3 * (acc.length : Int) + 0).toNat y) (2134 + 3 * (acc.length : Int) + 1).toNat ((i : Int) + 1)) (2134 + 3 * (acc.length : Int) + 2).toNat 0, zU (zU nx (i : Int).toNat (nx (i : Int).toNat + 1)) ((i : Int) + 1).toNat 0, zU wy ((i : Int) + 1).toNat y, zU ol ((i : Int) + 1).toNat (om P), fU (fU F i (x, k + 1, o)) (i + 1) (y, 0, P), i + 1 + 1, acc ++ [(y, i + 1, (gF bef P).toNat)]) ⟨hp.1, hM⟩ (by dsimp only; have := hp.2; omega))
              | (have hp := LyI.push (y := y) hKB hB hI hFi hk (by omega) hy.symm hP.symm (wy' := zU wy ((i : Int) + 1).toNat y) (nx' := zU (zU nx (i : Int).toNat (nx (i : Int).toNat + 1)) ((i : Int) + 1).toNat 0) (ol' := zU ol ((i : Int) + 1).toNat (om P)) (r' := zU (zU (zU r (2134 + 3 * (acc.length : Int) + 0).toNat y) (2134 + 3 * (acc.length : Int) + 1).toNat ((i : Int) + 1)) (2134 + 3 * (acc.length : Int) + 2).toNat (gF bef P)) ⟨by rw [show ((i : Int) + 1).toNat = i + 1 by omega, zU_s], fun j hj => zU_n (by omega)⟩ ⟨by rw [show ((i : Int) + 1).toNat = i + 1 by omega, zU_s], by rw [zU_n (by omega), Int.toNat_natCast, zU_s, ← Int.toNat_natCast i, hnx], fun j hj => by rw [zU_n (by omega), zU_n (by omega)]⟩ ⟨by rw [show ((i : Int) + 1).toNat = i + 1 by omega, zU_s], fun j hj => zU_n (by omega)⟩ (by have h9 := hI.2.2.2.2.1.app (a := y) (b := i + 1) (c := (gF bef P).toNat) (i0 := (2134 + 3 * (acc.length : Int) + 0).toNat) (i1 := (2134 + 3 * (acc.length : Int) + 1).toNat) (i2 := (2134 + 3 * (acc.length : Int) + 2).toNat) (by omega) (by omega) (by omega); rw [show (((i + 1 : Nat)) : Int) = (i : Int) + 1 by omega, show (((gF bef P).toNat : Nat) : Int) = gF bef P by omega] at h9; exact ⟨h9, fun j hj => by rw [zU_n (by omega), zU_n (by omega), zU_n (by omega)]⟩)
                 rw [show (acc.length : Int) + 1 = ((acc ++ [(y, i + 1, (gF bef P).toNat)]).length : Int) by simp, show (i : Int) + 1 = ((i + 1 + 1 : Nat) : Int) - 1 by omega]
                 refine x_kill 3 (x_kill 4 ?_)
                 exact ihq (_, zU (zU (zU r (2134 + 3 * (acc.length : Int) + 0).toNat y) (2134 + 3 * (acc.length : Int) + 1).toNat ((i : Int) + 1)) (2134 + 3 * (acc.length : Int) + 2).toNat (gF bef P), zU (zU nx (i : Int).toNat (nx (i : Int).toNat + 1)) ((i : Int) + 1).toNat 0, zU wy ((i : Int) + 1).toNat y, zU ol ((i : Int) + 1).toNat (om P), fU (fU F i (x, k + 1, o)) (i + 1) (y, 0, P), i + 1 + 1, acc ++ [(y, i + 1, (gF bef P).toNat)]) ⟨hp.1, hM⟩ (by dsimp only; have := hp.2; omega))
          · refine x_iconst dX9_layPlaces_195 ?_
            refine x_goto dX9_layPlaces_196 ?_
            refine s_iast dX9_layPlaces_206 hM rfl rfl ⟨by omega, by omega⟩ (fun h hM hF => ?_)
            refine x_iinc dX9_layPlaces_207 rfl rfl rfl ?_
            refine x_goto dX9_layPlaces_210 ?_
            first
              | (have qe21q : gF bef P = 0 := by
                   have qe22q : P = -2 := by omega
                   rw [qe22q]
                   rfl
                 have hp := LyI.push (y := y) hKB hB hI hFi hk (by omega) hy.symm hP.symm (wy' := zU wy ((i : Int) + 1).toNat y) (nx' := zU (zU nx (i : Int).toNat (nx (i : Int).toNat + 1)) ((i : Int) + 1).toNat 0) (ol' := zU ol ((i : Int) + 1).toNat (om P)) (r' := zU (zU (zU r (2134 + 3 * (acc.length : Int) + 0).toNat y) (2134 + 3 * (acc.length : Int) + 1).toNat ((i : Int) + 1)) (2134 + 3 * (acc.length : Int) + 2).toNat 0) ⟨by rw [show ((i : Int) + 1).toNat = i + 1 by omega, zU_s], fun j hj => zU_n (by omega)⟩ ⟨by rw [show ((i : Int) + 1).toNat = i + 1 by omega, zU_s], by rw [zU_n (by omega), Int.toNat_natCast, zU_s, ← Int.toNat_natCast i, hnx], fun j hj => by rw [zU_n (by omega), zU_n (by omega)]⟩ ⟨by rw [show ((i : Int) + 1).toNat = i + 1 by omega, zU_s], fun j hj => zU_n (by omega)⟩ (by have h9 := hI.2.2.2.2.1.app (a := y) (b := i + 1) (c := (gF bef P).toNat) (i0 := (2134 + 3 * (acc.length : Int) + 0).toNat) (i1 := (2134 + 3 * (acc.length : Int) + 1).toNat) (i2 := (2134 + 3 * (acc.length : Int) + 2).toNat) (by omega) (by omega) (by omega); rw [show (((i + 1 : Nat)) : Int) = (i : Int) + 1 by omega, qe21q] at h9; rw [qe21q]; exact ⟨h9, fun j hj => by rw [zU_n (by omega), zU_n (by omega), zU_n (by omega)]⟩)
                 rw [show (acc.length : Int) + 1 = ((acc ++ [(y, i + 1, (gF bef P).toNat)]).length : Int) by simp, show (i : Int) + 1 = ((i + 1 + 1 : Nat) : Int) - 1 by omega]
                 refine x_kill 3 (x_kill 4 ?_)
                 exact ihq (_, zU (zU (zU r (2134 + 3 * (acc.length : Int) + 0).toNat y) (2134 + 3 * (acc.length : Int) + 1).toNat ((i : Int) + 1)) (2134 + 3 * (acc.length : Int) + 2).toNat 0, zU (zU nx (i : Int).toNat (nx (i : Int).toNat + 1)) ((i : Int) + 1).toNat 0, zU wy ((i : Int) + 1).toNat y, zU ol ((i : Int) + 1).toNat (om P), fU (fU F i (x, k + 1, o)) (i + 1) (y, 0, P), i + 1 + 1, acc ++ [(y, i + 1, (gF bef P).toNat)]) ⟨hp.1, hM⟩ (by dsimp only; have := hp.2; omega))
              | (have hp := LyI.push (y := y) hKB hB hI hFi hk (by omega) hy.symm hP.symm (wy' := zU wy ((i : Int) + 1).toNat y) (nx' := zU (zU nx (i : Int).toNat (nx (i : Int).toNat + 1)) ((i : Int) + 1).toNat 0) (ol' := zU ol ((i : Int) + 1).toNat (om P)) (r' := zU (zU (zU r (2134 + 3 * (acc.length : Int) + 0).toNat y) (2134 + 3 * (acc.length : Int) + 1).toNat ((i : Int) + 1)) (2134 + 3 * (acc.length : Int) + 2).toNat (gF bef P)) ⟨by rw [show ((i : Int) + 1).toNat = i + 1 by omega, zU_s], fun j hj => zU_n (by omega)⟩ ⟨by rw [show ((i : Int) + 1).toNat = i + 1 by omega, zU_s], by rw [zU_n (by omega), Int.toNat_natCast, zU_s, ← Int.toNat_natCast i, hnx], fun j hj => by rw [zU_n (by omega), zU_n (by omega)]⟩ ⟨by rw [show ((i : Int) + 1).toNat = i + 1 by omega, zU_s], fun j hj => zU_n (by omega)⟩ (by have h9 := hI.2.2.2.2.1.app (a := y) (b := i + 1) (c := (gF bef P).toNat) (i0 := (2134 + 3 * (acc.length : Int) + 0).toNat) (i1 := (2134 + 3 * (acc.length : Int) + 1).toNat) (i2 := (2134 + 3 * (acc.length : Int) + 2).toNat) (by omega) (by omega) (by omega); rw [show (((i + 1 : Nat)) : Int) = (i : Int) + 1 by omega, show (((gF bef P).toNat : Nat) : Int) = gF bef P by omega] at h9; exact ⟨h9, fun j hj => by rw [zU_n (by omega), zU_n (by omega), zU_n (by omega)]⟩)
                 rw [show (acc.length : Int) + 1 = ((acc ++ [(y, i + 1, (gF bef P).toNat)]).length : Int) by simp, show (i : Int) + 1 = ((i + 1 + 1 : Nat) : Int) - 1 by omega]
                 refine x_kill 3 (x_kill 4 ?_)
                 exact ihq (_, zU (zU (zU r (2134 + 3 * (acc.length : Int) + 0).toNat y) (2134 + 3 * (acc.length : Int) + 1).toNat ((i : Int) + 1)) (2134 + 3 * (acc.length : Int) + 2).toNat (gF bef P), zU (zU nx (i : Int).toNat (nx (i : Int).toNat + 1)) ((i : Int) + 1).toNat 0, zU wy ((i : Int) + 1).toNat y, zU ol ((i : Int) + 1).toNat (om P), fU (fU F i (x, k + 1, o)) (i + 1) (y, 0, P), i + 1 + 1, acc ++ [(y, i + 1, (gF bef P).toNat)]) ⟨hp.1, hM⟩ (by dsimp only; have := hp.2; omega))
        refine x_aload_n dX9_layPlaces_81 rfl ?_
        refine s_get dX9_layPlaces_82 fX9_28 hM rfl ?_
        refine x_iload_n dX9_layPlaces_85 rfl ?_
        refine s_iald dX9_layPlaces_86 hM rfl rfl ⟨by omega, by omega⟩ ?_
        rw [hol]
        refine x_bipush dX9_layPlaces_87 (by decide) ?_
        refine x_icmp_ne dX9_layPlaces_89 ⟨by omega, by omega⟩ ⟨by omega, by omega⟩ (fun qc89q => ?_) (fun qc89q => ?_)
        · refine x_aload_n dX9_layPlaces_97 rfl ?_
          refine x_aload_n dX9_layPlaces_98 rfl ?_
          refine s_get dX9_layPlaces_99 fX9_28 hM rfl ?_
          refine x_iload_n dX9_layPlaces_102 rfl ?_
          refine s_iald dX9_layPlaces_103 hM rfl rfl ⟨by omega, by omega⟩ ?_
          refine x_iload_n dX9_layPlaces_104 rfl ?_
          rw [hol, show om o = o by omega]
          refine p_V dX9_layPlaces_105 lX9_74 (c_X9_spareChild sz (moL_W hM.st) (bef := bef) hRs hB (z := o) (y := (y : Int)) (by omega) (by omega) ⟨by omega, by omega⟩) hM.1 rfl rfl rfl rfl (by decide) ?_
          first
            | (have qe30q : P = -2 := by
                 rw [← hP]
                 unfold pChl
                 rw [if_pos (by omega)]
               rw [show (-6 : Int) = om P by omega]
               exact K108)
            | (rw [show chM bef o (y : Int) = om P by rw [← hP]; rfl]
               exact K108)
        · refine x_bipush dX9_layPlaces_92 (by decide) ?_
          refine x_goto dX9_layPlaces_94 ?_
          first
            | (have qe30q : P = -2 := by
                 rw [← hP]
                 unfold pChl
                 rw [if_pos (by omega)]
               rw [show (-6 : Int) = om P by omega]
               exact K108)
            | (rw [show chM bef o (y : Int) = om P by rw [← hP]; rfl]
               exact K108)
      · refine x_iconst dX9_layPlaces_62 ?_
        refine x_zreturn dX9_layPlaces_63 rfl (by decide) ?_
        exact ⟨_, rfl, r, nx, wy, ol, ⟨Or.inr ⟨by have := hmo.2.2.2; omega, rfl⟩, fun j hj _ => hI.2.2.2.2.2 j hj⟩, hM.st, hG0.tr hM.fr⟩
    · have hpp := hI.pop (by rw [hFi]; dsimp only; omega)
      refine x_iinc dX9_layPlaces_50 rfl rfl rfl ?_
      refine x_goto dX9_layPlaces_53 ?_
      rw [show (i : Int) + -1 = ((i : Nat) : Int) - 1 by omega]
      exact ihq (h2, r, nx, wy, ol, F, i, acc) ⟨hpp.1, hM⟩ (by dsimp only; rw [hpp.2]; omega)
