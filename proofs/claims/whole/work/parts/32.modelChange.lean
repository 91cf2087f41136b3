/-- rows but for a stretch -/
def Sm (r r' : Nat → Int) (a b : Nat) : Prop := ∀ i, i < a ∨ b ≤ i → r' i = r i
theorem fU_o {w : Nat → Nat → Int} {g f : Nat → Int} : fU (fU w 0 g) 0 f = fU w 0 f := fU_fU w 0 g f
theorem RmK.upd {r r' : Nat → Int} {d : Nat} {K : Nat → List Nat} (h : RmK r d K) (hKB : KB d K) {p : Nat} {L : List Nat} (hs : Sm r r' (2 + 52 * p + 11) (2 + 52 * p + 52)) (h1 : r' (2 + 52 * p + 11) = L.length) (h2 : ∀ j, j < L.length → r' (2 + 52 * p + (12 + j)) = L.getD j 0) : RmK r' d (fU K p L) := by
  intro x hx
  by_cases q : x = p
  · subst q
    rw [fU_s]
    exact ⟨h1, h2⟩
  · rw [fU_n q]
    have h3 := h x hx
    have h4 := (hKB.2 x hx).1
    refine ⟨(hs _ ?_).trans h3.1, fun j hj => (hs _ ?_).trans (h3.2 j hj)⟩ <;> omega
theorem RmK.same {r r' : Nat → Int} {d : Nat} {K : Nat → List Nat} (h : RmK r d K) (hKB : KB d K) (hs : ∀ x i, x ≤ d → 11 ≤ i → i < 52 → r' (2 + 52 * x + i) = r (2 + 52 * x + i)) : RmK r' d K := by
  intro x hx
  have h3 := h x hx
  have h4 := (hKB.2 x hx).1
  exact ⟨(hs x 11 hx (by omega) (by omega)).trans h3.1, fun j hj => (hs x (12 + j) hx (by omega) (by omega)).trans (h3.2 j hj)⟩
theorem gd_lo {L : List Nat} {y j : Nat} (h : j < L.length) : (L ++ [y]).getD j 0 = L.getD j 0 := gd_app h
theorem gd_hi {L : List Nat} {y : Nat} : (L ++ [y]).getD L.length 0 = y := by
  rw [List.getD_eq_getElem?_getD, List.getElem?_append_right (Nat.le_refl _), Nat.sub_self]
  rfl

theorem c_X9_addKid (sz : Nat) {h : AH} {m : Nat} {w : Nat → Nat → Int} {u : Nat → Int} (hM : MoW h m w u) {d : Nat} {K : Nat → List Nat} (hK : RmK (w 0) d K) (hKB : KB d K) {p y : Nat} (hp : p ≤ d) (hy : y ≤ 40) (hl : (K p).length < 40) : CC mX9_addKid 1 0 0 [.ref m, .int (zI p), .int (zI y)] sz h (QV (fun h' => ∃ r', Sm (w 0) r' (2 + 52 * p + 11) (2 + 52 * p + 52) ∧ RmK r' d (fU K p (K p ++ [y])) ∧ MoW h' m (fU w 0 r') u ∧ Fr h h' m (m + 17))) := by
  refine CC.intro [some (.ref m), some (.int (zI p)), some (.int (zI y))] pfX9_addKid rfl rfl ?_
  have hM0 := hM
  unfold MoW at hM
  have hd := hKB.1
  have hkl := hK.at (x := (p : Int)) (by omega) (by omega)
  rw [Int.toNat_natCast] at hkl
  refine x_aload_n dX9_addKid_0 rfl ?_
  refine x_iload_n dX9_addKid_1 rfl ?_
  refine x_bipush dX9_addKid_2 (by decide) ?_
  refine x_aload_n dX9_addKid_4 rfl ?_
  refine x_iload_n dX9_addKid_5 rfl ?_
  refine x_bipush dX9_addKid_6 (by decide) ?_
  refine p_V dX9_addKid_8 lX9_64 (c_X9_of sz hM0 (x := (p : Int)) (v := 11) (by omega)) hM.1 rfl rfl rfl rfl (by decide) ?_
  rw [hkl]
  refine x_iadd dX9_addKid_11 ?_
  refine x_iload_n dX9_addKid_12 rfl ?_
  refine v_V dX9_addKid_13 lX9_91 (c_X9_to sz hM0 (x := (p : Int)) (v := 12 + ((K p).length : Int)) (z := (y : Int)) (by omega)) hM.1 rfl rfl rfl rfl (by decide) (fun h1 ⟨hM1, hF1⟩ => ?_)
  obtain ⟨w1, hw1⟩ : ∃ w1, w1 = fU w 0 (zU (w 0) (2 + 52 * (p : Int) + (12 + ((K p).length : Int))).toNat (y : Int)) := ⟨_, rfl⟩
  rw [← hw1] at hM1
  have hk2 : w1 0 (2 + 52 * (p : Int) + 11).toNat = ((K p).length : Int) := by rw [hw1, fU_s, zU_n (by omega)]; exact hkl
  refine x_aload_n dX9_addKid_16 rfl ?_
  refine x_iload_n dX9_addKid_17 rfl ?_
  refine x_bipush dX9_addKid_18 (by decide) ?_
  refine x_aload_n dX9_addKid_20 rfl ?_
  refine x_iload_n dX9_addKid_21 rfl ?_
  refine x_bipush dX9_addKid_22 (by decide) ?_
  refine p_V dX9_addKid_24 lX9_64 (c_X9_of sz hM1 (x := (p : Int)) (v := 11) (by omega)) hM1.1 rfl rfl rfl rfl (by decide) ?_
  rw [hk2]
  refine x_iconst dX9_addKid_27 ?_
  refine x_iadd dX9_addKid_28 ?_
  refine v_V dX9_addKid_29 lX9_91 (c_X9_to sz hM1 (x := (p : Int)) (v := 11) (z := ((K p).length : Int) + 1) (by omega)) hM1.1 rfl rfl rfl rfl (by decide) (fun h2 ⟨hM2, hF2⟩ => ?_)
  refine x_vreturn dX9_addKid_32 rfl ?_
  rw [hw1, fU_o, fU_s] at hM2
  refine ⟨rfl, _, fun i hi => ?_, hK.upd hKB (fun i hi => ?_) ?_ (fun j hj => ?_), hM2, hF1.tr hF2⟩
  · rw [zU_n (by omega), zU_n (by omega)]
  · rw [zU_n (by omega), zU_n (by omega)]
  · rw [show 2 + 52 * p + 11 = (2 + 52 * (p : Int) + 11).toNat by omega, zU_s, List.length_append, List.length_singleton]
    omega
  · rw [List.length_append, List.length_singleton] at hj
    rw [zU_n (by omega)]
    by_cases q : j = (K p).length
    · rw [q, gd_hi, show 2 + 52 * p + (12 + (K p).length) = (2 + 52 * (p : Int) + (12 + ((K p).length : Int))).toNat by omega, zU_s]
    · rw [zU_n (by omega), gd_lo (by omega)]
      exact (hK p hp).2 j (by omega)
theorem c_X9_make (sz : Nat) {h : AH} {m : Nat} {w : Nat → Nat → Int} {u : Nat → Int} (hM : MoW h m w u) {x : Nat} (hx : x ≤ 40) : CC mX9_make 1 0 0 [.ref m, .int (zI x)] sz h (QV (fun h' => ∃ r', Sm (w 0) r' (2 + 52 * x) (2 + 52 * x + 52) ∧ (r' (2 + 52 * x) = 1 ∧ ∀ i, 1 ≤ i → i < 52 → r' (2 + 52 * x + i) = 0) ∧ MoW h' m (fU w 0 r') u ∧ Fr h h' m (m + 17))) := by
  refine CC.intro [some (.ref m), some (.int (zI x)), none] pfX9_make rfl rfl ?_
  have hM0 := hM
  unfold MoW at hM
  refine x_iconst dX9_make_0 ?_
  refine x_istore_n dX9_make_1 rfl rfl rfl ?_
  refine x_loop (fun s : AH × (Nat → Int) × Int => s.1) (fun s => [some (.ref m), some (.int (zI (x : Int))), some (.int (zI s.2.2))]) (fun s => 0 ≤ s.2.2 ∧ s.2.2 ≤ 52 ∧ Sm (w 0) s.2.1 (2 + 52 * x) (2 + 52 * x + 52) ∧ (∀ i : Nat, (i : Int) < s.2.2 → s.2.1 (2 + 52 * x + i) = 0) ∧ MoW s.1 m (fU w 0 s.2.1) u ∧ Fr h s.1 m (m + 17)) (fun s => (52 - s.2.2).toNat) (h, w 0, 0) rfl rfl ⟨by dsimp only; omega, by dsimp only; omega, fun i hi => rfl, fun i hi => by dsimp only at hi; omega, by have qe0q : fU w 0 (w 0) = w := (by funext k; by_cases q : k = 0; (rw [q, fU_s]); (rw [fU_n q])); dsimp only; rw [qe0q]; exact hM0, Fr.rf⟩ ?_
  clear hM hM0
  rintro ⟨h1, r1, k⟩ ⟨hk0, hk1, hS, hz, hM, hG⟩ ihq
  try dsimp only at *
  refine x_iload_n dX9_make_2 rfl ?_
  refine x_bipush dX9_make_3 (by decide) ?_
  refine x_icmp_ge dX9_make_5 ⟨by omega, by omega⟩ ⟨by omega, by omega⟩ (fun qc5q => ?_) (fun qc5q => ?_)
  · refine x_aload_n dX9_make_21 rfl ?_
    refine x_iload_n dX9_make_22 rfl ?_
    refine x_iconst dX9_make_23 ?_
    refine x_iconst dX9_make_24 ?_
    refine v_V dX9_make_25 lX9_91 (c_X9_to sz hM (x := (x : Int)) (v := 0) (z := 1) (by omega)) hM.1 rfl rfl rfl rfl (by decide) (fun h2 ⟨hM2, hF2⟩ => ?_)
    refine x_vreturn dX9_make_28 rfl ?_
    rw [fU_o, fU_s] at hM2
    refine ⟨rfl, zU r1 (2 + 52 * (x : Int) + 0).toNat 1, fun i hi => ?_, ⟨?_, fun i i1 i2 => ?_⟩, hM2, hG.tr hF2⟩
    · rw [zU_n (by omega)]
      exact hS i hi
    · rw [show 2 + 52 * x = (2 + 52 * (x : Int) + 0).toNat by omega, zU_s]
    · rw [zU_n (by omega)]
      exact hz i (by omega)
  · refine x_aload_n dX9_make_8 rfl ?_
    refine x_iload_n dX9_make_9 rfl ?_
    refine x_iload_n dX9_make_10 rfl ?_
    refine x_iconst dX9_make_11 ?_
    refine v_V dX9_make_12 lX9_91 (c_X9_to sz hM (x := (x : Int)) (v := k) (z := 0) (by omega)) hM.1 rfl rfl rfl rfl (by decide) (fun h2 ⟨hM2, hF2⟩ => ?_)
    refine x_iinc dX9_make_15 rfl rfl rfl ?_
    refine x_goto dX9_make_18 ?_
    rw [fU_o, fU_s] at hM2
    refine ihq (h2, zU r1 (2 + 52 * (x : Int) + k).toNat 0, k + 1) ⟨by dsimp only; omega, by dsimp only; omega, fun i hi => ?_, fun i hi => ?_, hM2, hG.tr hF2⟩ (by dsimp only; omega)
    · dsimp only
      rw [zU_n (by omega)]
      exact hS i hi
    · dsimp only at hi ⊢
      by_cases q : (i : Int) = k
      · rw [show 2 + 52 * x + i = (2 + 52 * (x : Int) + k).toNat by omega, zU_s]
      · rw [zU_n (by omega)]
        exact hz i (by omega)
theorem c_X9_writeText (sz : Nat) {h : AH} {m : Nat} {w : Nat → Nat → Int} {u : Nat → Int} (hM : MoW h m w u) {t : List Int} (hT : TxR w u t) (hTB : TyB t) (ht : t.length ≤ 8) {x : Nat} (hx : x ≤ 40) : CC mX9_writeText 1 0 0 [.ref m, .int (zI x)] sz h (QV (fun h' => ∃ r', Sm (w 0) r' (2 + 52 * x + 1) (2 + 52 * x + 10) ∧ r' (2 + 52 * x + 1) = t.length ∧ (∀ j, j < t.length → r' (2 + 52 * x + (2 + j)) = t.getD j 0) ∧ MoW h' m (fU w 0 r') u ∧ Fr h h' m (m + 17))) := by
  refine CC.intro [some (.ref m), some (.int (zI x)), none] pfX9_writeText rfl rfl ?_
  have hM0 := hM
  unfold MoW at hM
  have hTu := hT.1
  refine x_aload_n dX9_writeText_0 rfl ?_
  refine x_iload_n dX9_writeText_1 rfl ?_
  refine x_iconst dX9_writeText_2 ?_
  refine x_aload_n dX9_writeText_3 rfl ?_
  refine s_get dX9_writeText_4 fX9_95 hM rfl ?_
  refine v_V dX9_writeText_7 lX9_91 (c_X9_to sz hM0 (x := (x : Int)) (v := 1) (z := u 2) (by omega)) hM.1 rfl rfl rfl rfl (by decide) (fun h1 ⟨hM1, hF1⟩ => ?_)
  refine x_iconst dX9_writeText_10 ?_
  refine x_istore_n dX9_writeText_11 rfl rfl rfl ?_
  refine x_loop (fun s : AH × (Nat → Int) × Int => s.1) (fun s => [some (.ref m), some (.int (zI (x : Int))), some (.int (zI s.2.2))]) (fun s => 0 ≤ s.2.2 ∧ s.2.2 ≤ t.length ∧ Sm (w 0) s.2.1 (2 + 52 * x + 1) (2 + 52 * x + 10) ∧ s.2.1 (2 + 52 * x + 1) = t.length ∧ (∀ i : Nat, (i : Int) < s.2.2 → s.2.1 (2 + 52 * x + (2 + i)) = t.getD i 0) ∧ MoW s.1 m (fU w 0 s.2.1) u ∧ Fr h s.1 m (m + 17)) (fun s => (t.length - s.2.2).toNat) (h1, zU (w 0) (2 + 52 * (x : Int) + 1).toNat (u 2), 0) rfl rfl ⟨by dsimp only; omega, by dsimp only; omega, fun i hi => ?_, ?_, fun i hi => by dsimp only at hi; omega, hM1, hF1⟩ ?_
  · dsimp only
    rw [zU_n (by omega)]
  · dsimp only
    rw [show 2 + 52 * x + 1 = (2 + 52 * (x : Int) + 1).toNat by omega, zU_s, hTu]
  clear hM hM0 hM1
  rintro ⟨h2, r1, k⟩ ⟨hk0, hk1, hS, hz0, hz, hM, hG⟩ ihq
  try dsimp only at *
  have hM0 := hM
  unfold MoW at hM
  refine x_iload_n dX9_writeText_12 rfl ?_
  refine x_aload_n dX9_writeText_13 rfl ?_
  refine s_get dX9_writeText_14 fX9_95 hM rfl ?_
  refine x_icmp_ge dX9_writeText_17 ⟨by omega, by omega⟩ ⟨by omega, by omega⟩ (fun qc17q => ?_) (fun qc17q => ?_)
  · refine x_vreturn dX9_writeText_40 rfl ?_
    exact ⟨rfl, r1, hS, hz0, fun j hj => hz j (by omega), hM0, hG⟩
  · refine x_aload_n dX9_writeText_20 rfl ?_
    refine x_iload_n dX9_writeText_21 rfl ?_
    refine x_iconst dX9_writeText_22 ?_
    refine x_iload_n dX9_writeText_23 rfl ?_
    refine x_iadd dX9_writeText_24 ?_
    refine x_aload_n dX9_writeText_25 rfl ?_
    refine s_get dX9_writeText_26 fX9_41 hM rfl ?_
    refine x_iload_n dX9_writeText_29 rfl ?_
    have hwk : fU w 0 r1 10 k.toNat = t.getD k.toNat 0 := hT.2 _ (by omega)
    have htk := hTB.at k.toNat
    refine s_cald dX9_writeText_30 hM rfl rfl ⟨by omega, by omega⟩ ?_
    rw [hwk]
    refine v_V dX9_writeText_31 lX9_91 (c_X9_to sz hM0 (x := (x : Int)) (v := 2 + k) (z := t.getD k.toNat 0) (by omega)) hM.1 rfl rfl rfl rfl (by decide) (fun h3 ⟨hM2, hF2⟩ => ?_)
    refine x_iinc dX9_writeText_34 rfl rfl rfl ?_
    refine x_goto dX9_writeText_37 ?_
    rw [fU_o, fU_s] at hM2
    refine ihq (h3, zU r1 (2 + 52 * (x : Int) + (2 + k)).toNat (t.getD k.toNat 0), k + 1) ⟨by dsimp only; omega, by dsimp only; omega, fun i hi => ?_, ?_, fun i hi => ?_, hM2, hG.tr hF2⟩ (by dsimp only; omega)
    · dsimp only
      rw [zU_n (by omega)]
      exact hS i hi
    · dsimp only
      rw [zU_n (by omega)]
      exact hz0
    · dsimp only at hi ⊢
      by_cases q : (i : Int) = k
      · rw [show 2 + 52 * x + (2 + i) = (2 + 52 * (x : Int) + (2 + k)).toNat by omega, zU_s, show i = k.toNat by omega]
      · rw [zU_n (by omega)]
        exact hz i (by omega)
theorem c_X9_takeKid (sz : Nat) {h : AH} {m : Nat} {w : Nat → Nat → Int} {u : Nat → Int} (hM : MoW h m w u) {d : Nat} {K : Nat → List Nat} (hK : RmK (w 0) d K) (hKB : KB d K) {p k : Nat} (hp : p ≤ d) (hk : k < (K p).length) : CC mX9_takeKid 2 0 0 [.ref m, .int (zI p), .int (zI k)] sz h (QV (fun h' => ∃ r', Sm (w 0) r' (2 + 52 * p + 11) (2 + 52 * p + 52) ∧ RmK r' d (fU K p ((K p).take k ++ (K p).drop (k + 1))) ∧ MoW h' m (fU w 0 r') u ∧ Fr h h' m (m + 17))) := by
  refine CC.intro [some (.ref m), some (.int (zI p)), some (.int (zI k)), none] pfX9_takeKid rfl rfl ?_
  have hM0 := hM
  unfold MoW at hM
  have hd := hKB.1
  have hkl := hK.at (x := (p : Int)) (by omega) (by omega)
  rw [Int.toNat_natCast] at hkl
  have hk40 := (hKB.2 p hp).1
  refine x_aload_n dX9_takeKid_0 rfl ?_
  refine x_iload_n dX9_takeKid_1 rfl ?_
  refine x_bipush dX9_takeKid_2 (by decide) ?_
  refine x_aload_n dX9_takeKid_4 rfl ?_
  refine x_iload_n dX9_takeKid_5 rfl ?_
  refine x_bipush dX9_takeKid_6 (by decide) ?_
  refine p_V dX9_takeKid_8 lX9_64 (c_X9_of sz hM0 (x := (p : Int)) (v := 11) (by omega)) hM.1 rfl rfl rfl rfl (by decide) ?_
  rw [hkl]
  refine x_iconst dX9_takeKid_11 ?_
  refine x_isub dX9_takeKid_12 ?_
  refine v_V dX9_takeKid_13 lX9_91 (c_X9_to sz hM0 (x := (p : Int)) (v := 11) (z := ((K p).length : Int) - 1) (by omega)) hM.1 rfl rfl rfl rfl (by decide) (fun h1 ⟨hM1, hF1⟩ => ?_)
  refine x_iload_n dX9_takeKid_16 rfl ?_
  refine x_istore_n dX9_takeKid_17 rfl rfl rfl ?_
  refine x_loop (fun s : AH × (Nat → Int) × Int => s.1) (fun s => [some (.ref m), some (.int (zI (p : Int))), some (.int (zI (k : Int))), some (.int (zI s.2.2))]) (fun s => k ≤ s.2.2 ∧ s.2.2 ≤ (K p).length - 1 ∧ Sm (w 0) s.2.1 (2 + 52 * p + 11) (2 + 52 * p + 52) ∧ s.2.1 (2 + 52 * p + 11) = (K p).length - 1 ∧ (∀ i : Nat, i < (K p).length → s.2.1 (2 + 52 * p + (12 + i)) = if k ≤ i ∧ (i : Int) < s.2.2 then ((K p).getD (i + 1) 0 : Int) else ((K p).getD i 0 : Int)) ∧ MoW s.1 m (fU w 0 s.2.1) u ∧ Fr h s.1 m (m + 17)) (fun s => ((K p).length - s.2.2).toNat) (h1, zU (w 0) (2 + 52 * (p : Int) + 11).toNat (((K p).length : Int) - 1), k) rfl rfl ⟨by dsimp only; omega, by dsimp only; omega, fun i hi => ?_, ?_, fun i hi => ?_, hM1, hF1⟩ ?_
  · dsimp only
    rw [zU_n (by omega)]
  · dsimp only
    rw [show 2 + 52 * p + 11 = (2 + 52 * (p : Int) + 11).toNat by omega, zU_s]
  · dsimp only
    rw [zU_n (by omega), if_neg (by omega)]
    exact (hK p hp).2 i hi
  clear hM hM0 hM1
  rintro ⟨h2, r1, x⟩ ⟨hx0, hx1, hS, hz0, hz, hM, hG⟩ ihq
  try dsimp only at *
  have hlen : fU w 0 r1 0 (2 + 52 * (p : Int) + 11).toNat = ((K p).length : Int) - 1 := by
    rw [fU_s, show (2 + 52 * (p : Int) + 11).toNat = 2 + 52 * p + 11 by omega]
    exact hz0
  have hkx : x + 1 < (K p).length → fU w 0 r1 0 (2 + 52 * (p : Int) + (12 + (x + 1))).toNat = ((K p).getD (x.toNat + 1) 0 : Int) := fun q => by
    have q1 := hz (x.toNat + 1) (by omega)
    rw [if_neg (by omega)] at q1
    rw [fU_s, show (2 + 52 * (p : Int) + (12 + (x + 1))).toNat = 2 + 52 * p + (12 + (x.toNat + 1)) by omega]
    exact q1
  refine x_iload_n dX9_takeKid_18 rfl ?_
  refine x_aload_n dX9_takeKid_19 rfl ?_
  refine x_iload_n dX9_takeKid_20 rfl ?_
  refine x_bipush dX9_takeKid_21 (by decide) ?_
  refine p_V dX9_takeKid_23 lX9_64 (c_X9_of sz hM (x := (p : Int)) (v := 11) (by omega)) hM.1 rfl rfl rfl rfl (by decide) ?_
  rw [hlen]
  refine x_icmp_ge dX9_takeKid_26 ⟨by omega, by omega⟩ ⟨by omega, by omega⟩ (fun qc26q => ?_) (fun qc26q => ?_)
  · refine x_vreturn dX9_takeKid_52 rfl ?_
    have hL : ((K p).take k ++ (K p).drop (k + 1)).length = (K p).length - 1 := by
      rw [List.length_append, List.length_take, List.length_drop]
      omega
    refine ⟨rfl, r1, hS, hK.upd hKB hS (by rw [hz0, hL]; omega) (fun j hj => ?_), hM, hG⟩
    rw [hL] at hj
    rw [hz j (by omega)]
    by_cases q : k ≤ j
    · rw [if_pos (by omega), List.getD_eq_getElem?_getD, List.getD_eq_getElem?_getD, List.getElem?_append_right (by rw [List.length_take]; omega), List.length_take, List.getElem?_drop, show k + 1 + (j - min k (K p).length) = j + 1 by omega]
    · rw [if_neg (by omega), List.getD_eq_getElem?_getD, List.getD_eq_getElem?_getD, List.getElem?_append_left (by rw [List.length_take]; omega), List.getElem?_take_of_lt (by omega)]
  · refine x_aload_n dX9_takeKid_29 rfl ?_
    refine x_iload_n dX9_takeKid_30 rfl ?_
    refine x_bipush dX9_takeKid_31 (by decide) ?_
    refine x_iload_n dX9_takeKid_33 rfl ?_
    refine x_iadd dX9_takeKid_34 ?_
    refine x_aload_n dX9_takeKid_35 rfl ?_
    refine x_iload_n dX9_takeKid_36 rfl ?_
    refine x_iload_n dX9_takeKid_37 rfl ?_
    refine x_iconst dX9_takeKid_38 ?_
    refine x_iadd dX9_takeKid_39 ?_
    refine p_V dX9_takeKid_40 lX9_71 (c_X9_kid sz hM (x := (p : Int)) (v := x + 1) (by omega)) hM.1 rfl rfl rfl rfl (by decide) ?_
    rw [hkx (by omega)]
    refine v_V dX9_takeKid_43 lX9_91 (c_X9_to sz hM (x := (p : Int)) (v := 12 + x) (z := ((K p).getD (x.toNat + 1) 0 : Int)) (by omega)) hM.1 rfl rfl rfl rfl (by decide) (fun h3 ⟨hM2, hF2⟩ => ?_)
    refine x_iinc dX9_takeKid_46 rfl rfl rfl ?_
    refine x_goto dX9_takeKid_49 ?_
    rw [fU_o, fU_s] at hM2
    refine ihq (h3, zU r1 (2 + 52 * (p : Int) + (12 + x)).toNat ((K p).getD (x.toNat + 1) 0 : Int), x + 1) ⟨by dsimp only; omega, by dsimp only; omega, fun i hi => ?_, ?_, fun i hi => ?_, hM2, hG.tr hF2⟩ (by dsimp only; omega)
    · dsimp only
      rw [zU_n (by omega)]
      exact hS i hi
    · dsimp only
      rw [zU_n (by omega)]
      exact hz0
    · dsimp only
      by_cases q : (i : Int) = x
      · rw [show 2 + 52 * p + (12 + i) = (2 + 52 * (p : Int) + (12 + x)).toNat by omega, zU_s, if_pos (by omega), show x.toNat = i by omega]
      · rw [zU_n (by omega), hz i hi]
        by_cases q2 : k ≤ i ∧ (i : Int) < x
        · rw [if_pos q2, if_pos (by omega)]
        · rw [if_neg q2, if_neg (by omega)]
theorem c_X9_mayStand (sz : Nat) {h : AH} {m : Nat} {w : Nat → Nat → Int} {u : Nat → Int} (hM : MoW h m w u) {d : Nat} {K : Nat → List Nat} (hK : RmK (w 0) d K) (hKB : KB d K) {x p : Nat} (hx : x ≤ d) (hp : p ≤ d) : CC mX9_mayStand 3 0 0 [.ref m, .int (zI x), .int (zI p)] sz h (QI (fun z h' => (((Rc K x p ∨ x ∈ K p) ∧ z = 0) ∨ (¬ (Rc K x p ∨ x ∈ K p) ∧ z = 1)) ∧ ∃ iw qu, MoW h' m (fU (fU w 8 iw) 9 qu) u ∧ Fr h h' m (m + 17))) := by
  refine CC.intro [some (.ref m), some (.int (zI x)), some (.int (zI p))] pfX9_mayStand rfl rfl ?_
  have hM0 := hM
  unfold MoW at hM
  have hd := hKB.1
  refine x_aload_n dX9_mayStand_0 rfl ?_
  refine x_iload_n dX9_mayStand_1 rfl ?_
  refine i_V dX9_mayStand_2 lX9_129 (c_X9_layWithin sz hM0 hK hKB hx) hM.1 rfl rfl rfl rfl (by decide) (fun n h1 ⟨iw, qu, Q, hQ, hQd, hiw, hn, hM1, hF1⟩ => ?_)
  have hM2 : SO h1 h1 m 17 9 (moF m u) (moB w iw qu) := hM1
  have hip := hiw p (by omega)
  have hli := lfi_iff (K p) x
  have hlr := lfi_r (K p) x
  have hk40 := (hKB.2 p hp).1
  clear hM
  refine x_pop dX9_mayStand_5 rfl ?_
  refine x_aload_n dX9_mayStand_6 rfl ?_
  have hM := hM2
  refine s_get dX9_mayStand_7 fX9_34 hM rfl ?_
  refine x_iload_n dX9_mayStand_10 rfl ?_
  refine s_zald dX9_mayStand_11 hM rfl rfl ⟨by omega, by omega⟩ ?_
  rw [Int.toNat_natCast, hip]
  refine x_ifB_ne dX9_mayStand_12 (fun qc12q => ?_) (fun qc12q => ?_)
  · refine x_iconst dX9_mayStand_30 ?_
    refine x_zreturn dX9_mayStand_31 rfl (by decide) ?_
    first
      | exact ⟨_, rfl, Or.inl ⟨Or.inl ((hQ p).mp (by assumption)), rfl⟩, iw, qu, hM1, hF1⟩
      | exact ⟨_, rfl, Or.inr ⟨fun q => q.elim (fun q1 => by have := (hQ p).mpr q1; contradiction) (fun q1 => by rcases hpo with q2 | q2; exact q2.2 q1; omega), rfl⟩, iw, qu, hM1, hF1⟩
      | exact ⟨_, rfl, Or.inl ⟨Or.inr (by rcases hpo with q2 | q2; omega; exact q2.2.2), rfl⟩, iw, qu, hM1, hF1⟩
  · refine x_aload_n dX9_mayStand_15 rfl ?_
    refine x_iload_n dX9_mayStand_16 rfl ?_
    refine x_iload_n dX9_mayStand_17 rfl ?_
    refine p_V dX9_mayStand_18 lX9_132 (c_X9_position sz hM1 (d := d) (K := K) hK hKB hp (y := x) (by omega)) hM.1 rfl rfl rfl rfl (by decide) ?_
    refine x_bipush dX9_mayStand_21 (by decide) ?_
    have hpo : poM (K p) x = -6 ∧ x ∉ K p ∨ 0 ≤ poM (K p) x ∧ poM (K p) x < 120 ∧ x ∈ K p := by
      unfold poM
      by_cases q : lfi (K p) x < 0
      · rw [if_pos q]
        exact Or.inl ⟨rfl, hli.mp (by omega)⟩
      · rw [if_neg q]
        exact Or.inr ⟨by omega, by omega, Classical.byContradiction fun q1 => by have := hli.mpr q1; omega⟩
    refine x_icmp_ne dX9_mayStand_23 ⟨by omega, by omega⟩ ⟨by omega, by omega⟩ (fun qc23q => ?_) (fun qc23q => ?_)
    · refine x_iconst dX9_mayStand_30 ?_
      refine x_zreturn dX9_mayStand_31 rfl (by decide) ?_
      first
        | exact ⟨_, rfl, Or.inl ⟨Or.inl ((hQ p).mp (by assumption)), rfl⟩, iw, qu, hM1, hF1⟩
        | exact ⟨_, rfl, Or.inr ⟨fun q => q.elim (fun q1 => by have := (hQ p).mpr q1; contradiction) (fun q1 => by rcases hpo with q2 | q2; exact q2.2 q1; omega), rfl⟩, iw, qu, hM1, hF1⟩
        | exact ⟨_, rfl, Or.inl ⟨Or.inr (by rcases hpo with q2 | q2; omega; exact q2.2.2), rfl⟩, iw, qu, hM1, hF1⟩
    · refine x_iconst dX9_mayStand_26 ?_
      refine x_goto dX9_mayStand_27 ?_
      refine x_zreturn dX9_mayStand_31 rfl (by decide) ?_
      first
        | exact ⟨_, rfl, Or.inl ⟨Or.inl ((hQ p).mp (by assumption)), rfl⟩, iw, qu, hM1, hF1⟩
        | exact ⟨_, rfl, Or.inr ⟨fun q => q.elim (fun q1 => by have := (hQ p).mpr q1; contradiction) (fun q1 => by rcases hpo with q2 | q2; exact q2.2 q1; omega), rfl⟩, iw, qu, hM1, hF1⟩
        | exact ⟨_, rfl, Or.inl ⟨Or.inr (by rcases hpo with q2 | q2; omega; exact q2.2.2), rfl⟩, iw, qu, hM1, hF1⟩
