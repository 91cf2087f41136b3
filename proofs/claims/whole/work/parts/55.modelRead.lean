theorem RdI.all {x : Nat} {s s' : RS} {c : Int} (hB : RdB x s) (hI : RdI s) (h : ∀ y, y ≤ s.2.2.2.1 → Rc (kid s.2.2.2.2.2) 0 y) (e : rdS s c = some s') : ∀ y, y ≤ s'.2.2.2.1 → Rc (kid s'.2.2.2.2.2) 0 y := by
  obtain ⟨op, lt, sg, d, le, L⟩ := s
  obtain ⟨h1, h2, h3, h4, h5⟩ := hI
  dsimp only at h h1 h2 h3 h4 h5
  have htr := h4 (op.length - 1) (by omega)
  have hA : ∀ y, AdE (kid L) (kid (L ++ [(rtp op, y)])) (rtp op) y := fun y => by
    rw [kid_snoc]
    exact AdE.of _ _ _
  unfold rdS at e
  dsimp only at e
  split at e
  · split at e
    · split at e
      · have hs := Option.some.inj e
        subst hs
        intro y hy
        dsimp only at hy ⊢
        by_cases q : y = d + 1
        · rw [q]
          exact ((hA (d + 1)).up htr.1).st ((hA (d + 1) _ _).mpr (Or.inr ⟨rfl, rfl⟩))
        · exact (hA (d + 1)).up (h y (by omega))
      · split at e
        · cases e
        · have hs := Option.some.inj e
          subst hs
          intro y hy
          exact (hA _).up (h y hy)
    · cases e
  · split at e
    · have hs := Option.some.inj e
      subst hs
      exact h
    · split at e
      · have hs := Option.some.inj e
        subst hs
        exact h
      · split at e
        · have hs := Option.some.inj e
          subst hs
          exact h
        · cases e
theorem rdP_all (t : List Int) : ∀ (n : Nat) (s : RS), rdP t n = some s → ∀ y, y ≤ s.2.2.2.1 → Rc (kid s.2.2.2.2.2) 0 y
  | 0, s, h => by
    have q : rd0 = s := Option.some.inj h
    rw [← q]
    intro y hy
    have h2 : y ≤ 0 := hy
    have h3 : y = 0 := by omega
    rw [h3]
    exact Rc.rf _ _
  | n + 1, s, h => by
    rw [rdP_s] at h
    cases q : rdP t n with
    | none =>
      rw [q] at h
      cases h
    | some s0 =>
      rw [q] at h
      exact RdI.all (rdP_B t n s0 q) (rdP_I t n s0 q) (rdP_all t n s0 q) h
theorem lyN_f (K : Nat → List Nat) : ∀ (n lev : Nat) (o : Int) (cs : List Nat), ∀ q ∈ lyF K [] n lev o cs, q.2.2 = 0
  | 0, _, _, _ => fun q hq => by cases hq
  | n + 1, lev, o, cs => fun q hq => by
    rw [lyF] at hq
    obtain ⟨y, hy, h1⟩ := List.mem_flatMap.mp hq
    rcases List.mem_cons.mp h1 with h2 | h2
    · rw [h2]
      dsimp only
      unfold gF
      split
      · rw [pf_out (by simp)]
        rfl
      · rfl
    · exact lyN_f K n (lev + 1) _ _ q h2
theorem pf_N (L : List LK) (i : Nat) : pf (lyN L) i = 0 := by
  unfold pf
  rw [List.getD_eq_getElem?_getD]
  cases q : (lyN L)[i]? with
  | none => rfl
  | some z => exact lyN_f _ _ _ _ _ z (List.mem_of_getElem? q)
theorem sk_nv {a b : List PE} (h : skL a = skL b) : a.length = b.length ∧ ∀ i, i < a.length → pn a i = pn b i ∧ pv a i = pv b i := by
  have hl : a.length = b.length := by rw [← skL_len a, h, skL_len]
  refine ⟨hl, fun i hi => ?_⟩
  have h1 := skL_get hi
  rw [h, skL_get (by omega)] at h1
  have h2 := Option.some.inj h1
  exact ⟨(congrArg (·.1) h2).symm, (congrArg (·.2) h2).symm⟩
theorem MoC.eqU {w : Nat → Nat → Int} {u u' : Nat → Int} {A : AS} (h : MoC w u A) (qe0q : u' 0 = u 0) (qe1q : u' 1 = u 1) (qe2q : u' 2 = u 2) : MoC w u' A := by
  unfold MoC TxR at *
  rw [qe0q, qe1q, qe2q]
  exact h
theorem RmK.cg {r : Nat → Int} {d : Nat} {K K' : Nat → List Nat} (h : RmK r d K) (e : ∀ x, x ≤ d → K' x = K x) : RmK r d K' := fun x hx => by
  rw [e x hx]
  exact h x hx
/-- children written: all of the nodes below y, and k of the node y -/
def Kd (L : List LK) (y k : Nat) : Nat → List Nat := fun x => if x < y then kid L x else if x = y then (kid L y).take k else []
theorem Kd_sub (L : List LK) (y k u : Nat) : (Kd L y k u).Sublist (kid L u) := by
  unfold Kd
  split
  · exact List.Sublist.refl _
  · split
    · rename_i q
      rw [q]
      exact List.take_sublist _ _
    · exact List.nil_sublist _
theorem Kd_up (L : List LK) {y k : Nat} (hk : k < (kid L y).length) : fU (Kd L y k) y (Kd L y k y ++ [(kid L y).getD k 0]) = Kd L y (k + 1) := by
  funext u
  unfold Kd
  by_cases q : u = y
  · subst q
    rw [fU_s, if_neg (by omega), if_pos rfl, if_neg (by omega), if_pos rfl]
    have h1 := take_nx (l := kid L u) (i := (k : Int)) (by omega) (by omega)
    rw [Int.toNat_natCast, show ((k : Int) + 1).toNat = k + 1 by omega] at h1
    exact h1.symm
  · rw [fU_n q]
    by_cases q2 : u < y
    · rw [if_pos q2, if_pos q2]
    · rw [if_neg q2, if_neg q, if_neg q2, if_neg q]
theorem Kd_nx (L : List LK) (y : Nat) : Kd L (y + 1) 0 = Kd L y (kid L y).length := by
  funext u
  unfold Kd
  by_cases q : u < y
  · rw [if_pos (by omega), if_pos q]
  · by_cases q2 : u = y
    · rw [if_pos (by omega), if_neg q, if_pos q2, q2, List.take_of_length_le (Nat.le_refl _)]
    · rw [if_neg (by omega), if_neg q, if_neg q2]
      split
      · exact List.take_zero
      · rfl
/-- what else is written of the nodes below y -/
def RdT (r : Nat → Int) (d : Nat) (le : Nat → Int) (y : Nat) : Prop := r 0 = (d : Int) ∧ (∀ x, x ≤ d → r (2 + 52 * x) = if x < y ∨ x = 0 then 1 else 0) ∧ (∀ x, 1 ≤ x → x ≤ d → x < y → r (2 + 52 * x + 1) = 1 ∧ r (2 + 52 * x + 2) = le x) ∧ ∀ x, x ≤ d → r (2 + 52 * x + 10) = 0
theorem RdT.sm {r r' : Nat → Int} {d : Nat} {le : Nat → Int} {y p : Nat} (h : RdT r d le y) (hs : Sm r r' (2 + 52 * p + 11) (2 + 52 * p + 52)) : RdT r' d le y := ⟨(hs _ (by omega)).trans h.1, fun x hx => (hs _ (by omega)).trans (h.2.1 x hx), fun x h1 h2 h3 => ⟨(hs _ (by omega)).trans (h.2.2.1 x h1 h2 h3).1, (hs _ (by omega)).trans (h.2.2.1 x h1 h2 h3).2⟩, fun x hx => (hs _ (by omega)).trans (h.2.2.2 x hx)⟩
theorem RdT.up0 {r : Nat → Int} {d : Nat} {le : Nat → Int} {i0 : Nat} (h : RdT r d le 0) (qe0q : i0 = 2) : RdT (zU r i0 1) d le 1 := by
  refine ⟨(zU_n (by omega)).trans h.1, fun x hx => ?_, fun x h1 h2 h3 => by omega, fun x hx => (zU_n (by omega)).trans (h.2.2.2 x hx)⟩
  by_cases q : x = 0
  · subst q
    rw [qe0q, zU_s, if_pos (Or.inr rfl)]
  · rw [zU_n (by omega), h.2.1 x hx, if_neg (by omega), if_neg (by omega)]
theorem RdT.upY {r : Nat → Int} {d : Nat} {le : Nat → Int} {y i0 i1 i2 : Nat} (h : RdT r d le y) (hy : 1 ≤ y) (qe0q : i0 = 2 + 52 * y) (qe1q : i1 = 2 + 52 * y + 1) (qe2q : i2 = 2 + 52 * y + 2) : RdT (zU (zU (zU r i0 1) i1 1) i2 (le y)) d le (y + 1) := by
  refine ⟨by rw [zU_n (by omega), zU_n (by omega), zU_n (by omega)]; exact h.1, fun x hx => ?_, fun x h1 h2 h3 => ?_, fun x hx => by rw [zU_n (by omega), zU_n (by omega), zU_n (by omega)]; exact h.2.2.2 x hx⟩
  · rw [zU_n (by omega), zU_n (by omega)]
    by_cases q : x = y
    · rw [q, ← qe0q, zU_s, if_pos (Or.inl (by omega))]
    · rw [zU_n (by omega), h.2.1 x hx]
      by_cases q2 : x < y ∨ x = 0
      · rw [if_pos q2, if_pos (by omega)]
      · rw [if_neg q2, if_neg (by omega)]
  · by_cases q : x = y
    · subst q
      refine ⟨?_, ?_⟩
      · rw [zU_n (by omega), ← qe1q, zU_s]
      · rw [← qe2q, zU_s]
    · have h4 := h.2.2.1 x h1 h2 (by omega)
      refine ⟨?_, ?_⟩
      · rw [zU_n (by omega), zU_n (by omega), zU_n (by omega)]
        exact h4.1
      · rw [zU_n (by omega), zU_n (by omega), zU_n (by omega)]
        exact h4.2
theorem RmK.lo {r r' : Nat → Int} {d : Nat} {K : Nat → List Nat} {y : Nat} (h : RmK r d K) (hKB : KB d K) (hs : Sm r r' (2 + 52 * y) (2 + 52 * y + 11)) : RmK r' d K := h.same hKB (fun x i hx h1 h2 => hs _ (by omega))
theorem gd_mem {l : List Nat} {i : Nat} (h : i < l.length) : l.getD i 0 ∈ l := by
  rw [List.getD_eq_getElem?_getD, List.getElem?_eq_getElem h]
  exact List.getElem_mem _
theorem c_X9_readOutline (sz : Nat) {h : AH} {m : Nat} {A : AS} (hMo : MoR h m A) (hIn : In2 A) {z : Int} {A' : AS} (hSp : SpRead A z A') : CC mX9_readOutline 3 0 0 [.ref m] sz h (QI (fun z' h' => z' = z ∧ MoR h' m A' ∧ Fr h h' m (m + 17))) := by
  refine CC.intro [some (.ref m), none, none, none] pfX9_readOutline rfl rfl ?_
  obtain ⟨w, u, hM, hC⟩ := hMo
  have hM0 := hM
  unfold MoW at hM
  have hC0 := hC
  have hIn0 := hIn
  obtain ⟨k1, k2, k3, k4, k5, k6⟩ := hC
  obtain ⟨i1, i2, i3, i4, i5, i6⟩ := hIn
  have hB := i4.1
  have hl60 := i1.1
  refine x_aload_n dX9_readOutline_0 rfl ?_
  refine i_V dX9_readOutline_1 lX9_176 (c_X9_readsFault sz hM0 k6 i1) hM.1 rfl rfl rfl rfl (by decide) (fun z0 h1 ⟨w1, u1, hcase, hw1, hu1, hM1, hF1⟩ => ?_)
  have hC1 : MoC w1 u1 A := (hC0.eq4 (hw1 0 (by omega)) (hw1 1 (by omega)) (hw1 2 (by omega)) (hw1 10 (by omega))).eqU hu1.1 hu1.2.1 hu1.2.2
  have hz0r : -6 ≤ z0 ∧ z0 ≤ 60 := by
    rcases hcase with ⟨x, q, e⟩ | ⟨s, q, e, _⟩
    · have := q.xle
      omega
    · omega
  refine x_istore_n dX9_readOutline_4 rfl rfl rfl ?_
  refine x_iload_n dX9_readOutline_5 rfl ?_
  refine x_bipush dX9_readOutline_6 (by decide) ?_
  refine x_icmp_eq dX9_readOutline_8 ⟨by omega, by omega⟩ ⟨by omega, by omega⟩ (fun qc8q => ?_) (fun qc8q => ?_)
  · obtain ⟨s, hok, -, hRd⟩ : ∃ s, RdOk A.1 s ∧ z0 = -6 ∧ RdM w1 (u1 3) s := by
      rcases hcase with ⟨x, q, e⟩ | q
      · omega
      · exact q
    have hKi := hok.inv
    have hBr := rdP_B A.1 _ s hok.1
    have hd26 : s.2.2.2.1 ≤ 26 := hBr.2.2.1
    have hC2 := hC1
    obtain ⟨l1, l2, l3, l4, l5, l6⟩ := hC2
    refine x_aload_n dX9_readOutline_16 rfl ?_
    refine v_V dX9_readOutline_17 lX9_105 (c_X9_takeSpare sz hM1) hM1.1 rfl rfl rfl rfl (by decide) (fun h2 ⟨ga, hga, hM2, hF2⟩ => ?_)
    have hGa := l1.c1 i4 hga
    refine x_iconst dX9_readOutline_20 ?_
    refine x_istore_n dX9_readOutline_21 rfl rfl rfl ?_
    refine x_loop (fun s : AH × (Nat → Int) × Int => s.1) (fun s => [some (.ref m), some (.int (zI z0)), some (.int (zI s.2.2)), none]) (fun q => 0 ≤ q.2.2 ∧ q.2.2 ≤ 41 ∧ (∀ i : Nat, 2 ≤ i → (i : Int) < 2 + 52 * q.2.2 → q.2.1 i = 0) ∧ MoW q.1 m (fU (fU w1 3 ga) 0 q.2.1) u1 ∧ Fr h q.1 m (m + 17)) (fun q => (41 - q.2.2).toNat) (h2, w1 0, 0) rfl rfl ⟨by dsimp only; omega, by dsimp only; omega, fun i i1 i2 => by dsimp only at i2; omega, hM2, hF1.tr hF2⟩ ?_
    clear hM hM0 hM1 hM2
    rintro ⟨h3, r3, y⟩ ⟨hy0, hy1, hz, hM, hG3⟩ ihY
    try dsimp only at *
    have hM3 := hM
    unfold MoW at hM
    refine x_iload_n dX9_readOutline_22 rfl ?_
    refine x_bipush dX9_readOutline_23 (by decide) ?_
    refine x_icmp_gt dX9_readOutline_25 ⟨by omega, by omega⟩ ⟨by omega, by omega⟩ (fun qc25q => ?_) (fun qc25q => ?_)
    · refine x_aload_n dX9_readOutline_55 rfl ?_
      refine x_iconst dX9_readOutline_56 ?_
      refine x_iconst dX9_readOutline_57 ?_
      refine x_iconst dX9_readOutline_58 ?_
      refine v_V dX9_readOutline_59 lX9_91 (c_X9_to sz hM3 (x := 0) (v := 0) (z := 1) (by omega)) hM3.1 rfl rfl rfl rfl (by decide) (fun h5 ⟨hM5, hF5⟩ => ?_)
      rw [fU_o, fU_s] at hM5
      have hM : SO h5 h5 m 17 9 (moF m u1) (moA (fU (fU w1 3 ga) 0 (zU r3 (2 + 52 * (0 : Int) + 0).toNat 1))) := hM5
      refine x_aload_n dX9_readOutline_62 rfl ?_
      refine s_get dX9_readOutline_63 fX9_7 hM rfl ?_
      refine x_iconst dX9_readOutline_66 ?_
      refine x_aload_n dX9_readOutline_67 rfl ?_
      refine s_get dX9_readOutline_68 fX9_167 hM rfl ?_
      rw [show u1 3 = (s.2.2.2.1 : Int) from hRd.1]
      refine s_iast dX9_readOutline_71 hM rfl rfl ⟨by omega, by omega⟩ (fun h4 hM hF => ?_)
      have hM4 : MoW h4 m (fU (fU w1 3 ga) 0 (zU (zU r3 (2 + 52 * (0 : Int) + 0).toNat 1) (0 : Int).toNat (s.2.2.2.1 : Int))) u1 := hM.st
      have hF4 := hM.fr
      have hG4 := (hG3.tr hF5).tr hF4
      obtain ⟨r4, hr4⟩ : ∃ r4, r4 = zU (zU r3 (2 + 52 * (0 : Int) + 0).toNat 1) (0 : Int).toNat (s.2.2.2.1 : Int) := ⟨_, rfl⟩
      rw [← hr4] at hM4
      have hzz : ∀ i, 3 ≤ i → i < 2134 → r4 i = 0 := fun i i1 i2 => by
        rw [hr4, zU_n (by omega), zU_n (by omega)]
        exact hz i (by omega) (by omega)
      have hK4 : RmK r4 s.2.2.2.1 (Kd s.2.2.2.2.2 (0 : Int).toNat 0) := fun x hx => by
        have qe1q : Kd s.2.2.2.2.2 (0 : Int).toNat 0 x = [] := by
          unfold Kd
          rw [if_neg (by omega)]
          split
          · exact List.take_zero
          · rfl
        rw [qe1q]
        exact ⟨hzz _ (by omega) (by omega), fun j hj => by simp at hj⟩
      have hT4 : RdT r4 s.2.2.2.1 s.2.2.2.2.1 (0 : Int).toNat := by
        refine ⟨by rw [hr4]; exact zU_s _ _ _, fun x hx => ?_, fun x h1 h2 h3 => by omega, fun x hx => hzz _ (by omega) (by omega)⟩
        by_cases q : x = 0
        · subst q
          rw [if_pos (Or.inr rfl), hr4, zU_n (by omega)]
          exact zU_s _ _ _
        · rw [if_neg (by omega)]
          exact hzz _ (by omega) (by omega)
      clear ihY
      refine x_iconst dX9_readOutline_72 ?_
      refine x_istore_n dX9_readOutline_73 rfl rfl rfl ?_
      refine x_loop (fun s : AH × (Nat → Int) × Int => s.1) (fun s => [some (.ref m), some (.int (zI z0)), some (.int (zI s.2.2)), none]) (fun q => 0 ≤ q.2.2 ∧ q.2.2 ≤ (s.2.2.2.1 : Int) + 1 ∧ RmK q.2.1 s.2.2.2.1 (Kd s.2.2.2.2.2 q.2.2.toNat 0) ∧ RdT q.2.1 s.2.2.2.1 s.2.2.2.2.1 q.2.2.toNat ∧ MoW q.1 m (fU (fU w1 3 ga) 0 q.2.1) u1 ∧ Fr h q.1 m (m + 17)) (fun q => ((s.2.2.2.1 : Int) + 1 - q.2.2).toNat) (h4, r4, 0) rfl rfl ⟨by dsimp only; omega, by dsimp only; omega, hK4, hT4, hM4, hG4⟩ ?_
      clear hM hM4
      rintro ⟨h5, r5, y⟩ ⟨hy0, hy1, hK5, hT5, hM, hG5⟩ ihY
      try dsimp only at *
      have hM5 := hM
      unfold MoW at hM
      obtain ⟨y, rfl⟩ : ∃ n : Nat, y = (n : Int) := ⟨y.toNat, by omega⟩
      rw [Int.toNat_natCast] at hK5 hT5
      refine x_iload_n dX9_readOutline_74 rfl ?_
      refine x_aload_n dX9_readOutline_75 rfl ?_
      refine s_get dX9_readOutline_76 fX9_167 hM rfl ?_
      rw [show u1 3 = (s.2.2.2.1 : Int) from hRd.1]
      refine x_icmp_gt dX9_readOutline_79 ⟨by omega, by omega⟩ ⟨by omega, by omega⟩ (fun qc79q => ?_) (fun qc79q => ?_)
      · rw [show y = s.2.2.2.1 + 1 by omega] at hK5 hT5
        have hK5 : RmK r5 s.2.2.2.1 (kid s.2.2.2.2.2) := hK5.cg (fun x hx => by unfold Kd; rw [if_pos (by omega)])
        refine x_aload_n dX9_readOutline_152 rfl ?_
        refine i_V dX9_readOutline_153 lX9_119 (c_X9_layPlaces sz hM5 hK5 hKi.kb hGa.2.1 hB hKi.dp) hM5.1 rfl rfl rfl rfl (by decide) (fun z1 h6 ⟨r7, nx, wy, ol, ⟨hcs, hsame⟩, hM6, hF6⟩ => ?_)
        have hcs2 : ((lyO s.2.2.2.2.2 A.2.2.2.2.2.2.2.2).length ≤ 120 ∧ z1 = 1 ∧ RmP r7 (lyO s.2.2.2.2.2 A.2.2.2.2.2.2.2.2)) ∨ (120 < (lyO s.2.2.2.2.2 A.2.2.2.2.2.2.2.2).length ∧ z1 = 0) := hcs
        have hG6 := hG5.tr hF6
        have hnv := sk_nv (a := lyN s.2.2.2.2.2) (b := lyO s.2.2.2.2.2 A.2.2.2.2.2.2.2.2) ((lyF_sk _ _ _ _ _ _).trans (lyF_sk _ _ _ _ _ _).symm)
        have hI1 : InvS (rdC s (lyN s.2.2.2.2.2)) := ⟨hKi, lyF_sk _ _ _ _ _ _⟩
        refine x_if_ne dX9_readOutline_156 ⟨by omega, by omega⟩ (fun qc156q => ?_) (fun qc156q => ?_)
        · obtain ⟨hlen, -, hRP⟩ : (lyO s.2.2.2.2.2 A.2.2.2.2.2.2.2.2).length ≤ 120 ∧ z1 = 1 ∧ RmP r7 (lyO s.2.2.2.2.2 A.2.2.2.2.2.2.2.2) := by
            rcases hcs2 with q | q
            · exact q
            · omega
          obtain ⟨q2, q3⟩ : z = ((lyN s.2.2.2.2.2).length : Int) ∧ A' = Done A (rdC s (lyN s.2.2.2.2.2)) := by
            rcases hSp with ⟨x, q, _, _⟩ | ⟨s2, a1, a2, a3, a4⟩ | ⟨s2, a1, a2, a3, a4⟩
            · exact (q.no hok).elim
            · rw [a1.eq hok] at a2
              omega
            · rw [a1.eq hok] at a3 a4
              exact ⟨a3, a4⟩
          have hr71 : r7 1 = ((lyN s.2.2.2.2.2).length : Int) := by rw [hRP.1, hnv.1]
          have hQ7 : ∀ k, k < (lyN s.2.2.2.2.2).length → r7 (2134 + 3 * k) = pn (lyN s.2.2.2.2.2) k ∧ r7 (2134 + 3 * k + 1) = pv (lyN s.2.2.2.2.2) k := fun k hk => by
            have qe1q := hRP.2 k (by omega)
            rw [(hnv.2 k hk).1, (hnv.2 k hk).2]
            exact ⟨qe1q.1, qe1q.2.1⟩
          refine x_aload_n dX9_readOutline_166 rfl ?_
          refine v_V dX9_readOutline_167 lX9_126 (c_X9_record sz hM6 (n := A.2.1.length) l3 i2) hM6.1 rfl rfl rfl rfl (by decide) (fun h8 ⟨g, n1, hn1, hg1, hg2, hM8, hF8⟩ => ?_)
          have hG8 := hG6.tr hF8
          refine x_iconst dX9_readOutline_170 ?_
          refine x_istore_n dX9_readOutline_171 rfl rfl rfl ?_
          refine x_loop (fun s : AH × (Nat → Int) × Int => s.1) (fun s => [some (.ref m), some (.int (zI z0)), some (.int (zI s.2.2)), none]) (fun q => 0 ≤ q.2.2 ∧ q.2.2 ≤ (lyN s.2.2.2.2.2).length ∧ (∀ i, i < 2134 → q.2.1 i = r7 i) ∧ (∀ k, k < (lyN s.2.2.2.2.2).length → q.2.1 (2134 + 3 * k) = pn (lyN s.2.2.2.2.2) k ∧ q.2.1 (2134 + 3 * k + 1) = pv (lyN s.2.2.2.2.2) k ∧ ((k : Int) < q.2.2 → q.2.1 (2134 + 3 * k + 2) = 0)) ∧ MoW q.1 m (fU (fU (lyW (fU (fU w1 3 ga) 0 r5) r7 nx wy ol) 1 g) 0 q.2.1) (fU u1 0 ((n1 : Int) + 1)) ∧ Fr h q.1 m (m + 17)) (fun q => ((lyN s.2.2.2.2.2).length - q.2.2).toNat) (h8, r7, 0) rfl rfl ⟨by dsimp only; omega, by dsimp only; omega, fun i _ => rfl, fun k hk => ⟨(hQ7 k hk).1, (hQ7 k hk).2, fun q => by dsimp only at q; omega⟩, hM8, hG8⟩ ?_
          clear hM hM8
          rintro ⟨h9, r9, k⟩ ⟨hk0, hk1, hlo, hQ, hM, hG⟩ ihq
          try dsimp only at *
          have hM9 := hM
          unfold MoW at hM
          have hr1 : r9 1 = ((lyN s.2.2.2.2.2).length : Int) := (hlo 1 (by omega)).trans hr71
          refine x_iload_n dX9_readOutline_172 rfl ?_
          refine x_aload_n dX9_readOutline_173 rfl ?_
          refine s_get dX9_readOutline_174 fX9_7 hM rfl ?_
          refine x_iconst dX9_readOutline_177 ?_
          refine s_iald dX9_readOutline_178 hM rfl rfl ⟨by omega, by omega⟩ ?_
          rw [show fU (fU (lyW (fU (fU w1 3 ga) 0 r5) r7 nx wy ol) 1 g) 0 r9 0 (1 : Int).toNat = ((lyN s.2.2.2.2.2).length : Int) from hr1]
          refine x_icmp_ge dX9_readOutline_179 ⟨by omega, by omega⟩ ⟨by omega, by omega⟩ (fun qc179q => ?_) (fun qc179q => ?_)
          · refine x_aload_n dX9_readOutline_203 rfl ?_
            refine s_get dX9_readOutline_204 fX9_7 hM rfl ?_
            refine x_iconst dX9_readOutline_207 ?_
            refine s_iald dX9_readOutline_208 hM rfl rfl ⟨by omega, by omega⟩ ?_
            rw [show fU (fU (lyW (fU (fU w1 3 ga) 0 r5) r7 nx wy ol) 1 g) 0 r9 0 (1 : Int).toNat = ((lyN s.2.2.2.2.2).length : Int) from hr1]
            refine x_ireturn dX9_readOutline_209 rfl ?_
            rw [q2, q3]
            have hRP9 : RmP r9 (lyN s.2.2.2.2.2) := ⟨hr1, fun j hj => ⟨(hQ j hj).1, (hQ j hj).2.1, by rw [pf_N]; exact (hQ j hj).2.2 (by omega)⟩⟩
            have hR9 : RmR r9 (rdC s (lyN s.2.2.2.2.2)) := by
              refine RmR.lay (r0 := r5) hI1 (fun x _ _ => by unfold rdC; simp) hT5.1 ?_ hK5 ?_ hRP9 (fun i hi hi1 => (hlo i hi).trans (hsame i hi hi1))
              · intro x hx
                have qe1q := hI1.al x
                have qe2q := hT5.2.1 x hx
                unfold rdC at hx qe1q ⊢
                dsimp only at hx qe1q ⊢
                rw [if_pos (Or.inl (by omega))] at qe2q
                rw [if_pos (qe1q.mpr (rdP_all A.1 _ s hok.1 x hx))]
                exact qe2q
              · intro x hx1 hx
                unfold rdC at hx ⊢
                dsimp only at hx ⊢
                have qe1q := hT5.2.2.1 x hx1 hx (by omega)
                refine ⟨qe1q.1, fun j hj => ?_, hT5.2.2.2 x hx⟩
                have hj0 : j = 0 := by simp at hj; omega
                subst hj0
                exact qe1q.2
            exact ⟨_, rfl, rfl, ⟨_, _, hM9, MoC.eq4 (MoC.done (w1 := fU (lyW (fU (fU w1 3 ga) 0 r5) r7 nx wy ol) 0 r9) hC1 hIn0 hn1 hg1 (fun i hi => (hg2 i hi).trans (hga i hi)) hR9 rfl rfl) rfl rfl rfl rfl⟩, hG⟩
          · refine x_aload_n dX9_readOutline_182 rfl ?_
            refine s_get dX9_readOutline_183 fX9_7 hM rfl ?_
            refine x_sipush dX9_readOutline_186 (by decide) ?_
            refine x_iconst dX9_readOutline_189 ?_
            refine x_iload_n dX9_readOutline_190 rfl ?_
            refine x_imul dX9_readOutline_191 ?_
            refine x_iadd dX9_readOutline_192 ?_
            refine x_iconst dX9_readOutline_193 ?_
            refine x_iadd dX9_readOutline_194 ?_
            refine x_iconst dX9_readOutline_195 ?_
            refine s_iast dX9_readOutline_196 hM rfl rfl ⟨by omega, by omega⟩ (fun h10 hM hF => ?_)
            have hM10 : MoW h10 m (fU (fU (lyW (fU (fU w1 3 ga) 0 r5) r7 nx wy ol) 1 g) 0 (zU r9 (2134 + 3 * k + 2).toNat 0)) (fU u1 0 ((n1 : Int) + 1)) := hM.st
            have hF10 := hM.fr
            refine x_iinc dX9_readOutline_197 rfl rfl rfl ?_
            refine x_goto dX9_readOutline_200 ?_
            refine ihq (h10, zU r9 (2134 + 3 * k + 2).toNat 0, k + 1) ⟨by dsimp only; omega, by dsimp only; omega, fun i hi => ?_, fun j hj => ?_, hM10, hG.tr hF10⟩ (by dsimp only; omega)
            · dsimp only
              rw [zU_n (by omega)]
              exact hlo i hi
            · dsimp only
              have qe1q := hQ j hj
              rw [zU_n (by omega), zU_n (by omega)]
              refine ⟨qe1q.1, qe1q.2.1, fun q => ?_⟩
              by_cases q2 : j = k.toNat
              · rw [show 2134 + 3 * j + 2 = (2134 + 3 * k + 2).toNat by omega, zU_s]
              · rw [zU_n (by omega)]
                exact qe1q.2.2 (by omega)
        · refine x_aload_n dX9_readOutline_159 rfl ?_
          refine v_V dX9_readOutline_160 lX9_123 (c_X9_putBack sz hM6) hM6.1 rfl rfl rfl rfl (by decide) (fun h7 ⟨g7, hg7, hM7, hF7⟩ => ?_)
          refine x_bipush dX9_readOutline_163 (by decide) ?_
          refine x_ireturn dX9_readOutline_165 rfl ?_
          obtain ⟨q2, q3⟩ : z = -4 ∧ A' = A := by
            rcases hSp with ⟨x, q, _, _⟩ | ⟨s2, a1, a2, a3, a4⟩ | ⟨s2, a1, a2, a3, a4⟩
            · exact (q.no hok).elim
            · exact ⟨a3, a4⟩
            · rw [← a1.eq hok] at hcs2 hnv
              omega
          rw [q2, q3]
          exact ⟨_, rfl, rfl, ⟨_, _, hM7, l1.c1 i4 (fun i hi => (hg7 i hi).trans (hga i hi)), l2, l3, l4, l5, l6⟩, hG6.tr hF7⟩
      · have K112 : ∀ (h6 : AH) (r6 : Nat → Int), MoW h6 m (fU (fU w1 3 ga) 0 r6) u1 → Fr h h6 m (m + 17) → RmK r6 s.2.2.2.1 (Kd s.2.2.2.2.2 y 0) → RdT r6 s.2.2.2.1 s.2.2.2.2.1 (y + 1) → XM mX9_readOutline 3 0 0 (QI (fun z' h' => z' = z ∧ MoR h' m A' ∧ Fr h h' m (m + 17))) 0 0 sz h6 112 [some (.ref m), some (.int (zI (z0))), some (.int (zI ((y : Int)))), none] [] := by
          intro h6 r6 hM6 hG6 hK6 hT6
          have hkl := hRd.2.2.2.1 y (by omega)
          have hkk := (hKi.kb.2 y (by omega)).1
          refine x_iconst dX9_readOutline_112 ?_
          refine x_istore_n dX9_readOutline_113 rfl rfl rfl ?_
          refine x_loop (fun s : AH × (Nat → Int) × Int => s.1) (fun s => [some (.ref m), some (.int (zI z0)), some (.int (zI (y : Int))), some (.int (zI s.2.2))]) (fun q => 0 ≤ q.2.2 ∧ q.2.2 ≤ (kid s.2.2.2.2.2 y).length ∧ RmK q.2.1 s.2.2.2.1 (Kd s.2.2.2.2.2 y q.2.2.toNat) ∧ RdT q.2.1 s.2.2.2.1 s.2.2.2.2.1 (y + 1) ∧ MoW q.1 m (fU (fU w1 3 ga) 0 q.2.1) u1 ∧ Fr h q.1 m (m + 17)) (fun q => ((kid s.2.2.2.2.2 y).length - q.2.2).toNat) (h6, r6, 0) rfl rfl ⟨by dsimp only; omega, by dsimp only; omega, hK6, hT6, hM6, hG6⟩ ?_
          clear hM hM5 hM6
          rintro ⟨h7, r7, k⟩ ⟨hk0, hk1, hK7, hT7, hM, hG7⟩ ihq
          try dsimp only at *
          have hM7 := hM
          unfold MoW at hM
          obtain ⟨k, rfl⟩ : ∃ n : Nat, k = (n : Int) := ⟨k.toNat, by omega⟩
          rw [Int.toNat_natCast] at hK7
          refine x_iload_n dX9_readOutline_114 rfl ?_
          refine x_aload_n dX9_readOutline_115 rfl ?_
          refine s_get dX9_readOutline_116 fX9_51 hM rfl ?_
          refine x_iload_n dX9_readOutline_119 rfl ?_
          refine s_iald dX9_readOutline_120 hM rfl rfl ⟨by omega, by omega⟩ ?_
          rw [show (fU (fU w1 3 ga) 0 r7) 13 ((y : Nat) : Int).toNat = ((kid s.2.2.2.2.2 y).length : Int) from hkl.1]
          refine x_icmp_ge dX9_readOutline_121 ⟨by omega, by omega⟩ ⟨by omega, by omega⟩ (fun qc121q => ?_) (fun qc121q => ?_)
          · refine x_iinc dX9_readOutline_146 rfl rfl rfl ?_
            refine x_goto dX9_readOutline_149 ?_
            refine x_kill 3 ?_
            refine ihY (h7, r7, (y : Int) + 1) ⟨by dsimp only; omega, by dsimp only; omega, ?_, ?_, hM7, hG7⟩ (by dsimp only; omega)
            · dsimp only
              rw [show ((y : Int) + 1).toNat = y + 1 by omega, Kd_nx, show (kid s.2.2.2.2.2 y).length = k by omega]
              exact hK7
            · dsimp only
              rw [show ((y : Int) + 1).toNat = y + 1 by omega]
              exact hT7
          · refine x_aload_n dX9_readOutline_124 rfl ?_
            refine x_iload_n dX9_readOutline_125 rfl ?_
            refine x_aload_n dX9_readOutline_126 rfl ?_
            refine s_get dX9_readOutline_127 fX9_54 hM rfl ?_
            refine x_bipush dX9_readOutline_130 (by decide) ?_
            refine x_iload_n dX9_readOutline_132 rfl ?_
            refine x_imul dX9_readOutline_133 ?_
            refine x_iload_n dX9_readOutline_134 rfl ?_
            refine x_iadd dX9_readOutline_135 ?_
            refine s_iald dX9_readOutline_136 hM rfl rfl ⟨by omega, by omega⟩ ?_
            rw [show (fU (fU w1 3 ga) 0 r7) 14 (28 * ((y : Nat) : Int) + ((k : Nat) : Int)).toNat = ((kid s.2.2.2.2.2 y).getD k 0 : Int) by rw [show (28 * ((y : Nat) : Int) + ((k : Nat) : Int)).toNat = 28 * y + k by omega]; exact hkl.2 k (by omega)]
            refine v_V dX9_readOutline_137 lX9_115 (c_X9_addKid sz hM7 hK7 (hKi.kb.sub (Kd_sub s.2.2.2.2.2 y k)) (p := y) (y := (kid s.2.2.2.2.2 y).getD k 0) (by omega) (by have := (hKi.kb.2 y (by omega)).2 _ (gd_mem (l := kid s.2.2.2.2.2 y) (i := k) (by omega)); omega) (by unfold Kd; rw [if_neg (by omega), if_pos rfl, List.length_take]; omega)) hM7.1 rfl rfl rfl rfl (by decide) (fun h8 ⟨r8, hs8, hK8, hM8, hF8⟩ => ?_)
            rw [Kd_up _ (by omega)] at hK8
            rw [fU_o] at hM8
            refine x_iinc dX9_readOutline_140 rfl rfl rfl ?_
            refine x_goto dX9_readOutline_143 ?_
            refine ihq (h8, r8, (k : Int) + 1) ⟨by dsimp only; omega, by dsimp only; omega, ?_, hT7.sm hs8, hM8, hG7.tr hF8⟩ (by dsimp only; omega)
            dsimp only
            rw [show ((k : Int) + 1).toNat = k + 1 by omega]
            exact hK8
        refine x_aload_n dX9_readOutline_82 rfl ?_
        refine x_iload_n dX9_readOutline_83 rfl ?_
        refine x_iconst dX9_readOutline_84 ?_
        refine x_iconst dX9_readOutline_85 ?_
        refine v_V dX9_readOutline_86 lX9_91 (c_X9_to sz hM5 (x := (y : Int)) (v := 0) (z := 1) (by omega)) hM5.1 rfl rfl rfl rfl (by decide) (fun h6 ⟨hM6, hF6⟩ => ?_)
        rw [fU_o, fU_s] at hM6
        have hKB5 := hKi.kb.sub (Kd_sub s.2.2.2.2.2 y 0)
        refine x_iload_n dX9_readOutline_89 rfl ?_
        refine x_if_le dX9_readOutline_90 ⟨by omega, by omega⟩ (fun qc90q => ?_) (fun qc90q => ?_)
        · first
          | exact K112 h8 _ hM8 (((hG5.tr hF6).tr hF7).tr hF8) (hK5.lo (y := y) hKB5 (fun i hi => by rw [zU_n (by omega), zU_n (by omega), zU_n (by omega)])) (hT5.upY (by omega) (by omega) (by omega) (by omega))
          | (have hy00 : y = 0 := by omega
             subst hy00
             exact K112 h6 _ hM6 (hG5.tr hF6) (hK5.lo (y := 0) hKB5 (fun i hi => by rw [zU_n (by omega)])) (hT5.up0 rfl))
        · refine x_aload_n dX9_readOutline_93 rfl ?_
          refine x_iload_n dX9_readOutline_94 rfl ?_
          refine x_iconst dX9_readOutline_95 ?_
          refine x_iconst dX9_readOutline_96 ?_
          refine v_V dX9_readOutline_97 lX9_91 (c_X9_to sz hM6 (x := (y : Int)) (v := 1) (z := 1) (by omega)) hM6.1 rfl rfl rfl rfl (by decide) (fun h7 ⟨hM7, hF7⟩ => ?_)
          rw [fU_o, fU_s] at hM7
          have hM : SO h7 h7 m 17 9 (moF m u1) (moA (fU (fU w1 3 ga) 0 (zU (zU r5 (2 + 52 * (y : Int) + 0).toNat 1) (2 + 52 * (y : Int) + 1).toNat 1))) := hM7
          refine x_aload_n dX9_readOutline_100 rfl ?_
          refine x_iload_n dX9_readOutline_101 rfl ?_
          refine x_iconst dX9_readOutline_102 ?_
          refine x_aload_n dX9_readOutline_103 rfl ?_
          refine s_get dX9_readOutline_104 fX9_48 hM rfl ?_
          refine x_iload_n dX9_readOutline_107 rfl ?_
          refine s_iald dX9_readOutline_108 hM rfl rfl ⟨by omega, by omega⟩ ?_
          rw [show (fU (fU w1 3 ga) 0 (zU (zU r5 (2 + 52 * (y : Int) + 0).toNat 1) (2 + 52 * (y : Int) + 1).toNat 1)) 12 ((y : Nat) : Int).toNat = s.2.2.2.2.1 y from hRd.2.2.1 y (by omega) (by omega)]
          refine v_V dX9_readOutline_109 lX9_91 (c_X9_to sz hM7 (x := (y : Int)) (v := 2) (by omega)) hM7.1 rfl rfl rfl rfl (by decide) (fun h8 ⟨hM8, hF8⟩ => ?_)
          rw [fU_o, fU_s] at hM8
          first
          | exact K112 h8 _ hM8 (((hG5.tr hF6).tr hF7).tr hF8) (hK5.lo (y := y) hKB5 (fun i hi => by rw [zU_n (by omega), zU_n (by omega), zU_n (by omega)])) (hT5.upY (by omega) (by omega) (by omega) (by omega))
          | (have hy00 : y = 0 := by omega
             subst hy00
             exact K112 h6 _ hM6 (hG5.tr hF6) (hK5.lo (y := 0) hKB5 (fun i hi => by rw [zU_n (by omega)])) (hT5.up0 rfl))
    · refine x_iconst dX9_readOutline_28 ?_
      refine x_istore_n dX9_readOutline_29 rfl rfl rfl ?_
      refine x_loop (fun s : AH × (Nat → Int) × Int => s.1) (fun s => [some (.ref m), some (.int (zI z0)), some (.int (zI y)), some (.int (zI s.2.2))]) (fun q => 0 ≤ q.2.2 ∧ q.2.2 ≤ 52 ∧ (∀ i : Nat, 2 ≤ i → (i : Int) < 2 + 52 * y + q.2.2 → q.2.1 i = 0) ∧ MoW q.1 m (fU (fU w1 3 ga) 0 q.2.1) u1 ∧ Fr h q.1 m (m + 17)) (fun q => (52 - q.2.2).toNat) (h3, r3, 0) rfl rfl ⟨by dsimp only; omega, by dsimp only; omega, fun i i1 i2 => hz i i1 (by dsimp only at i2; omega), hM3, hG3⟩ ?_
      clear hM hM3
      rintro ⟨h4, r4, k⟩ ⟨hk0, hk1, hzk, hM, hG4⟩ ihq
      try dsimp only at *
      have hM4 := hM
      unfold MoW at hM
      refine x_iload_n dX9_readOutline_30 rfl ?_
      refine x_bipush dX9_readOutline_31 (by decide) ?_
      refine x_icmp_ge dX9_readOutline_33 ⟨by omega, by omega⟩ ⟨by omega, by omega⟩ (fun qc33q => ?_) (fun qc33q => ?_)
      · refine x_iinc dX9_readOutline_49 rfl rfl rfl ?_
        refine x_goto dX9_readOutline_52 ?_
        refine x_kill 3 ?_
        exact ihY (h4, r4, y + 1) ⟨by dsimp only; omega, by dsimp only; omega, fun i i1 i2 => hzk i i1 (by dsimp only at i2; omega), hM4, hG4⟩ (by dsimp only; omega)
      · refine x_aload_n dX9_readOutline_36 rfl ?_
        refine x_iload_n dX9_readOutline_37 rfl ?_
        refine x_iload_n dX9_readOutline_38 rfl ?_
        refine x_iconst dX9_readOutline_39 ?_
        refine v_V dX9_readOutline_40 lX9_91 (c_X9_to sz hM4 (x := y) (v := k) (z := 0) (by omega)) hM4.1 rfl rfl rfl rfl (by decide) (fun h5 ⟨hM5, hF5⟩ => ?_)
        rw [fU_o, fU_s] at hM5
        refine x_iinc dX9_readOutline_43 rfl rfl rfl ?_
        refine x_goto dX9_readOutline_46 ?_
        refine ihq (h5, zU r4 (2 + 52 * y + k).toNat 0, k + 1) ⟨by dsimp only; omega, by dsimp only; omega, fun i i1 i2 => ?_, hM5, hG4.tr hF5⟩ (by dsimp only; omega)
        dsimp only at i2 ⊢
        by_cases q : i = (2 + 52 * y + k).toNat
        · rw [q, zU_s]
        · rw [zU_n q]
          exact hzk i i1 (by omega)
  · refine x_bipush dX9_readOutline_11 (by decide) ?_
    refine x_iload_n dX9_readOutline_13 rfl ?_
    refine x_isub dX9_readOutline_14 ?_
    refine x_ireturn dX9_readOutline_15 rfl ?_
    obtain ⟨q2, q3⟩ : z = -100 - z0 ∧ A' = A := by
      rcases hcase with ⟨x, q, e⟩ | ⟨s, q, e, _⟩
      · rcases hSp with ⟨x2, a1, a2, a3⟩ | ⟨s2, a1, _⟩ | ⟨s2, a1, _⟩
        · rw [a1.eq q] at a2
          exact ⟨by omega, a3⟩
        · exact (q.no a1).elim
        · exact (q.no a1).elim
      · omega
    rw [q2, q3]
    exact ⟨_, rfl, rfl, ⟨_, _, hM1, hC1⟩, hF1⟩
