-- what is reached from a node
def RcN (K : Nat → List Nat) (x : Nat) : Nat → Nat → Prop
  | 0, y => y = x
  | n + 1, y => ∃ z, RcN K x n z ∧ y ∈ K z
def Rc (K : Nat → List Nat) (x y : Nat) : Prop := ∃ n, RcN K x n y
theorem Rc.rf (K : Nat → List Nat) (x : Nat) : Rc K x x := ⟨0, rfl⟩
theorem Rc.st {K : Nat → List Nat} {x y z : Nat} (h : Rc K x y) (hz : z ∈ K y) : Rc K x z := by
  obtain ⟨n, hn⟩ := h
  exact ⟨n + 1, y, hn, hz⟩
def WiI (K : Nat → List Nat) (d x : Nat) (iw qu : Nat → Int) (Q : List Nat) : Prop := (∀ b, b ≤ 40 → iw b = if b ∈ Q then 1 else 0) ∧ (∀ j, j < Q.length → qu j = Q.getD j 0) ∧ (∀ b ∈ Q, b ≤ d ∧ Rc K x b) ∧ Q.length = cB (fun b => decide (b ∈ Q)) 41 ∧ x ∈ Q
theorem cB_in {Q : List Nat} {b : Nat} (hb : b ∉ Q) : ∀ n, cB (fun i => decide (i ∈ Q ++ [b])) n = cB (fun i => decide (i ∈ Q)) n + if b < n then 1 else 0
  | 0 => by rw [if_neg (by omega)]; rfl
  | n + 1 => by
    rw [cB_s, cB_s, cB_in hb n]
    by_cases q : n = b
    · subst q
      have qe1q : decide (n ∈ Q ++ [n]) = true := decide_eq_true (List.mem_append_right _ (List.mem_singleton.mpr rfl))
      have qe2q : decide (n ∈ Q) = false := decide_eq_false hb
      rw [qe1q, qe2q, if_neg (show ¬ n < n by omega), if_pos (show n < n + 1 by omega)]
      rfl
    · have qe3q : decide (n ∈ Q ++ [b]) = decide (n ∈ Q) := by
        apply decide_eq_decide.mpr
        rw [List.mem_append, List.mem_singleton]
        exact ⟨fun z => z.elim id (fun z => absurd z q), Or.inl⟩
      rw [qe3q]
      by_cases q2 : b < n
      · rw [if_pos q2, if_pos (show b < n + 1 by omega)]
        omega
      · rw [if_neg q2, if_neg (show ¬ b < n + 1 by omega)]
        omega
theorem WiI.app {K : Nat → List Nat} {d x : Nat} {iw qu : Nat → Int} {Q : List Nat} {b : Nat} (h : WiI K d x iw qu Q) (hb : b ∉ Q) (hd : b ≤ d) (hd40 : d ≤ 40) (hr : Rc K x b) : Q.length ≤ 40 ∧ WiI K d x (zU iw b 1) (zU qu Q.length b) (Q ++ [b]) := by
  obtain ⟨h1, h2, h3, h4, h5⟩ := h
  have hc := cB_in hb 41
  rw [if_pos (by omega)] at hc
  have hl := cB_le (fun i => decide (i ∈ Q ++ [b])) 41
  refine ⟨by omega, fun i hi => ?_, fun j hj => ?_, fun i hi => ?_, by rw [List.length_append, List.length_singleton, hc, h4], List.mem_append_left _ h5⟩
  · by_cases q : i = b
    · rw [q, zU_s, if_pos (List.mem_append_right _ (List.mem_singleton.mpr rfl))]
    · rw [zU_n q, h1 i hi]
      by_cases q2 : i ∈ Q
      · rw [if_pos q2, if_pos (List.mem_append_left _ q2)]
      · rw [if_neg q2, if_neg (fun q3 => (List.mem_append.mp q3).elim q2 (fun q4 => q (List.mem_singleton.mp q4)))]
  · rw [List.length_append, List.length_singleton] at hj
    by_cases q : j = Q.length
    · rw [q, zU_s, List.getD_eq_getElem?_getD, List.getElem?_append_right (Nat.le_refl _), Nat.sub_self]
      rfl
    · rw [zU_n q, h2 j (by omega), List.getD_eq_getElem?_getD, List.getD_eq_getElem?_getD, List.getElem?_append_left (by omega)]
  · rcases List.mem_append.mp hi with q | q
    · exact h3 i q
    · rw [List.mem_singleton.mp q]
      exact ⟨hd, hr⟩
theorem WiI.fin {K : Nat → List Nat} {d x : Nat} {iw qu : Nat → Int} {Q : List Nat} (h : WiI K d x iw qu Q) (hc : ∀ j, j < Q.length → ∀ c ∈ K (Q.getD j 0), c ∈ Q) (b : Nat) : b ∈ Q ↔ Rc K x b := by
  obtain ⟨h1, h2, h3, h4, h5⟩ := h
  refine ⟨fun q => (h3 b q).2, ?_⟩
  rintro ⟨n, hn⟩
  have key : ∀ n b, RcN K x n b → b ∈ Q := by
    intro n
    induction n with
    | zero => intro b hb; rw [show b = x from hb]; exact h5
    | succ n ihn =>
      intro b hb
      obtain ⟨z, z1, z2⟩ := hb
      obtain ⟨j, j1, j2⟩ := List.getElem_of_mem (ihn z z1)
      refine hc j j1 b ?_
      rw [List.getD_eq_getElem?_getD, List.getElem?_eq_getElem j1, j2]
      exact z2
  exact key n b hn
theorem gd_app {Q : List Nat} {b j : Nat} (h : j < Q.length) : (Q ++ [b]).getD j 0 = Q.getD j 0 := by
  rw [List.getD_eq_getElem?_getD, List.getD_eq_getElem?_getD, List.getElem?_append_left h]
abbrev moB (w : Nat → Nat → Int) (iw qu : Nat → Int) : List (Nat × Nat × (Nat → Int)) := [(0, 2494, w 0), (0, 12470, w 1), (0, 2494, w 2), (0, 2494, w 3), (0, 42, w 4), (0, 42, w 5), (0, 120, w 6), (0, 121, w 7), (2, 41, iw), (0, 41, qu), (1, 60, w 10), (0, 26, w 11), (0, 28, w 12), (0, 28, w 13), (0, 784, w 14), (0, 62, w 15)]
theorem moB_W {h : AH} {m : Nat} {w : Nat → Nat → Int} {u : Nat → Int} {iw qu : Nat → Int} (a : SO h h m 17 9 (moF m u) (moB w iw qu)) : MoW h m (fU (fU w 8 iw) 9 qu) u := a

theorem c_X9_layWithin (sz : Nat) {h : AH} {m : Nat} {w : Nat → Nat → Int} {u : Nat → Int} (hM : MoW h m w u) {d : Nat} {K : Nat → List Nat} (hK : RmK (w 0) d K) (hKB : KB d K) {x : Nat} (hx : x ≤ d) : CC mX9_layWithin 2 0 0 [.ref m, .int (zI x)] sz h (QI (fun z h' => ∃ (iw qu : Nat → Int) (Q : List Nat), (∀ b, b ∈ Q ↔ Rc K x b) ∧ (∀ b ∈ Q, b ≤ d) ∧ (∀ b, b ≤ 40 → iw b = if b ∈ Q then 1 else 0) ∧ z = (cB (fun b => decide (b ∈ Q)) 41 : Nat) ∧ MoW h' m (fU (fU w 8 iw) 9 qu) u ∧ Fr h h' m (m + 17))) := by
  refine CC.intro [some (.ref m), some (.int (zI x)), none, none, none, none] pfX9_layWithin rfl rfl ?_
  have hM0 := hM
  unfold MoW at hM
  have hd := hKB.1
  refine x_iconst dX9_layWithin_0 ?_
  refine x_istore_n dX9_layWithin_1 rfl rfl rfl ?_
  refine x_loop (fun s : AH × (Nat → Int) × Int => s.1) (fun s => [some (.ref m), some (.int (zI (x : Int))), some (.int (zI s.2.2)), none, none, none]) (fun s => 0 ≤ s.2.2 ∧ s.2.2 ≤ 41 ∧ (∀ b : Nat, (b : Int) < s.2.2 → s.2.1 b = if b ∈ [x] then 1 else 0) ∧ SO h s.1 m 17 9 (moF m u) (moB w s.2.1 (w 9))) (fun s => (41 - s.2.2).toNat) (h, w 8, 0) rfl rfl ⟨by dsimp only; omega, by dsimp only; omega, fun b hb => by dsimp only at hb; omega, hM⟩ ?_
  clear hM hM0
  rintro ⟨h1, iw0, i⟩ ⟨hi0, hi1, hb, hM⟩ ihq
  try dsimp only at *
  refine x_iload_n dX9_layWithin_2 rfl ?_
  refine x_bipush dX9_layWithin_3 (by decide) ?_
  refine x_icmp_gt dX9_layWithin_5 ⟨by omega, by omega⟩ ⟨by omega, by omega⟩ (fun qc5q => ?_) (fun qc5q => ?_)
  · refine x_aload_n dX9_layWithin_30 rfl ?_
    refine s_get dX9_layWithin_31 fX9_38 hM rfl ?_
    refine x_iconst dX9_layWithin_34 ?_
    refine x_iload_n dX9_layWithin_35 rfl ?_
    refine s_iast dX9_layWithin_36 hM rfl rfl ⟨by omega, by omega⟩ (fun hc hM hF => ?_)
    refine x_iconst dX9_layWithin_37 ?_
    refine x_istore_n dX9_layWithin_38 rfl rfl rfl ?_
    refine x_iconst dX9_layWithin_39 ?_
    refine x_istore_n dX9_layWithin_40 rfl rfl rfl ?_
    have hG0 := hM.fr
    have hM := hM.st
    refine x_loop (fun s : AH × (Nat → Int) × (Nat → Int) × Int × List Nat => s.1) (fun s => [some (.ref m), some (.int (zI (x : Int))), some (.int (zI (s.2.2.2.2.length : Int))), some (.int (zI s.2.2.2.1)), none, none]) (fun s => WiI K d x s.2.1 s.2.2.1 s.2.2.2.2 ∧ 0 ≤ s.2.2.2.1 ∧ s.2.2.2.1 ≤ s.2.2.2.2.length ∧ (∀ j : Nat, (j : Int) < s.2.2.2.1 → ∀ c ∈ K (s.2.2.2.2.getD j 0), c ∈ s.2.2.2.2) ∧ SO hc s.1 m 17 9 (moF m u) (moB w s.2.1 s.2.2.1)) (fun s => (41 - s.2.2.2.1).toNat) (_, iw0, zU (w 9) 0 x, 0, [x]) rfl rfl ⟨⟨fun b hb1 => hb b (by omega), fun j hj => ?_, fun b hb1 => ?_, ?_, List.mem_singleton.mpr rfl⟩, by dsimp only; omega, by dsimp only; omega, fun j hj => by dsimp only at hj; omega, hM⟩ ?_
    · have qe0q : j = 0 := by
        have h9 : j < 1 := hj
        omega
      rw [qe0q]
      exact zU_s (w 9) 0 (x : Int)
    · rw [List.mem_singleton.mp hb1]
      exact ⟨hx, Rc.rf K x⟩
    · have h9 := cB_in (Q := []) (b := x) (by simp) 41
      rw [if_pos (by omega), List.nil_append] at h9
      dsimp only
      rw [h9, show cB (fun i => decide (i ∈ ([] : List Nat))) 41 = 0 from by decide]
      rfl
    clear hM hb
    rintro ⟨h2, iw, qu, k, Q⟩ ⟨hI, hk0, hk1, hcl, hM⟩ ihk
    try dsimp only at *
    have hQl := hI.2.2.2.1
    have hcle := cB_le (fun b => decide (b ∈ Q)) 41
    refine x_iload_n dX9_layWithin_41 rfl ?_
    refine x_iload_n dX9_layWithin_42 rfl ?_
    refine x_icmp_ge dX9_layWithin_43 ⟨by omega, by omega⟩ ⟨by omega, by omega⟩ (fun qc43q => ?_) (fun qc43q => ?_)
    · refine x_iload_n dX9_layWithin_121 rfl ?_
      refine x_ireturn dX9_layWithin_122 rfl ?_
      have hk9 : k = Q.length := by omega
      exact ⟨_, rfl, iw, qu, Q, hI.fin (fun j hj => hcl j (by omega)), fun b hb => (hI.2.2.1 b hb).1, hI.1, by rw [hI.2.2.2.1], moB_W hM.st, hG0.tr hM.fr⟩
    · refine x_iconst dX9_layWithin_46 ?_
      refine x_istore dX9_layWithin_47 rfl rfl rfl ?_
      have hq0 : Q.getD k.toNat 0 ∈ Q := by
        rw [List.getD_eq_getElem?_getD, List.getElem?_eq_getElem (by omega)]
        exact List.getElem_mem _
      obtain ⟨hqd40, hQr⟩ := hI.2.2.1 _ hq0
      obtain ⟨q, hqd⟩ : ∃ q, Q.getD k.toNat 0 = q := ⟨_, rfl⟩
      rw [hqd] at hqd40 hQr
      have hkq := hK.at (x := (q : Int)) (by omega) (by omega)
      rw [Int.toNat_natCast] at hkq
      have hkl := (hKB.2 q hqd40).1
      have hQl := hI.2.2.2.1
      refine x_loop (fun s : AH × (Nat → Int) × (Nat → Int) × Int × List Nat => s.1) (fun s => [some (.ref m), some (.int (zI (x : Int))), some (.int (zI (s.2.2.2.2.length : Int))), some (.int (zI k)), some (.int (zI s.2.2.2.1)), none]) (fun s => WiI K d x s.2.1 s.2.2.1 s.2.2.2.2 ∧ (Q.length ≤ s.2.2.2.2.length ∧ ∀ j, j < Q.length → s.2.2.2.2.getD j 0 = Q.getD j 0) ∧ 0 ≤ s.2.2.2.1 ∧ s.2.2.2.1 ≤ (K q).length ∧ (∀ j : Nat, (j : Int) < k → ∀ c ∈ K (Q.getD j 0), c ∈ s.2.2.2.2) ∧ (∀ j : Nat, (j : Int) < s.2.2.2.1 → (K q).getD j 0 ∈ s.2.2.2.2) ∧ SO hc s.1 m 17 9 (moF m u) (moB w s.2.1 s.2.2.1)) (fun s => ((K q).length - s.2.2.2.1).toNat) (h2, iw, qu, 0, Q) rfl rfl ⟨hI, ⟨Nat.le_refl _, fun _ _ => rfl⟩, by dsimp only; omega, by dsimp only; omega, hcl, fun j hj => by dsimp only at hj; omega, hM⟩ ?_
      clear hM
      rintro ⟨h3, iw2, qu2, xx, Q2⟩ ⟨hI2, hpf, hx0, hx1, hcl, hin, hM⟩ ihx
      try dsimp only at *
      have hQl2 := hI2.2.2.2.1
      have hcle := cB_le (fun b => decide (b ∈ Q2)) 41
      have hqk : qu2 k.toNat = (q : Int) := by
        rw [hI2.2.1 k.toNat (by omega), hpf.2 k.toNat (by omega), hqd]
      refine x_iload dX9_layWithin_49 rfl ?_
      refine x_aload_n dX9_layWithin_51 rfl ?_
      refine x_aload_n dX9_layWithin_52 rfl ?_
      refine s_get dX9_layWithin_53 fX9_38 hM rfl ?_
      refine x_iload_n dX9_layWithin_56 rfl ?_
      refine s_iald dX9_layWithin_57 hM rfl rfl ⟨by omega, by omega⟩ ?_
      rw [hqk]
      refine x_bipush dX9_layWithin_58 (by decide) ?_
      refine p_V dX9_layWithin_60 lX9_64 (c_X9_of sz (moB_W hM.st) (x := (q : Int)) (v := 11) (by omega)) hM.1 rfl rfl rfl rfl (by decide) ?_
      rw [show fU (fU w 8 iw2) 9 qu2 0 (2 + 52 * (q : Int) + 11).toNat = ((K q).length : Int) from hkq]
      refine x_icmp_ge dX9_layWithin_63 ⟨by omega, by omega⟩ ⟨by omega, by omega⟩ (fun qc63q => ?_) (fun qc63q => ?_)
      · refine x_iinc dX9_layWithin_115 rfl rfl rfl ?_
        refine x_goto dX9_layWithin_118 ?_
        refine x_kill 4 (x_kill 5 ?_)
        refine ihk (h3, iw2, qu2, k + 1, Q2) ⟨hI2, by dsimp only; omega, by dsimp only; omega, fun j hj c hc => ?_, hM⟩ (by dsimp only; omega)
        dsimp only at hj
        by_cases q5 : j = k.toNat
        · rw [q5, hpf.2 k.toNat (by omega), hqd] at hc
          obtain ⟨i1, i2, i3⟩ := List.getElem_of_mem hc
          have h9 := hin i1 (by omega)
          rw [List.getD_eq_getElem?_getD, List.getElem?_eq_getElem i2] at h9
          rw [← i3]
          exact h9
        · rw [hpf.2 j (by omega)] at hc
          exact hcl j (by omega) c hc
      · have hky := hK.kid hKB (x := (q : Int)) (j := xx) (by omega) (by omega) hx0 (by rw [Int.toNat_natCast]; omega)
        rw [Int.toNat_natCast] at hky
        generalize hy : (K q).getD xx.toNat 0 = y at *
        refine x_aload_n dX9_layWithin_66 rfl ?_
        refine x_aload_n dX9_layWithin_67 rfl ?_
        refine s_get dX9_layWithin_68 fX9_38 hM rfl ?_
        refine x_iload_n dX9_layWithin_71 rfl ?_
        refine s_iald dX9_layWithin_72 hM rfl rfl ⟨by omega, by omega⟩ ?_
        rw [hqk]
        refine x_iload dX9_layWithin_73 rfl ?_
        refine p_V dX9_layWithin_75 lX9_71 (c_X9_kid sz (moB_W hM.st) (x := (q : Int)) (v := xx) (by omega)) hM.1 rfl rfl rfl rfl (by decide) ?_
        rw [show fU (fU w 8 iw2) 9 qu2 0 (2 + 52 * (q : Int) + (12 + xx)).toNat = (y : Int) from hky.1]
        have hwy := hI2.1 y (by omega)
        refine x_istore dX9_layWithin_78 rfl rfl rfl ?_
        refine x_aload_n dX9_layWithin_80 rfl ?_
        refine s_get dX9_layWithin_81 fX9_34 hM rfl ?_
        refine x_iload dX9_layWithin_84 rfl ?_
        refine s_zald dX9_layWithin_86 hM rfl rfl ⟨by omega, by omega⟩ ?_
        rw [Int.toNat_natCast, hwy]
        refine x_ifB_ne dX9_layWithin_87 (fun qc87q => ?_) (fun qc87q => ?_)
        · refine x_iinc dX9_layWithin_109 rfl rfl rfl ?_
          refine x_goto dX9_layWithin_112 ?_
          first
            | (refine x_kill 5 ?_
               refine ihx (h3, iw2, qu2, xx + 1, Q2) ⟨hI2, hpf, by dsimp only; omega, by dsimp only; omega, hcl, fun j hj => ?_, hM⟩ (by dsimp only; omega)
               dsimp only at hj
               by_cases q5 : j = xx.toNat
               · rw [q5, hy]
                 assumption
               · exact hin j (by omega))
            | (refine x_kill 5 ?_
               rw [show (Q2.length : Int) + 1 = ((Q2 ++ [y]).length : Int) by simp]
               refine ihx (_, zU iw2 (y : Int).toNat 1, zU qu2 (Q2.length : Int).toNat y, xx + 1, Q2 ++ [y]) ⟨by dsimp only; rw [Int.toNat_natCast, Int.toNat_natCast]; exact hap.2, ⟨by dsimp only; rw [List.length_append]; omega, fun j hj => by dsimp only; rw [gd_app (by omega)]; exact hpf.2 j hj⟩, by dsimp only; omega, by dsimp only; omega, fun j hj c hc => ?_, fun j hj => ?_, hM⟩ (by dsimp only; omega)
               · dsimp only
                 exact List.mem_append_left _ (hcl j hj c hc)
               · dsimp only at hj ⊢
                 by_cases q5 : j = xx.toNat
                 · rw [q5, hy]
                   exact List.mem_append_right _ (List.mem_singleton.mpr rfl)
                 · exact List.mem_append_left _ (hin j (by omega)))
        · have hap := hI2.app qc87q (by omega) hd (hQr.st hky.2.2.2)
          refine x_aload_n dX9_layWithin_90 rfl ?_
          refine s_get dX9_layWithin_91 fX9_34 hM rfl ?_
          refine x_iload dX9_layWithin_94 rfl ?_
          refine x_iconst dX9_layWithin_96 ?_
          refine s_zast dX9_layWithin_97 hM rfl rfl ⟨by omega, by omega⟩ (Or.inr rfl) (fun h hM hF => ?_)
          refine x_aload_n dX9_layWithin_98 rfl ?_
          refine s_get dX9_layWithin_99 fX9_38 hM rfl ?_
          refine x_iload_n dX9_layWithin_102 rfl ?_
          refine x_iload dX9_layWithin_103 rfl ?_
          refine s_iast dX9_layWithin_105 hM rfl rfl ⟨by omega, by omega⟩ (fun h hM hF => ?_)
          refine x_iinc dX9_layWithin_106 rfl rfl rfl ?_
          refine x_iinc dX9_layWithin_109 rfl rfl rfl ?_
          refine x_goto dX9_layWithin_112 ?_
          first
            | (refine x_kill 5 ?_
               refine ihx (h3, iw2, qu2, xx + 1, Q2) ⟨hI2, hpf, by dsimp only; omega, by dsimp only; omega, hcl, fun j hj => ?_, hM⟩ (by dsimp only; omega)
               dsimp only at hj
               by_cases q5 : j = xx.toNat
               · rw [q5, hy]
                 assumption
               · exact hin j (by omega))
            | (refine x_kill 5 ?_
               rw [show (Q2.length : Int) + 1 = ((Q2 ++ [y]).length : Int) by simp]
               refine ihx (_, zU iw2 (y : Int).toNat 1, zU qu2 (Q2.length : Int).toNat y, xx + 1, Q2 ++ [y]) ⟨by dsimp only; rw [Int.toNat_natCast, Int.toNat_natCast]; exact hap.2, ⟨by dsimp only; rw [List.length_append]; omega, fun j hj => by dsimp only; rw [gd_app (by omega)]; exact hpf.2 j hj⟩, by dsimp only; omega, by dsimp only; omega, fun j hj c hc => ?_, fun j hj => ?_, hM⟩ (by dsimp only; omega)
               · dsimp only
                 exact List.mem_append_left _ (hcl j hj c hc)
               · dsimp only at hj ⊢
                 by_cases q5 : j = xx.toNat
                 · rw [q5, hy]
                   exact List.mem_append_right _ (List.mem_singleton.mpr rfl)
                 · exact List.mem_append_left _ (hin j (by omega)))
  · refine x_aload_n dX9_layWithin_8 rfl ?_
    refine s_get dX9_layWithin_9 fX9_34 hM rfl ?_
    refine x_iload_n dX9_layWithin_12 rfl ?_
    refine x_iload_n dX9_layWithin_13 rfl ?_
    refine x_iload_n dX9_layWithin_14 rfl ?_
    refine x_icmp_ne dX9_layWithin_15 ⟨by omega, by omega⟩ ⟨by omega, by omega⟩ (fun qc15q => ?_) (fun qc15q => ?_)
    · refine x_iconst dX9_layWithin_22 ?_
      refine s_zast dX9_layWithin_23 hM rfl rfl ⟨by omega, by omega⟩ (by first | exact Or.inl rfl | exact Or.inr rfl) (fun hs hM hF => ?_)
      refine x_iinc dX9_layWithin_24 rfl rfl rfl ?_
      refine x_goto dX9_layWithin_27 ?_
      first
        | (have qe1q : i = x := by omega
           refine ihq (_, zU iw0 i.toNat 1, i + 1) ⟨by dsimp only; omega, by dsimp only; omega, fun b hb1 => ?_, hM⟩ (by dsimp only; omega)
           dsimp only at hb1 ⊢
           by_cases q5 : b = i.toNat
           · rw [q5, zU_s, if_pos (List.mem_singleton.mpr (by omega))]
           · rw [zU_n q5]
             exact hb b (by omega))
        | (have qe1q : i ≠ x := by omega
           refine ihq (_, zU iw0 i.toNat 0, i + 1) ⟨by dsimp only; omega, by dsimp only; omega, fun b hb1 => ?_, hM⟩ (by dsimp only; omega)
           dsimp only at hb1 ⊢
           by_cases q5 : b = i.toNat
           · rw [q5, zU_s, if_neg (fun q6 => by have := List.mem_singleton.mp q6; omega)]
           · rw [zU_n q5]
             exact hb b (by omega))
    · refine x_iconst dX9_layWithin_18 ?_
      refine x_goto dX9_layWithin_19 ?_
      refine s_zast dX9_layWithin_23 hM rfl rfl ⟨by omega, by omega⟩ (by first | exact Or.inl rfl | exact Or.inr rfl) (fun hs hM hF => ?_)
      refine x_iinc dX9_layWithin_24 rfl rfl rfl ?_
      refine x_goto dX9_layWithin_27 ?_
      first
        | (have qe1q : i = x := by omega
           refine ihq (_, zU iw0 i.toNat 1, i + 1) ⟨by dsimp only; omega, by dsimp only; omega, fun b hb1 => ?_, hM⟩ (by dsimp only; omega)
           dsimp only at hb1 ⊢
           by_cases q5 : b = i.toNat
           · rw [q5, zU_s, if_pos (List.mem_singleton.mpr (by omega))]
           · rw [zU_n q5]
             exact hb b (by omega))
        | (have qe1q : i ≠ x := by omega
           refine ihq (_, zU iw0 i.toNat 0, i + 1) ⟨by dsimp only; omega, by dsimp only; omega, fun b hb1 => ?_, hM⟩ (by dsimp only; omega)
           dsimp only at hb1 ⊢
           by_cases q5 : b = i.toNat
           · rw [q5, zU_s, if_neg (fun q6 => by have := List.mem_singleton.mp q6; omega)]
           · rw [zU_n q5]
             exact hb b (by omega))
