-- which places are seen
def gs (pl : List PE) : Nat → Nat
  | 0 => 40
  | i + 1 => if gs pl i < pv pl i then gs pl i else if pf pl i = 1 then pv pl i else 40
def sn (pl : List PE) (i : Nat) : Bool := decide (pv pl i ≤ gs pl i)
theorem gs_40 {pl : List PE} (hB : PlB pl) : ∀ i, i ≤ pl.length → gs pl i ≤ 40
  | 0, _ => Nat.le_refl _
  | i + 1, h => by
    have h1 := gs_40 hB i (by omega)
    have h2 := hB.2 i (by omega)
    rw [gs]
    split
    · exact h1
    · split <;> omega
theorem gs_s (pl : List PE) {i : Int} (h : 0 ≤ i) : (gs pl (i + 1).toNat : Int) = if (gs pl i.toNat : Int) < gV pl i then (gs pl i.toNat : Int) else if gF pl i = 1 then gV pl i else 40 := by
  rw [show (i + 1).toNat = i.toNat + 1 by omega, gs, ← (gV_p (pl := pl) h).1, ← (gV_p (pl := pl) h).2.2]
  by_cases q : gs pl i.toNat < pv pl i.toNat
  · rw [if_pos q, if_pos (by omega)]
  · rw [if_neg q]
    by_cases q2 : pf pl i.toNat = 1
    · rw [if_pos q2, if_neg (by omega), if_pos (by omega)]
    · rw [if_neg q2, if_neg (by omega), if_neg (by omega)]
      rfl
theorem sn_i (pl : List PE) {i : Int} (h : 0 ≤ i) : sn pl i.toNat = true ↔ gV pl i ≤ (gs pl i.toNat : Int) := by
  unfold sn
  rw [decide_eq_true_iff, ← (gV_p (pl := pl) h).1]
  omega
theorem cB_lt (p : Nat → Bool) {a b : Nat} (h : a < b) (hp : p a = true) : cB p a < cB p b := by
  have h1 := cB_mono p (a + 1) (b - (a + 1))
  rw [cB_s, if_pos hp, show a + 1 + (b - (a + 1)) = b by omega] at h1
  omega
theorem cB_kth (p : Nat → Bool) : ∀ (n r : Nat), r < cB p n → ∃ k, k < n ∧ p k = true ∧ cB p k = r
  | 0, r, h => by simp [cB] at h
  | n + 1, r, h => by
    rw [cB_s] at h
    by_cases q : r < cB p n
    · obtain ⟨k, h1, h2⟩ := cB_kth p n r q
      exact ⟨k, by omega, h2⟩
    · by_cases hp : p n = true
      · rw [if_pos hp] at h
        exact ⟨n, by omega, hp, by omega⟩
      · rw [if_neg hp] at h
        omega
theorem cB_same (p q : Nat → Bool) (hq : ∀ k, q k = true → p k = true) {a : Nat} : ∀ n, cB p (a + n) = cB p a → cB q (a + n) = cB q a
  | 0, _ => rfl
  | n + 1, h => by
    have h1 := cB_mono p a n
    rw [← Nat.add_assoc, cB_s] at h
    have hn : ¬ p (a + n) = true := fun z => by rw [if_pos z] at h; omega
    rw [if_neg hn] at h
    rw [← Nat.add_assoc, cB_s, if_neg (fun z => hn (hq _ z)), cB_same p q hq n (by omega)]
    rfl
theorem cB_eqv (p q : Nat → Bool) (hq : ∀ k, q k = true → p k = true) {a b : Nat} (h : cB p a = cB p b) : cB q a = cB q b := by
  rcases Nat.le_total a b with z | z
  · have := cB_same p q hq (a := a) (b - a) (by rw [show a + (b - a) = b by omega]; exact h.symm)
    rw [show a + (b - a) = b by omega] at this
    exact this.symm
  · have := cB_same p q hq (a := b) (a - b) (by rw [show b + (a - b) = a by omega]; exact h)
    rw [show b + (a - b) = a by omega] at this
    exact this
/-- the place of a row, or -2 -/
def rwQ (pl : List PE) (r : Int) : Nat → Bool := fun k => sn pl k && decide ((cB (sn pl) k : Int) = r)
def plZ (pl : List PE) (r : Int) : Int := if fZ (rwQ pl r) pl.length 0 < pl.length then fZ (rwQ pl r) pl.length 0 else -2
theorem plZ_hit {pl : List PE} {r : Int} {k : Nat} (hk : k < pl.length) (hs : sn pl k = true) (hr : (cB (sn pl) k : Int) = r) : plZ pl r = k := by
  have h := fZ_spec (rwQ pl r) pl.length (i := 0) (by omega) (by omega)
  obtain ⟨h1, h2, h3, h4⟩ := h
  have hq : rwQ pl r k = true := by
    unfold rwQ
    rw [hs, hr]
    simp
  have h5 : fZ (rwQ pl r) pl.length 0 ≤ k := by
    rcases Int.lt_or_le (k : Int) (fZ (rwQ pl r) pl.length 0) with z | z
    · have := h3 k (by omega) z
      rw [hq] at this
      cases this
    · exact z
  have h6 := h4 (by omega)
  unfold rwQ at h6
  rw [Bool.and_eq_true, decide_eq_true_iff] at h6
  have h7 : fZ (rwQ pl r) pl.length 0 = k := by
    rcases Nat.lt_or_ge (fZ (rwQ pl r) pl.length 0).toNat k with z | z
    · have := cB_lt (sn pl) z h6.1
      unfold rwQ at this
      omega
    · omega
  unfold plZ
  rw [h7, if_pos (by omega)]
theorem plZ_no {pl : List PE} {r : Int} (hr : r < 0 ∨ (cB (sn pl) pl.length : Int) ≤ r) : plZ pl r = -2 := by
  unfold plZ
  rw [if_neg]
  intro h
  have h4 := (fZ_spec (rwQ pl r) pl.length (i := 0) (by omega) (by omega))
  have h6 := h4.2.2.2 h
  generalize fZ (rwQ pl r) pl.length 0 = e at *
  unfold rwQ at h6
  rw [Bool.and_eq_true, decide_eq_true_iff] at h6
  have := cB_lt (sn pl) (a := e.toNat) (b := pl.length) (by omega) h6.1
  omega
theorem plZ_r (pl : List PE) (r : Int) : -2 ≤ plZ pl r ∧ plZ pl r < pl.length ∧ (plZ pl r < 0 → plZ pl r = -2) := by
  have h := fZ_spec (rwQ pl r) pl.length (i := 0) (by omega) (by omega)
  unfold plZ
  split <;> omega
theorem plZ_sn {pl : List PE} {r : Int} (h : 0 ≤ plZ pl r) : sn pl (plZ pl r).toNat = true ∧ (cB (sn pl) (plZ pl r).toNat : Int) = r := by
  unfold plZ at *
  split at h
  · rename_i q
    rw [if_pos q]
    have h6 := (fZ_spec (rwQ pl r) pl.length (i := 0) (by omega) (by omega)).2.2.2 q
    unfold rwQ at h6
    rw [Bool.and_eq_true, decide_eq_true_iff] at h6
    exact h6
  · omega
def RoH (pl : List PE) (n : Nat) (a b : Nat → Int) : Prop := (∀ i, i < n → sn pl i = true → b i = cB (sn pl) i ∧ a (cB (sn pl) i) = i) ∧ ∀ i, i < n → sn pl i = false → b i = -6
abbrev roF (p : Nat) (s : Int) : List Value := [.ref (p + 1 + 0), .ref (p + 1 + 1), .int (zI s)]
def RoR (h : AH) (p : Nat) (pl : List PE) : Prop := ∃ a b, SO h h p 3 5 (roF p (cB (sn pl) pl.length)) (liA a b) ∧ RoH pl pl.length a b ∧ pl.length ≤ 120
theorem RoR.mv {h h' : AH} {p lo hi : Nat} {pl : List PE} (a : RoR h p pl) (f : Fr h h' lo hi) (d : hi ≤ p ∨ p + 3 ≤ lo) : RoR h' p pl := by
  obtain ⟨n, l, hP, hB, hH⟩ := a
  exact ⟨n, l, hP.mv f d, hB, hH⟩
theorem RoR.so {h : AH} {p : Nat} {pl : List PE} (a : RoR h p pl) : ∃ x y, SO h h p 3 5 (roF p (cB (sn pl) pl.length)) (liA x y) := by
  obtain ⟨n, l, hP, -⟩ := a
  exact ⟨n, l, hP⟩

theorem c_X5_refresh (sz : Nat) {h : AH} {p pp : Nat} {pl pl0 : List PE} (hRo : RoR h p pl0) (hPl : PlR h pp pl) (hd : p + 3 ≤ pp ∨ pp + 4 ≤ p) : CC mX5_refresh 0 0 0 [.ref p, .ref pp] sz h (QV (fun h' => RoR h' p pl ∧ Fr h h' p (p + 3))) := by
  refine CC.intro [some (.ref p), some (.ref pp), none, none, none] pfX5_refresh rfl rfl ?_
  obtain ⟨a, b, hR, -, -⟩ := hRo
  obtain ⟨n, l, f, hP, hB, hH⟩ := hPl
  have hL := hB.1
  refine x_aload_n dX5_refresh_0 rfl ?_
  refine x_iconst dX5_refresh_1 ?_
  refine s_puti dX5_refresh_2 fX5_18 hR rfl (fun hx hR hF => ?_)
  have hP := hP.mv hF (by omega)
  refine x_bipush dX5_refresh_5 (by decide) ?_
  refine x_istore_n dX5_refresh_7 rfl rfl rfl ?_
  refine x_iconst dX5_refresh_8 ?_
  refine x_istore_n dX5_refresh_9 rfl rfl rfl ?_
  refine x_loop (fun s : AH × Int × Int => s.1) (fun s => [some (.ref p), some (.ref pp), some (.int (zI s.2.2)), some (.int (zI s.2.1)), none]) (fun s => 0 ≤ s.2.1 ∧ s.2.1 ≤ pl.length ∧ s.2.2 = gs pl s.2.1.toNat ∧ SO s.1 s.1 pp 4 3 (plF pp pl.length) (plA n l f) ∧ ∃ a b, SO h s.1 p 3 5 (roF p (cB (sn pl) s.2.1.toNat)) (liA a b) ∧ RoH pl s.2.1.toNat a b) (fun s => (pl.length - s.2.1).toNat) (_, 0, 40) rfl rfl ⟨by dsimp only; omega, by dsimp only; omega, rfl, hP, a, b, hR, fun i hi => by simp at hi, fun i hi => by simp at hi⟩ ?_
  clear hP hR
  rintro ⟨h2, i, g⟩ ⟨hi0, hi1, hg, hP, a, b, hR, hJ1, hJ2⟩ ihq
  try dsimp only at *
  have hg40 := gs_40 hB i.toNat (by omega)
  have hcl := cB_le (sn pl) i.toNat
  have hgs := gs_s pl hi0
  have hsn := sn_i pl hi0
  have hpre : i < pl.length → l i.toNat = gV pl i ∧ f i.toNat = gF pl i ∧ 0 ≤ gV pl i ∧ gV pl i ≤ 40 ∧ 0 ≤ gF pl i ∧ gF pl i ≤ 1 := fun hlt => ⟨(gV_in hH hi0 hlt).1, (gV_in hH hi0 hlt).2.2, (gV_r hB i).1, (gV_r hB i).2, (gF_r hB i).1, (gF_r hB i).2⟩
  have hcs : cB (sn pl) (i + 1).toNat = cB (sn pl) i.toNat + (if sn pl i.toNat = true then 1 else 0) := by rw [show (i + 1).toNat = i.toNat + 1 by omega, cB_s]
  refine x_iload_n dX5_refresh_10 rfl ?_
  refine x_aload_n dX5_refresh_11 rfl ?_
  refine s_get dX5_refresh_12 fX5_22 hP rfl ?_
  refine x_icmp_ge dX5_refresh_15 ⟨by omega, by omega⟩ ⟨by omega, by omega⟩ (fun qc15q => ?_) (fun qc15q => ?_)
  · refine x_vreturn dX5_refresh_106 rfl ?_
    have qe9q : i.toNat = pl.length := by omega
    rw [qe9q] at hR hJ1 hJ2
    exact ⟨rfl, ⟨a, b, hR.st, ⟨hJ1, hJ2⟩, hL⟩, hR.fr⟩
  · obtain ⟨qe1q, qe2q, qe3q, qe4q, qe5q, qe6q⟩ := hpre (by omega)
    refine x_aload_n dX5_refresh_18 rfl ?_
    refine s_get dX5_refresh_19 fX5_25 hP rfl ?_
    refine x_iload_n dX5_refresh_22 rfl ?_
    refine s_iald dX5_refresh_23 hP rfl rfl ⟨by omega, by omega⟩ ?_
    refine x_istore dX5_refresh_24 rfl rfl rfl ?_
    refine x_iload dX5_refresh_26 rfl ?_
    refine x_iload_n dX5_refresh_28 rfl ?_
    refine x_icmp_gt dX5_refresh_29 ⟨by omega, by omega⟩ ⟨by omega, by omega⟩ (fun qc29q => ?_) (fun qc29q => ?_)
    · refine x_aload_n dX5_refresh_41 rfl ?_
      refine s_get dX5_refresh_42 fX5_15 hR rfl ?_
      refine x_iload_n dX5_refresh_45 rfl ?_
      refine x_bipush dX5_refresh_46 (by decide) ?_
      refine s_iast dX5_refresh_48 hR rfl rfl ⟨by omega, by omega⟩ (fun h hR hF => ?_)
      have hP := hP.mv hF (by omega)
      refine x_goto dX5_refresh_49 ?_
      refine x_iinc dX5_refresh_100 rfl rfl rfl ?_
      refine x_goto dX5_refresh_103 ?_
      refine x_kill 4 ?_
      first
        | (have qe7q : ¬ sn pl i.toNat = true := fun q => by have := hsn.mp q; omega
           rw [if_neg qe7q] at hcs
           rw [if_pos (by omega)] at hgs
           refine ihq (_, i + 1, g) ⟨by dsimp only; omega, by dsimp only; omega, by dsimp only; omega, hP, _, _, (by dsimp only; rw [hcs]; exact hR), fun k hk hs => ?_, fun k hk hs => ?_⟩ (by dsimp only; omega)
           · dsimp only at hk
             have q1 : k ≠ i.toNat := fun q => qe7q (by rw [← q]; exact hs)
             rw [zU_n q1]
             exact hJ1 k (by omega) hs
           · dsimp only at hk
             by_cases q1 : k = i.toNat
             · rw [q1, zU_s]
             · rw [zU_n q1]
               exact hJ2 k (by omega) hs)
        | (have qe7q : sn pl i.toNat = true := hsn.mpr (by omega)
           rw [if_pos qe7q] at hcs
           rw [if_neg (by omega)] at hgs
           rw [if_pos (by omega)] at hgs
           refine ihq (_, i + 1, l i.toNat) ⟨by dsimp only; omega, by dsimp only; omega, by dsimp only; omega, hP, _, _, (by dsimp only; rw [hcs, show ((cB (sn pl) i.toNat + 1 : Nat) : Int) = (cB (sn pl) i.toNat : Int) + 1 by omega]; exact hR), fun k hk hs => ?_, fun k hk hs => ?_⟩ (by dsimp only; omega)
           · dsimp only at hk
             by_cases q1 : k = i.toNat
             · rw [q1, zU_s, Int.toNat_natCast, zU_s]
               exact ⟨rfl, by omega⟩
             · rw [zU_n q1, Int.toNat_natCast, zU_n (by have := cB_lt (sn pl) (a := k) (b := i.toNat) (by omega) hs; omega)]
               exact hJ1 k (by omega) hs
           · dsimp only at hk
             by_cases q1 : k = i.toNat
             · rw [q1] at hs
               rw [qe7q] at hs
               cases hs
             · rw [zU_n q1]
               exact hJ2 k (by omega) hs)
        | (have qe7q : sn pl i.toNat = true := hsn.mpr (by omega)
           rw [if_pos qe7q] at hcs
           rw [if_neg (by omega)] at hgs
           rw [if_neg (by omega)] at hgs
           refine ihq (_, i + 1, 40) ⟨by dsimp only; omega, by dsimp only; omega, by dsimp only; omega, hP, _, _, (by dsimp only; rw [hcs, show ((cB (sn pl) i.toNat + 1 : Nat) : Int) = (cB (sn pl) i.toNat : Int) + 1 by omega]; exact hR), fun k hk hs => ?_, fun k hk hs => ?_⟩ (by dsimp only; omega)
           · dsimp only at hk
             by_cases q1 : k = i.toNat
             · rw [q1, zU_s, Int.toNat_natCast, zU_s]
               exact ⟨rfl, by omega⟩
             · rw [zU_n q1, Int.toNat_natCast, zU_n (by have := cB_lt (sn pl) (a := k) (b := i.toNat) (by omega) hs; omega)]
               exact hJ1 k (by omega) hs
           · dsimp only at hk
             by_cases q1 : k = i.toNat
             · rw [q1] at hs
               rw [qe7q] at hs
               cases hs
             · rw [zU_n q1]
               exact hJ2 k (by omega) hs)
    · refine x_aload_n dX5_refresh_32 rfl ?_
      refine s_get dX5_refresh_33 fX5_18 hR rfl ?_
      refine x_bipush dX5_refresh_36 (by decide) ?_
      refine x_icmp_lt dX5_refresh_38 ⟨by omega, by omega⟩ ⟨by omega, by omega⟩ (fun qc38q => ?_) (fun qc38q => ?_)
      · refine x_aload_n dX5_refresh_52 rfl ?_
        refine s_get dX5_refresh_53 fX5_15 hR rfl ?_
        refine x_iload_n dX5_refresh_56 rfl ?_
        refine x_aload_n dX5_refresh_57 rfl ?_
        refine s_get dX5_refresh_58 fX5_18 hR rfl ?_
        refine s_iast dX5_refresh_61 hR rfl rfl ⟨by omega, by omega⟩ (fun h hR hF => ?_)
        have hP := hP.mv hF (by omega)
        refine x_aload_n dX5_refresh_62 rfl ?_
        refine s_get dX5_refresh_63 fX5_9 hR rfl ?_
        refine x_aload_n dX5_refresh_66 rfl ?_
        refine s_get dX5_refresh_67 fX5_18 hR rfl ?_
        refine x_iload_n dX5_refresh_70 rfl ?_
        refine s_iast dX5_refresh_71 hR rfl rfl ⟨by omega, by omega⟩ (fun h hR hF => ?_)
        have hP := hP.mv hF (by omega)
        refine x_aload_n dX5_refresh_72 rfl ?_
        refine x_dup dX5_refresh_73 rfl ?_
        refine s_get dX5_refresh_74 fX5_18 hR rfl ?_
        refine x_iconst dX5_refresh_77 ?_
        refine x_iadd dX5_refresh_78 ?_
        refine s_puti dX5_refresh_79 fX5_18 hR rfl (fun h hR hF => ?_)
        have hP := hP.mv hF (by omega)
        refine x_aload_n dX5_refresh_82 rfl ?_
        refine s_get dX5_refresh_83 fX5_28 hP rfl ?_
        refine x_iload_n dX5_refresh_86 rfl ?_
        refine s_iald dX5_refresh_87 hP rfl rfl ⟨by omega, by omega⟩ ?_
        refine x_iconst dX5_refresh_88 ?_
        refine x_icmp_ne dX5_refresh_89 ⟨by omega, by omega⟩ ⟨by omega, by omega⟩ (fun qc89q => ?_) (fun qc89q => ?_)
        · have qe8q : ¬ gF pl i = 1 := by omega
          skip
          refine x_bipush dX5_refresh_97 (by decide) ?_
          refine x_istore_n dX5_refresh_99 rfl rfl rfl ?_
          refine x_iinc dX5_refresh_100 rfl rfl rfl ?_
          refine x_goto dX5_refresh_103 ?_
          refine x_kill 4 ?_
          first
            | (have qe7q : ¬ sn pl i.toNat = true := fun q => by have := hsn.mp q; omega
               rw [if_neg qe7q] at hcs
               rw [if_pos (by omega)] at hgs
               refine ihq (_, i + 1, g) ⟨by dsimp only; omega, by dsimp only; omega, by dsimp only; omega, hP, _, _, (by dsimp only; rw [hcs]; exact hR), fun k hk hs => ?_, fun k hk hs => ?_⟩ (by dsimp only; omega)
               · dsimp only at hk
                 have q1 : k ≠ i.toNat := fun q => qe7q (by rw [← q]; exact hs)
                 rw [zU_n q1]
                 exact hJ1 k (by omega) hs
               · dsimp only at hk
                 by_cases q1 : k = i.toNat
                 · rw [q1, zU_s]
                 · rw [zU_n q1]
                   exact hJ2 k (by omega) hs)
            | (have qe7q : sn pl i.toNat = true := hsn.mpr (by omega)
               rw [if_pos qe7q] at hcs
               rw [if_neg (by omega)] at hgs
               rw [if_pos (by omega)] at hgs
               refine ihq (_, i + 1, l i.toNat) ⟨by dsimp only; omega, by dsimp only; omega, by dsimp only; omega, hP, _, _, (by dsimp only; rw [hcs, show ((cB (sn pl) i.toNat + 1 : Nat) : Int) = (cB (sn pl) i.toNat : Int) + 1 by omega]; exact hR), fun k hk hs => ?_, fun k hk hs => ?_⟩ (by dsimp only; omega)
               · dsimp only at hk
                 by_cases q1 : k = i.toNat
                 · rw [q1, zU_s, Int.toNat_natCast, zU_s]
                   exact ⟨rfl, by omega⟩
                 · rw [zU_n q1, Int.toNat_natCast, zU_n (by have := cB_lt (sn pl) (a := k) (b := i.toNat) (by omega) hs; omega)]
                   exact hJ1 k (by omega) hs
               · dsimp only at hk
                 by_cases q1 : k = i.toNat
                 · rw [q1] at hs
                   rw [qe7q] at hs
                   cases hs
                 · rw [zU_n q1]
                   exact hJ2 k (by omega) hs)
            | (have qe7q : sn pl i.toNat = true := hsn.mpr (by omega)
               rw [if_pos qe7q] at hcs
               rw [if_neg (by omega)] at hgs
               rw [if_neg (by omega)] at hgs
               refine ihq (_, i + 1, 40) ⟨by dsimp only; omega, by dsimp only; omega, by dsimp only; omega, hP, _, _, (by dsimp only; rw [hcs, show ((cB (sn pl) i.toNat + 1 : Nat) : Int) = (cB (sn pl) i.toNat : Int) + 1 by omega]; exact hR), fun k hk hs => ?_, fun k hk hs => ?_⟩ (by dsimp only; omega)
               · dsimp only at hk
                 by_cases q1 : k = i.toNat
                 · rw [q1, zU_s, Int.toNat_natCast, zU_s]
                   exact ⟨rfl, by omega⟩
                 · rw [zU_n q1, Int.toNat_natCast, zU_n (by have := cB_lt (sn pl) (a := k) (b := i.toNat) (by omega) hs; omega)]
                   exact hJ1 k (by omega) hs
               · dsimp only at hk
                 by_cases q1 : k = i.toNat
                 · rw [q1] at hs
                   rw [qe7q] at hs
                   cases hs
                 · rw [zU_n q1]
                   exact hJ2 k (by omega) hs)
        · have qe8q : gF pl i = 1 := by omega
          refine x_iload dX5_refresh_92 rfl ?_
          refine x_goto dX5_refresh_94 ?_
          refine x_istore_n dX5_refresh_99 rfl rfl rfl ?_
          refine x_iinc dX5_refresh_100 rfl rfl rfl ?_
          refine x_goto dX5_refresh_103 ?_
          refine x_kill 4 ?_
          first
            | (have qe7q : ¬ sn pl i.toNat = true := fun q => by have := hsn.mp q; omega
               rw [if_neg qe7q] at hcs
               rw [if_pos (by omega)] at hgs
               refine ihq (_, i + 1, g) ⟨by dsimp only; omega, by dsimp only; omega, by dsimp only; omega, hP, _, _, (by dsimp only; rw [hcs]; exact hR), fun k hk hs => ?_, fun k hk hs => ?_⟩ (by dsimp only; omega)
               · dsimp only at hk
                 have q1 : k ≠ i.toNat := fun q => qe7q (by rw [← q]; exact hs)
                 rw [zU_n q1]
                 exact hJ1 k (by omega) hs
               · dsimp only at hk
                 by_cases q1 : k = i.toNat
                 · rw [q1, zU_s]
                 · rw [zU_n q1]
                   exact hJ2 k (by omega) hs)
            | (have qe7q : sn pl i.toNat = true := hsn.mpr (by omega)
               rw [if_pos qe7q] at hcs
               rw [if_neg (by omega)] at hgs
               rw [if_pos (by omega)] at hgs
               refine ihq (_, i + 1, l i.toNat) ⟨by dsimp only; omega, by dsimp only; omega, by dsimp only; omega, hP, _, _, (by dsimp only; rw [hcs, show ((cB (sn pl) i.toNat + 1 : Nat) : Int) = (cB (sn pl) i.toNat : Int) + 1 by omega]; exact hR), fun k hk hs => ?_, fun k hk hs => ?_⟩ (by dsimp only; omega)
               · dsimp only at hk
                 by_cases q1 : k = i.toNat
                 · rw [q1, zU_s, Int.toNat_natCast, zU_s]
                   exact ⟨rfl, by omega⟩
                 · rw [zU_n q1, Int.toNat_natCast, zU_n (by have := cB_lt (sn pl) (a := k) (b := i.toNat) (by omega) hs; omega)]
                   exact hJ1 k (by omega) hs
               · dsimp only at hk
                 by_cases q1 : k = i.toNat
                 · rw [q1] at hs
                   rw [qe7q] at hs
                   cases hs
                 · rw [zU_n q1]
                   exact hJ2 k (by omega) hs)
            | (have qe7q : sn pl i.toNat = true := hsn.mpr (by omega)
               rw [if_pos qe7q] at hcs
               rw [if_neg (by omega)] at hgs
               rw [if_neg (by omega)] at hgs
               refine ihq (_, i + 1, 40) ⟨by dsimp only; omega, by dsimp only; omega, by dsimp only; omega, hP, _, _, (by dsimp only; rw [hcs, show ((cB (sn pl) i.toNat + 1 : Nat) : Int) = (cB (sn pl) i.toNat : Int) + 1 by omega]; exact hR), fun k hk hs => ?_, fun k hk hs => ?_⟩ (by dsimp only; omega)
               · dsimp only at hk
                 by_cases q1 : k = i.toNat
                 · rw [q1, zU_s, Int.toNat_natCast, zU_s]
                   exact ⟨rfl, by omega⟩
                 · rw [zU_n q1, Int.toNat_natCast, zU_n (by have := cB_lt (sn pl) (a := k) (b := i.toNat) (by omega) hs; omega)]
                   exact hJ1 k (by omega) hs
               · dsimp only at hk
                 by_cases q1 : k = i.toNat
                 · rw [q1] at hs
                   rw [qe7q] at hs
                   cases hs
                 · rw [zU_n q1]
                   exact hJ2 k (by omega) hs)
      · exact absurd qc38q (by omega)
theorem c_X5_placeOf (sz : Nat) {h : AH} {p : Nat} {pl : List PE} (hRo : RoR h p pl) {r : Int} (hr : inR r) : CC mX5_placeOf 0 0 0 [.ref p, .int (zI r)] sz h (QR (plZ pl r) h) := by
  refine CC.intro [some (.ref p), some (.int (zI r))] pfX5_placeOf rfl rfl ?_
  have hRo0 := hRo
  obtain ⟨a, b, hR, ⟨hJ1, hJ2⟩, hL⟩ := hRo
  have hcl := cB_le (sn pl) pl.length
  refine x_iload_n dX5_placeOf_0 rfl ?_
  refine x_if_lt dX5_placeOf_1 ⟨by omega, by omega⟩ (fun qc1q => ?_) (fun qc1q => ?_)
  · refine x_bipush dX5_placeOf_27 (by decide) ?_
    refine x_ireturn dX5_placeOf_29 rfl ?_
    first | exact ⟨by rw [plZ_no (by omega)], rfl⟩ | exact ⟨by rw [plZ_hit k1 k2 (by omega), k4], rfl⟩
  · refine x_iload_n dX5_placeOf_4 rfl ?_
    refine x_aload_n dX5_placeOf_5 rfl ?_
    refine s_get dX5_placeOf_6 fX5_18 hR rfl ?_
    refine x_icmp_ge dX5_placeOf_9 ⟨by omega, by omega⟩ ⟨by omega, by omega⟩ (fun qc9q => ?_) (fun qc9q => ?_)
    · refine x_bipush dX5_placeOf_27 (by decide) ?_
      refine x_ireturn dX5_placeOf_29 rfl ?_
      first | exact ⟨by rw [plZ_no (by omega)], rfl⟩ | exact ⟨by rw [plZ_hit k1 k2 (by omega), k4], rfl⟩
    · refine x_iload_n dX5_placeOf_12 rfl ?_
      refine x_bipush dX5_placeOf_13 (by decide) ?_
      refine x_icmp_ge dX5_placeOf_15 ⟨by omega, by omega⟩ ⟨by omega, by omega⟩ (fun qc15q => ?_) (fun qc15q => ?_)
      · exact absurd qc15q (by omega)
      · obtain ⟨k, k1, k2, k3⟩ := cB_kth (sn pl) pl.length r.toNat (by omega)
        have k4 := (hJ1 k k1 k2).2
        rw [k3] at k4
        refine x_aload_n dX5_placeOf_18 rfl ?_
        refine s_get dX5_placeOf_19 fX5_9 hR rfl ?_
        refine x_iload_n dX5_placeOf_22 rfl ?_
        refine s_iald dX5_placeOf_23 hR rfl rfl ⟨by omega, by omega⟩ ?_
        refine x_goto dX5_placeOf_24 ?_
        refine x_ireturn dX5_placeOf_29 rfl ?_
        first | exact ⟨by rw [plZ_no (by omega)], rfl⟩ | exact ⟨by rw [plZ_hit k1 k2 (by omega), k4], rfl⟩
def rwZ (pl : List PE) (z : Int) : Int := if sn pl z.toNat = true then (cB (sn pl) z.toNat : Int) else -6
theorem c_X5_rowOf (sz : Nat) {h : AH} {p : Nat} {pl : List PE} (hRo : RoR h p pl) {z : Int} (h0 : 0 ≤ z) (h1 : z < pl.length) : CC mX5_rowOf 0 0 0 [.ref p, .int (zI z)] sz h (QR (rwZ pl z) h) := by
  refine CC.intro [some (.ref p), some (.int (zI z))] pfX5_rowOf rfl rfl ?_
  have hRo0 := hRo
  obtain ⟨a, b, hR, ⟨hJ1, hJ2⟩, hL⟩ := hRo
  have hcl := cB_le (sn pl) pl.length
  refine x_iload_n dX5_rowOf_0 rfl ?_
  refine x_if_lt dX5_rowOf_1 ⟨by omega, by omega⟩ (fun qc1q => ?_) (fun qc1q => ?_)
  · exact absurd qc1q (by omega)
  · refine x_iload_n dX5_rowOf_4 rfl ?_
    refine x_bipush dX5_rowOf_5 (by decide) ?_
    refine x_icmp_ge dX5_rowOf_7 ⟨by omega, by omega⟩ ⟨by omega, by omega⟩ (fun qc7q => ?_) (fun qc7q => ?_)
    · exact absurd qc7q (by omega)
    · refine x_aload_n dX5_rowOf_10 rfl ?_
      refine s_get dX5_rowOf_11 fX5_15 hR rfl ?_
      refine x_iload_n dX5_rowOf_14 rfl ?_
      refine s_iald dX5_rowOf_15 hR rfl rfl ⟨by omega, by omega⟩ ?_
      refine x_goto dX5_rowOf_16 ?_
      refine x_ireturn dX5_rowOf_21 rfl ?_
      refine ⟨?_, rfl⟩
      unfold rwZ
      by_cases q : sn pl z.toNat = true
      · rw [if_pos q, (hJ1 z.toNat (by omega) q).1]
      · rw [if_neg q, hJ2 z.toNat (by omega) (by simpa using q)]
theorem c_X5_seenBetween (sz : Nat) {h : AH} {p : Nat} {pl : List PE} (hRo : RoR h p pl) {u v : Int} (h0 : 0 ≤ u) (h1 : u ≤ v) (h2 : v ≤ pl.length) : CC mX5_seenBetween 1 0 0 [.ref p, .int (zI u), .int (zI v)] sz h (QR (cZ (sn pl) v - cZ (sn pl) u) h) := by
  refine CC.intro [some (.ref p), some (.int (zI u)), some (.int (zI v)), none, none] pfX5_seenBetween rfl rfl ?_
  have hRo0 := hRo
  obtain ⟨a, b, hR, ⟨hJ1, hJ2⟩, hL⟩ := hRo
  have hcl := cB_le (sn pl) pl.length
  refine x_iconst dX5_seenBetween_0 ?_
  refine x_istore_n dX5_seenBetween_1 rfl rfl rfl ?_
  refine x_iload_n dX5_seenBetween_2 rfl ?_
  refine x_istore dX5_seenBetween_3 rfl rfl rfl ?_
  refine x_loop (fun _ => h) (fun s : Int × Int => [some (.ref p), some (.int (zI u)), some (.int (zI v)), some (.int (zI s.2)), some (.int (zI s.1))]) (fun s => u ≤ s.1 ∧ s.1 ≤ v ∧ s.2 = cZ (sn pl) s.1 - cZ (sn pl) u) (fun s => (v - s.1).toNat) (u, 0) rfl rfl ⟨by dsimp only; omega, by dsimp only; omega, by dsimp only; omega⟩ ?_
  rintro ⟨i, c⟩ ⟨hi0, hi1, hI⟩ ihq
  try dsimp only at *
  have hr1 := cZ_r (sn pl) (i := i) (by omega)
  have hr2 := cZ_r (sn pl) (i := u) (by omega)
  have hrw : -6 ≤ rwZ pl i ∧ rwZ pl i ≤ 120 := by
    have := cB_le (sn pl) i.toNat
    unfold rwZ
    split <;> omega
  refine x_iload dX5_seenBetween_5 rfl ?_
  refine x_iload_n dX5_seenBetween_7 rfl ?_
  refine x_icmp_ge dX5_seenBetween_8 ⟨by omega, by omega⟩ ⟨by omega, by omega⟩ (fun qc8q => ?_) (fun qc8q => ?_)
  · refine x_iload_n dX5_seenBetween_31 rfl ?_
    refine x_ireturn dX5_seenBetween_32 rfl ?_
    exact ⟨by rw [hI, show i = v by omega], rfl⟩
  · refine x_aload_n dX5_seenBetween_11 rfl ?_
    refine x_iload dX5_seenBetween_12 rfl ?_
    refine p_V dX5_seenBetween_14 lX5_31 (c_X5_rowOf sz hRo0 (z := i) (by omega) (by omega)) hR.1 rfl rfl rfl rfl (by decide) ?_
    refine x_bipush dX5_seenBetween_17 (by decide) ?_
    refine x_icmp_eq dX5_seenBetween_19 ⟨by omega, by omega⟩ ⟨by omega, by omega⟩ (fun qc19q => ?_) (fun qc19q => ?_)
    · have qe7q : sn pl i.toNat = false := by
        unfold rwZ at qc19q
        split at qc19q
        · omega
        · rename_i q
          simpa using q
      have qe6q := cZ_f (p := sn pl) (i := i) (by omega) qe7q
      refine x_iinc dX5_seenBetween_25 rfl rfl rfl ?_
      refine x_goto dX5_seenBetween_28 ?_
      first | exact ihq (i + 1, c) ⟨by dsimp only; omega, by dsimp only; omega, by dsimp only; omega⟩ (by dsimp only; omega) | exact ihq (i + 1, c + 1) ⟨by dsimp only; omega, by dsimp only; omega, by dsimp only; omega⟩ (by dsimp only; omega)
    · have qe7q : sn pl i.toNat = true := by
        unfold rwZ at qc19q
        split at qc19q
        · rename_i q
          exact q
        · exact absurd rfl qc19q
      have qe6q := cZ_t (p := sn pl) (i := i) (by omega) qe7q
      refine x_iinc dX5_seenBetween_22 rfl rfl rfl ?_
      refine x_iinc dX5_seenBetween_25 rfl rfl rfl ?_
      refine x_goto dX5_seenBetween_28 ?_
      first | exact ihq (i + 1, c) ⟨by dsimp only; omega, by dsimp only; omega, by dsimp only; omega⟩ (by dsimp only; omega) | exact ihq (i + 1, c + 1) ⟨by dsimp only; omega, by dsimp only; omega, by dsimp only; omega⟩ (by dsimp only; omega)
def snN (pl : List PE) (z : Int) : Nat → Bool := fun k => sn pl k && decide ((pn pl k : Int) = z)
theorem snN_sn (pl : List PE) (z : Int) : ∀ k, snN pl z k = true → sn pl k = true := fun k h => by
  unfold snN at h
  rw [Bool.and_eq_true] at h
  exact h.1
theorem snN_iff (pl : List PE) (z : Int) {k : Nat} (hs : sn pl k = true) : snN pl z k = true ↔ (pn pl k : Int) = z := by
  unfold snN
  rw [hs, Bool.true_and, decide_eq_true_iff]
/-- the first row of a node, or -6 -/
def rwF (pl : List PE) (z : Int) : Int := if fZ (snN pl z) pl.length 0 < pl.length then (cB (sn pl) (fZ (snN pl z) pl.length 0).toNat : Int) else -6

theorem c_X5_seenOf (sz : Nat) {h : AH} {p pp : Nat} {pl : List PE} (hRo : RoR h p pl) (hPl : PlR h pp pl) {z : Int} (hz : inR z) : CC mX5_seenOf 2 0 0 [.ref p, .ref pp, .int (zI z)] sz h (QR (cZ (snN pl z) pl.length) h) := by
  refine CC.intro [some (.ref p), some (.ref pp), some (.int (zI z)), none, none] pfX5_seenOf rfl rfl ?_
  have hRo0 := hRo
  obtain ⟨a, b, hR, ⟨hJ1, hJ2⟩, hL⟩ := hRo
  have hcl := cB_le (sn pl) pl.length
  have hPB := hPl.B
  obtain ⟨_, _, _, hPs⟩ := hPl.so
  refine x_iconst dX5_seenOf_0 ?_
  refine x_istore_n dX5_seenOf_1 rfl rfl rfl ?_
  refine x_iconst dX5_seenOf_2 ?_
  refine x_istore dX5_seenOf_3 rfl rfl rfl ?_
  refine x_loop (fun _ => h) (fun s : Int × Int => [some (.ref p), some (.ref pp), some (.int (zI z)), some (.int (zI s.2)), some (.int (zI s.1))]) (fun s => 0 ≤ s.1 ∧ s.1 ≤ cB (sn pl) pl.length ∧ ∃ j, j ≤ pl.length ∧ (cB (sn pl) j : Int) = s.1 ∧ s.2 = cB (snN pl z) j) (fun s => (cB (sn pl) pl.length - s.1).toNat) (0, 0) rfl rfl ⟨by dsimp only; omega, by dsimp only; omega, 0, by omega, rfl, rfl⟩ ?_
  rintro ⟨i, c⟩ ⟨hi0, hi1, j, hj0, hj1, hI⟩ ihq
  try dsimp only at *
  have hr1 := cB_le (snN pl z) j
  refine x_iload dX5_seenOf_5 rfl ?_
  refine x_aload_n dX5_seenOf_7 rfl ?_
  refine s_get dX5_seenOf_8 fX5_18 hR rfl ?_
  refine x_icmp_ge dX5_seenOf_11 ⟨by omega, by omega⟩ ⟨by omega, by omega⟩ (fun qc11q => ?_) (fun qc11q => ?_)
  · refine x_iload_n dX5_seenOf_38 rfl ?_
    refine x_ireturn dX5_seenOf_39 rfl ?_
    refine ⟨?_, rfl⟩
    rw [hI, cB_eqv (sn pl) (snN pl z) (snN_sn pl z) (a := j) (b := pl.length) (by omega)]
    unfold cZ
    rw [Int.toNat_natCast]
  · obtain ⟨k, k1, k2, k3⟩ := cB_kth (sn pl) pl.length i.toNat (by omega)
    have k4 := (hJ1 k k1 k2).2
    rw [k3] at k4
    have k5 : gN pl (a i.toNat) = pn pl k := by
      rw [k4]
      unfold gN
      rw [if_pos (by omega), Int.toNat_natCast]
    have k6 := hPB.2 k k1
    have k7 := snN_iff pl z k2
    have k8 := cB_eqv (sn pl) (snN pl z) (snN_sn pl z) (a := j) (b := k) (by omega)
    have k9 := cB_s (sn pl) k
    have k10 := cB_s (snN pl z) k
    rw [if_pos k2] at k9
    refine x_aload_n dX5_seenOf_14 rfl ?_
    refine x_aload_n dX5_seenOf_15 rfl ?_
    refine s_get dX5_seenOf_16 fX5_9 hR rfl ?_
    refine x_iload dX5_seenOf_19 rfl ?_
    refine s_iald dX5_seenOf_21 hR rfl rfl ⟨by omega, by omega⟩ ?_
    refine p_V dX5_seenOf_22 lX5_35 (c_X3_nodeOf sz hPl (z := a i.toNat) ⟨by omega, by omega⟩) hPs.1 rfl rfl rfl rfl (by decide) ?_
    rw [k5]
    refine x_iload_n dX5_seenOf_25 rfl ?_
    refine x_icmp_ne dX5_seenOf_26 ⟨by omega, by omega⟩ ⟨by omega, by omega⟩ (fun qc26q => ?_) (fun qc26q => ?_)
    · refine x_iinc dX5_seenOf_32 rfl rfl rfl ?_
      refine x_goto dX5_seenOf_35 ?_
      first | (rw [if_pos (k7.mpr (by omega))] at k10; exact ihq (i + 1, c + 1) ⟨by dsimp only; omega, by dsimp only; omega, k + 1, by omega, by dsimp only; omega, by dsimp only; omega⟩ (by dsimp only; omega)) | (rw [if_neg (fun q => by have := k7.mp q; omega)] at k10; exact ihq (i + 1, c) ⟨by dsimp only; omega, by dsimp only; omega, k + 1, by omega, by dsimp only; omega, by dsimp only; omega⟩ (by dsimp only; omega))
    · refine x_iinc dX5_seenOf_29 rfl rfl rfl ?_
      refine x_iinc dX5_seenOf_32 rfl rfl rfl ?_
      refine x_goto dX5_seenOf_35 ?_
      first | (rw [if_pos (k7.mpr (by omega))] at k10; exact ihq (i + 1, c + 1) ⟨by dsimp only; omega, by dsimp only; omega, k + 1, by omega, by dsimp only; omega, by dsimp only; omega⟩ (by dsimp only; omega)) | (rw [if_neg (fun q => by have := k7.mp q; omega)] at k10; exact ihq (i + 1, c) ⟨by dsimp only; omega, by dsimp only; omega, k + 1, by omega, by dsimp only; omega, by dsimp only; omega⟩ (by dsimp only; omega))
theorem c_X5_firstOf (sz : Nat) {h : AH} {p pp : Nat} {pl : List PE} (hRo : RoR h p pl) (hPl : PlR h pp pl) {z : Int} (hz : inR z) : CC mX5_firstOf 2 0 0 [.ref p, .ref pp, .int (zI z)] sz h (QR (rwF pl z) h) := by
  refine CC.intro [some (.ref p), some (.ref pp), some (.int (zI z)), none] pfX5_firstOf rfl rfl ?_
  have hRo0 := hRo
  obtain ⟨a, b, hR, ⟨hJ1, hJ2⟩, hL⟩ := hRo
  have hcl := cB_le (sn pl) pl.length
  have hPB := hPl.B
  obtain ⟨_, _, _, hPs⟩ := hPl.so
  refine x_iconst dX5_firstOf_0 ?_
  refine x_istore_n dX5_firstOf_1 rfl rfl rfl ?_
  refine x_loop (fun _ => h) (fun i : Int => [some (.ref p), some (.ref pp), some (.int (zI z)), some (.int (zI i))]) (fun i => 0 ≤ i ∧ i ≤ cB (sn pl) pl.length ∧ ∀ k, k < pl.length → (cB (sn pl) k : Int) < i → snN pl z k = false) (fun i => (cB (sn pl) pl.length - i).toNat) 0 rfl rfl ⟨by omega, by omega, fun k _ hk => by omega⟩ ?_
  rintro i ⟨hi0, hi1, hI⟩ ihq
  try dsimp only at *
  have hf := fZ_spec (snN pl z) pl.length (i := 0) (by omega) (by omega)
  refine x_iload_n dX5_firstOf_2 rfl ?_
  refine x_aload_n dX5_firstOf_3 rfl ?_
  refine s_get dX5_firstOf_4 fX5_18 hR rfl ?_
  refine x_icmp_ge dX5_firstOf_7 ⟨by omega, by omega⟩ ⟨by omega, by omega⟩ (fun qc7q => ?_) (fun qc7q => ?_)
  · refine x_bipush dX5_firstOf_32 (by decide) ?_
    refine x_ireturn dX5_firstOf_34 rfl ?_
    refine ⟨?_, rfl⟩
    unfold rwF
    rw [if_neg]
    intro q
    have q2 := hf.2.2.2 q
    have q3 := cB_lt (sn pl) (a := (fZ (snN pl z) pl.length 0).toNat) (b := pl.length) (by omega) (snN_sn pl z _ q2)
    have q5 := hI (fZ (snN pl z) pl.length 0).toNat (by omega) (by omega)
    rw [q2] at q5
    cases q5
  · obtain ⟨k, k1, k2, k3⟩ := cB_kth (sn pl) pl.length i.toNat (by omega)
    have k4 := (hJ1 k k1 k2).2
    rw [k3] at k4
    have k5 : gN pl (a i.toNat) = pn pl k := by
      rw [k4]
      unfold gN
      rw [if_pos (by omega), Int.toNat_natCast]
    have k6 := hPB.2 k k1
    have k7 := snN_iff pl z k2
    refine x_aload_n dX5_firstOf_10 rfl ?_
    refine x_aload_n dX5_firstOf_11 rfl ?_
    refine s_get dX5_firstOf_12 fX5_9 hR rfl ?_
    refine x_iload_n dX5_firstOf_15 rfl ?_
    refine s_iald dX5_firstOf_16 hR rfl rfl ⟨by omega, by omega⟩ ?_
    refine p_V dX5_firstOf_17 lX5_35 (c_X3_nodeOf sz hPl (z := a i.toNat) ⟨by omega, by omega⟩) hPs.1 rfl rfl rfl rfl (by decide) ?_
    rw [k5]
    refine x_iload_n dX5_firstOf_20 rfl ?_
    refine x_icmp_ne dX5_firstOf_21 ⟨by omega, by omega⟩ ⟨by omega, by omega⟩ (fun qc21q => ?_) (fun qc21q => ?_)
    · refine x_iinc dX5_firstOf_26 rfl rfl rfl ?_
      refine x_goto dX5_firstOf_29 ?_
      refine ihq (i + 1) ⟨by omega, by omega, fun j hj1 hj2 => ?_⟩ (by omega)
      rcases Int.lt_or_le (cB (sn pl) j : Int) i with q | q
      · exact hI j hj1 q
      · by_cases q2 : sn pl j = true
        · have q3 : j = k := by
            rcases Nat.lt_trichotomy j k with q4 | q4 | q4
            · have := cB_lt (sn pl) q4 q2
              omega
            · exact q4
            · have := cB_lt (sn pl) q4 k2
              omega
          rw [q3]
          have : ¬ snN pl z k = true := fun q4 => by have := k7.mp q4; omega
          simpa using this
        · have : ¬ snN pl z j = true := fun q4 => q2 (snN_sn pl z j q4)
          simpa using this
    · refine x_iload_n dX5_firstOf_24 rfl ?_
      refine x_ireturn dX5_firstOf_25 rfl ?_
      have k8 : snN pl z k = true := k7.mpr (by omega)
      have k9 : fZ (snN pl z) pl.length 0 = k := by
        rcases Int.lt_or_le (k : Int) (fZ (snN pl z) pl.length 0) with q | q
        · have := hf.2.2.1 k (by omega) q
          rw [k8] at this
          cases this
        · have q2 := hf.2.2.2 (by omega)
          rcases Int.lt_or_le (fZ (snN pl z) pl.length 0) k with q3 | q3
          · have q4 := cB_lt (sn pl) (a := (fZ (snN pl z) pl.length 0).toNat) (b := k) (by omega) (snN_sn pl z _ q2)
            have q5 := hI (fZ (snN pl z) pl.length 0).toNat (by omega) (by omega)
            rw [q2] at q5
            cases q5
          · omega
      refine ⟨?_, rfl⟩
      unfold rwF
      rw [k9, if_pos (by omega), Int.toNat_natCast, k3]
      congr 3
      omega
