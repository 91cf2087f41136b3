/-- show's unfolding, from the place i down: lev is the level of the last place that is around -/
def uA (pl : List PE) : Nat → Int → List PE × Bool
  | 0, _ => (pl, false)
  | n + 1, lev => if (pv pl n : Int) < lev then ((pSet (uA pl n (pv pl n)).1 n 0), (decide (pf pl n = 1) || (uA pl n (pv pl n)).2)) else uA pl n lev
theorem uA_len (pl : List PE) : ∀ n lev, (uA pl n lev).1.length = pl.length
  | 0, _ => rfl
  | n + 1, lev => by
    rw [uA]
    split
    · rw [pSet_len]; exact uA_len pl n _
    · exact uA_len pl n _
/-- the places that are around, by their places -/
def arr (pl : List PE) : Nat → Int → List Nat
  | 0, _ => []
  | n + 1, lev => if (pv pl n : Int) < lev then n :: arr pl n (pv pl n) else arr pl n lev
theorem arr_lt (pl : List PE) : ∀ n lev, ∀ k ∈ arr pl n lev, k < n
  | 0, _ => fun k hk => by simp [arr] at hk
  | n + 1, lev => fun k hk => by
    rw [arr] at hk
    split at hk
    · rcases List.mem_cons.mp hk with rfl | h
      · omega
      · have := arr_lt pl n _ k h
        omega
    · have := arr_lt pl n _ k hk
      omega
def pUn (pl : List PE) : List Nat → List PE
  | [] => pl
  | k :: l => pUn (pSet pl k 0) l
theorem pUn_len : ∀ (l : List Nat) (pl : List PE), (pUn pl l).length = pl.length
  | [], _ => rfl
  | k :: l, pl => by rw [pUn, pUn_len l, pSet_len]
theorem pUn_nv : ∀ (l : List Nat) (pl : List PE) (i : Nat), pn (pUn pl l) i = pn pl i ∧ pv (pUn pl l) i = pv pl i
  | [], _, _ => ⟨rfl, rfl⟩
  | k :: l, pl, i => by
    obtain ⟨a, b⟩ := pUn_nv l (pSet pl k 0) i
    rw [pUn, a, b, pSet_n, pSet_v]
    exact ⟨rfl, rfl⟩
theorem pUn_f : ∀ (l : List Nat) (pl : List PE) (i : Nat), (∀ k ∈ l, k < pl.length) → pf (pUn pl l) i = if i ∈ l then 0 else pf pl i
  | [], _, _, _ => by simp [pUn]
  | k :: l, pl, i, h => by
    rw [pUn, pUn_f l _ i (fun j hj => by rw [pSet_len]; exact h j (List.mem_cons_of_mem _ hj)), pSet_f _ _ _ _ (h k List.mem_cons_self)]
    by_cases e : i ∈ l
    · rw [if_pos e, if_pos (List.mem_cons_of_mem _ e)]
    · rw [if_neg e]
      by_cases qe2q : i = k
      · rw [if_pos qe2q, if_pos (by rw [qe2q]; exact List.mem_cons_self)]
      · rw [if_neg qe2q, if_neg (by simp [qe2q, e])]
theorem pUn_B : ∀ (l : List Nat) (pl : List PE), PlB pl → (∀ k ∈ l, k < pl.length) → PlB (pUn pl l)
  | [], _, h, _ => h
  | k :: l, pl, h, hl => pUn_B l _ (h.set (hl k List.mem_cons_self) (by omega)) (fun j hj => by rw [pSet_len]; exact hl j (List.mem_cons_of_mem _ hj))
theorem arr_s {pl : List PE} {i lev : Int} (h : 0 ≤ i) : arr pl (i + 1).toNat lev = if (pv pl i.toNat : Int) < lev then i.toNat :: arr pl i.toNat (pv pl i.toNat) else arr pl i.toNat lev := by
  rw [show (i + 1).toNat = i.toNat + 1 by omega, arr]
theorem any_cons_f (pl : List PE) (k : Nat) (l : List Nat) : ((k :: l).any fun j => decide (pf pl j = 1)) = (decide (pf pl k = 1) || l.any fun j => decide (pf pl j = 1)) := rfl

theorem c_X3_unfoldAround (sz : Nat) {h : AH} {p : Nat} {pl : List PE} (hPl : PlR h p pl) {z : Int} (h0 : 0 ≤ z) (h1 : z < pl.length) : CC mX3_unfoldAround 2 0 0 [.ref p, .int (zI z)] sz h (QI (fun c h' => c = (if (arr pl z.toNat (gV pl z)).any (fun j => decide (pf pl j = 1)) = true then 1 else 0) ∧ PlR h' p (pUn pl (arr pl z.toNat (gV pl z))) ∧ Fr h h' p (p + 4))) := by
  refine CC.intro [some (.ref p), some (.int (zI z)), none, none, none] pfX3_unfoldAround rfl rfl ?_
  have hPl0 := hPl
  obtain ⟨n, l, f, hP, hB, hH⟩ := hPl
  have hL := hB.1
  have hg := gV_r hB z
  refine x_iconst dX3_unfoldAround_0 ?_
  refine x_istore_n dX3_unfoldAround_1 rfl rfl rfl ?_
  refine x_aload_n dX3_unfoldAround_2 rfl ?_
  refine x_iload_n dX3_unfoldAround_3 rfl ?_
  refine p_V dX3_unfoldAround_4 lX3_31 (c_X3_levelOf sz hPl0 (z := z) ⟨by omega, by omega⟩) hP.1 rfl rfl rfl rfl (by decide) ?_
  refine x_istore_n dX3_unfoldAround_7 rfl rfl rfl ?_
  refine x_iload_n dX3_unfoldAround_8 rfl ?_
  refine x_aload_n dX3_unfoldAround_9 rfl ?_
  refine s_get dX3_unfoldAround_10 fX3_21 hP rfl ?_
  refine p_S dX3_unfoldAround_13 lX3_45 (c_J9_min_7cf53 sz h (a := z) (b := pl.length) ⟨by omega, by omega⟩ ⟨by omega, by omega⟩) rfl rfl rfl (by decide) ?_
  rw [show min z (pl.length : Int) = z by omega]
  refine x_iconst dX3_unfoldAround_16 ?_
  refine x_isub dX3_unfoldAround_17 ?_
  refine x_istore dX3_unfoldAround_18 rfl rfl rfl ?_
  refine x_loop (fun s : AH × Int × Int × Int × List PE => s.1) (fun s => [some (.ref p), some (.int (zI z)), some (.int (zI s.2.1)), some (.int (zI s.2.2.1)), some (.int (zI s.2.2.2.1))]) (fun s => -1 ≤ s.2.2.2.1 ∧ s.2.2.2.1 < pl.length ∧ 0 ≤ s.2.2.1 ∧ s.2.2.1 ≤ 40 ∧ (∃ n l f, SO h s.1 p 4 3 (plF p pl.length) (plA n l f) ∧ PlH s.2.2.2.2 n l f) ∧ s.2.2.2.2.length = pl.length ∧ PlB s.2.2.2.2 ∧ (∀ k : Nat, (k : Int) ≤ s.2.2.2.1 → pv s.2.2.2.2 k = pv pl k ∧ pf s.2.2.2.2 k = pf pl k) ∧ (s.2.1 = 0 ∨ s.2.1 = 1) ∧ pUn pl (arr pl z.toNat (gV pl z)) = pUn s.2.2.2.2 (arr pl (s.2.2.2.1 + 1).toNat s.2.2.1) ∧ ((arr pl z.toNat (gV pl z)).any (fun j => decide (pf pl j = 1)) = (decide (s.2.1 = 1) || (arr pl (s.2.2.2.1 + 1).toNat s.2.2.1).any (fun j => decide (pf pl j = 1))))) (fun s => (s.2.2.2.1 + 1).toNat) (h, 0, gV pl z, z - 1, pl) rfl rfl ⟨by dsimp only; omega, by dsimp only; omega, hg.1, hg.2, ⟨n, l, f, hP, hH⟩, rfl, hB, fun k _ => ⟨rfl, rfl⟩, Or.inl rfl, by dsimp only; rw [show z - 1 + 1 = z by omega], by dsimp only; rw [show z - 1 + 1 = z by omega]; simp⟩ ?_
  rintro ⟨h2, c, lev, i, ql⟩ ⟨hi0, hi1, hl0, hl1, ⟨n, l, f, hP, hH⟩, hql, hBq, hold, hc, hI, hJ⟩ ihq
  try dsimp only at *
  have hpre : 0 ≤ i → l i.toNat = pv pl i.toNat ∧ f i.toNat = pf pl i.toNat ∧ pv pl i.toNat ≤ 40 ∧ 1 ≤ pv pl i.toNat ∧ pf pl i.toNat ≤ 1 := by
    intro h5
    have qe1q := hH i.toNat (by omega)
    have qe2q := hold i.toNat (by omega)
    have qe3q := hB.2 i.toNat (by omega)
    rw [qe2q.1, qe2q.2] at qe1q
    exact ⟨qe1q.2.1, qe1q.2.2, by omega, by omega, by omega⟩
  refine x_iload dX3_unfoldAround_20 rfl ?_
  refine x_if_lt dX3_unfoldAround_22 ⟨by omega, by omega⟩ (fun qc22q => ?_) (fun qc22q => ?_)
  · refine x_iload_n dX3_unfoldAround_79 rfl ?_
    refine x_zreturn dX3_unfoldAround_80 rfl hc ?_
    have qe9q : (i + 1).toNat = 0 := by omega
    rw [qe9q] at hI hJ
    simp only [arr, pUn, List.any_nil, Bool.or_false] at hI hJ
    refine ⟨c, rfl, ?_, ⟨n, l, f, ?_, by rw [hI]; exact hBq, by rw [hI]; exact hH⟩, hP.fr⟩
    · rw [hJ]
      rcases hc with rfl | rfl <;> rfl
    · rw [hI, hql]
      exact hP.st
  · obtain ⟨qe1q, qe2q, qe3q, qe4q, qe5q⟩ := hpre (by omega)
    refine x_aload_n dX3_unfoldAround_25 rfl ?_
    refine s_get dX3_unfoldAround_26 fX3_15 hP rfl ?_
    refine x_iload dX3_unfoldAround_29 rfl ?_
    refine s_iald dX3_unfoldAround_31 hP rfl rfl ⟨by omega, by omega⟩ ?_
    refine x_iload_n dX3_unfoldAround_32 rfl ?_
    refine x_icmp_ge dX3_unfoldAround_33 ⟨by omega, by omega⟩ ⟨by omega, by omega⟩ (fun qc33q => ?_) (fun qc33q => ?_)
    · refine x_iinc dX3_unfoldAround_73 rfl rfl rfl ?_
      refine x_goto dX3_unfoldAround_76 ?_
      first
        | (refine ihq (_, c, lev, i + -1, ql) ⟨by dsimp only; omega, by dsimp only; omega, hl0, hl1, ⟨n, l, f, hP, hH⟩, hql, hBq, fun k hk => hold k (by dsimp only at hk; omega), hc, ?_, ?_⟩ (by dsimp only; omega)
           · dsimp only
             rw [hI, arr_s (i := i) (by omega), if_neg (by omega), show i + -1 + 1 = i by omega]
           · dsimp only
             rw [hJ, arr_s (i := i) (by omega), if_neg (by omega), show i + -1 + 1 = i by omega])
        | (refine ihq (_, 1, l i.toNat, i + -1, pSet ql i.toNat 0) ⟨by dsimp only; omega, by dsimp only; omega, by dsimp only; omega, by dsimp only; omega, ⟨n, l, _, hP, hH.set (f := 0) (by omega)⟩, by rw [pSet_len]; exact hql, hBq.set (by omega) (by omega), fun k hk => ?_, Or.inr rfl, ?_, ?_⟩ (by dsimp only; omega)
           · dsimp only at hk ⊢
             rw [pSet_v, pSet_f _ _ _ _ (by omega), if_neg (by omega)]
             exact hold k (by omega)
           · dsimp only
             rw [hI, arr_s (i := i) (by omega), if_pos (by omega), show i + -1 + 1 = i by omega, pUn, qe1q]
           · dsimp only
             rw [hJ, arr_s (i := i) (by omega), if_pos (by omega), show i + -1 + 1 = i by omega, any_cons_f, qe1q]
             first | (rw [show c = 1 by omega]; simp; done) | (rw [show pf pl i.toNat = 1 by omega]; simp; done))
        | (refine ihq (_, 0, l i.toNat, i + -1, pSet ql i.toNat 0) ⟨by dsimp only; omega, by dsimp only; omega, by dsimp only; omega, by dsimp only; omega, ⟨n, l, _, hP, hH.set (f := 0) (by omega)⟩, by rw [pSet_len]; exact hql, hBq.set (by omega) (by omega), fun k hk => ?_, Or.inl rfl, ?_, ?_⟩ (by dsimp only; omega)
           · dsimp only at hk ⊢
             rw [pSet_v, pSet_f _ _ _ _ (by omega), if_neg (by omega)]
             exact hold k (by omega)
           · dsimp only
             rw [hI, arr_s (i := i) (by omega), if_pos (by omega), show i + -1 + 1 = i by omega, pUn, qe1q]
           · dsimp only
             rw [hJ, arr_s (i := i) (by omega), if_pos (by omega), show i + -1 + 1 = i by omega, any_cons_f, qe1q, show c = 0 by omega]
             simp
             omega)
    · refine x_aload_n dX3_unfoldAround_36 rfl ?_
      refine s_get dX3_unfoldAround_37 fX3_15 hP rfl ?_
      refine x_iload dX3_unfoldAround_40 rfl ?_
      refine s_iald dX3_unfoldAround_42 hP rfl rfl ⟨by omega, by omega⟩ ?_
      refine x_istore_n dX3_unfoldAround_43 rfl rfl rfl ?_
      refine x_iload_n dX3_unfoldAround_44 rfl ?_
      refine x_if_ne dX3_unfoldAround_45 ⟨by omega, by omega⟩ (fun qc45q => ?_) (fun qc45q => ?_)
      · refine x_iconst dX3_unfoldAround_59 ?_
        refine x_goto dX3_unfoldAround_60 ?_
        refine x_istore_n dX3_unfoldAround_64 rfl rfl rfl ?_
        refine x_aload_n dX3_unfoldAround_65 rfl ?_
        refine s_get dX3_unfoldAround_66 fX3_18 hP rfl ?_
        refine x_iload dX3_unfoldAround_69 rfl ?_
        refine x_iconst dX3_unfoldAround_71 ?_
        refine s_iast dX3_unfoldAround_72 hP rfl rfl ⟨by omega, by omega⟩ (fun h hP hF => ?_)
        refine x_iinc dX3_unfoldAround_73 rfl rfl rfl ?_
        refine x_goto dX3_unfoldAround_76 ?_
        first
          | (refine ihq (_, c, lev, i + -1, ql) ⟨by dsimp only; omega, by dsimp only; omega, hl0, hl1, ⟨n, l, f, hP, hH⟩, hql, hBq, fun k hk => hold k (by dsimp only at hk; omega), hc, ?_, ?_⟩ (by dsimp only; omega)
             · dsimp only
               rw [hI, arr_s (i := i) (by omega), if_neg (by omega), show i + -1 + 1 = i by omega]
             · dsimp only
               rw [hJ, arr_s (i := i) (by omega), if_neg (by omega), show i + -1 + 1 = i by omega])
          | (refine ihq (_, 1, l i.toNat, i + -1, pSet ql i.toNat 0) ⟨by dsimp only; omega, by dsimp only; omega, by dsimp only; omega, by dsimp only; omega, ⟨n, l, _, hP, hH.set (f := 0) (by omega)⟩, by rw [pSet_len]; exact hql, hBq.set (by omega) (by omega), fun k hk => ?_, Or.inr rfl, ?_, ?_⟩ (by dsimp only; omega)
             · dsimp only at hk ⊢
               rw [pSet_v, pSet_f _ _ _ _ (by omega), if_neg (by omega)]
               exact hold k (by omega)
             · dsimp only
               rw [hI, arr_s (i := i) (by omega), if_pos (by omega), show i + -1 + 1 = i by omega, pUn, qe1q]
             · dsimp only
               rw [hJ, arr_s (i := i) (by omega), if_pos (by omega), show i + -1 + 1 = i by omega, any_cons_f, qe1q]
               first | (rw [show c = 1 by omega]; simp; done) | (rw [show pf pl i.toNat = 1 by omega]; simp; done))
          | (refine ihq (_, 0, l i.toNat, i + -1, pSet ql i.toNat 0) ⟨by dsimp only; omega, by dsimp only; omega, by dsimp only; omega, by dsimp only; omega, ⟨n, l, _, hP, hH.set (f := 0) (by omega)⟩, by rw [pSet_len]; exact hql, hBq.set (by omega) (by omega), fun k hk => ?_, Or.inl rfl, ?_, ?_⟩ (by dsimp only; omega)
             · dsimp only at hk ⊢
               rw [pSet_v, pSet_f _ _ _ _ (by omega), if_neg (by omega)]
               exact hold k (by omega)
             · dsimp only
               rw [hI, arr_s (i := i) (by omega), if_pos (by omega), show i + -1 + 1 = i by omega, pUn, qe1q]
             · dsimp only
               rw [hJ, arr_s (i := i) (by omega), if_pos (by omega), show i + -1 + 1 = i by omega, any_cons_f, qe1q, show c = 0 by omega]
               simp
               omega)
      · refine x_aload_n dX3_unfoldAround_48 rfl ?_
        refine s_get dX3_unfoldAround_49 fX3_18 hP rfl ?_
        refine x_iload dX3_unfoldAround_52 rfl ?_
        refine s_iald dX3_unfoldAround_54 hP rfl rfl ⟨by omega, by omega⟩ ?_
        refine x_iconst dX3_unfoldAround_55 ?_
        refine x_icmp_ne dX3_unfoldAround_56 ⟨by omega, by omega⟩ ⟨by omega, by omega⟩ (fun qc56q => ?_) (fun qc56q => ?_)
        · refine x_iconst dX3_unfoldAround_63 ?_
          refine x_istore_n dX3_unfoldAround_64 rfl rfl rfl ?_
          refine x_aload_n dX3_unfoldAround_65 rfl ?_
          refine s_get dX3_unfoldAround_66 fX3_18 hP rfl ?_
          refine x_iload dX3_unfoldAround_69 rfl ?_
          refine x_iconst dX3_unfoldAround_71 ?_
          refine s_iast dX3_unfoldAround_72 hP rfl rfl ⟨by omega, by omega⟩ (fun h hP hF => ?_)
          refine x_iinc dX3_unfoldAround_73 rfl rfl rfl ?_
          refine x_goto dX3_unfoldAround_76 ?_
          first
            | (refine ihq (_, c, lev, i + -1, ql) ⟨by dsimp only; omega, by dsimp only; omega, hl0, hl1, ⟨n, l, f, hP, hH⟩, hql, hBq, fun k hk => hold k (by dsimp only at hk; omega), hc, ?_, ?_⟩ (by dsimp only; omega)
               · dsimp only
                 rw [hI, arr_s (i := i) (by omega), if_neg (by omega), show i + -1 + 1 = i by omega]
               · dsimp only
                 rw [hJ, arr_s (i := i) (by omega), if_neg (by omega), show i + -1 + 1 = i by omega])
            | (refine ihq (_, 1, l i.toNat, i + -1, pSet ql i.toNat 0) ⟨by dsimp only; omega, by dsimp only; omega, by dsimp only; omega, by dsimp only; omega, ⟨n, l, _, hP, hH.set (f := 0) (by omega)⟩, by rw [pSet_len]; exact hql, hBq.set (by omega) (by omega), fun k hk => ?_, Or.inr rfl, ?_, ?_⟩ (by dsimp only; omega)
               · dsimp only at hk ⊢
                 rw [pSet_v, pSet_f _ _ _ _ (by omega), if_neg (by omega)]
                 exact hold k (by omega)
               · dsimp only
                 rw [hI, arr_s (i := i) (by omega), if_pos (by omega), show i + -1 + 1 = i by omega, pUn, qe1q]
               · dsimp only
                 rw [hJ, arr_s (i := i) (by omega), if_pos (by omega), show i + -1 + 1 = i by omega, any_cons_f, qe1q]
                 first | (rw [show c = 1 by omega]; simp; done) | (rw [show pf pl i.toNat = 1 by omega]; simp; done))
            | (refine ihq (_, 0, l i.toNat, i + -1, pSet ql i.toNat 0) ⟨by dsimp only; omega, by dsimp only; omega, by dsimp only; omega, by dsimp only; omega, ⟨n, l, _, hP, hH.set (f := 0) (by omega)⟩, by rw [pSet_len]; exact hql, hBq.set (by omega) (by omega), fun k hk => ?_, Or.inl rfl, ?_, ?_⟩ (by dsimp only; omega)
               · dsimp only at hk ⊢
                 rw [pSet_v, pSet_f _ _ _ _ (by omega), if_neg (by omega)]
                 exact hold k (by omega)
               · dsimp only
                 rw [hI, arr_s (i := i) (by omega), if_pos (by omega), show i + -1 + 1 = i by omega, pUn, qe1q]
               · dsimp only
                 rw [hJ, arr_s (i := i) (by omega), if_pos (by omega), show i + -1 + 1 = i by omega, any_cons_f, qe1q, show c = 0 by omega]
                 simp
                 omega)
        · refine x_iconst dX3_unfoldAround_59 ?_
          refine x_goto dX3_unfoldAround_60 ?_
          refine x_istore_n dX3_unfoldAround_64 rfl rfl rfl ?_
          refine x_aload_n dX3_unfoldAround_65 rfl ?_
          refine s_get dX3_unfoldAround_66 fX3_18 hP rfl ?_
          refine x_iload dX3_unfoldAround_69 rfl ?_
          refine x_iconst dX3_unfoldAround_71 ?_
          refine s_iast dX3_unfoldAround_72 hP rfl rfl ⟨by omega, by omega⟩ (fun h hP hF => ?_)
          refine x_iinc dX3_unfoldAround_73 rfl rfl rfl ?_
          refine x_goto dX3_unfoldAround_76 ?_
          first
            | (refine ihq (_, c, lev, i + -1, ql) ⟨by dsimp only; omega, by dsimp only; omega, hl0, hl1, ⟨n, l, f, hP, hH⟩, hql, hBq, fun k hk => hold k (by dsimp only at hk; omega), hc, ?_, ?_⟩ (by dsimp only; omega)
               · dsimp only
                 rw [hI, arr_s (i := i) (by omega), if_neg (by omega), show i + -1 + 1 = i by omega]
               · dsimp only
                 rw [hJ, arr_s (i := i) (by omega), if_neg (by omega), show i + -1 + 1 = i by omega])
            | (refine ihq (_, 1, l i.toNat, i + -1, pSet ql i.toNat 0) ⟨by dsimp only; omega, by dsimp only; omega, by dsimp only; omega, by dsimp only; omega, ⟨n, l, _, hP, hH.set (f := 0) (by omega)⟩, by rw [pSet_len]; exact hql, hBq.set (by omega) (by omega), fun k hk => ?_, Or.inr rfl, ?_, ?_⟩ (by dsimp only; omega)
               · dsimp only at hk ⊢
                 rw [pSet_v, pSet_f _ _ _ _ (by omega), if_neg (by omega)]
                 exact hold k (by omega)
               · dsimp only
                 rw [hI, arr_s (i := i) (by omega), if_pos (by omega), show i + -1 + 1 = i by omega, pUn, qe1q]
               · dsimp only
                 rw [hJ, arr_s (i := i) (by omega), if_pos (by omega), show i + -1 + 1 = i by omega, any_cons_f, qe1q]
                 first | (rw [show c = 1 by omega]; simp; done) | (rw [show pf pl i.toNat = 1 by omega]; simp; done))
            | (refine ihq (_, 0, l i.toNat, i + -1, pSet ql i.toNat 0) ⟨by dsimp only; omega, by dsimp only; omega, by dsimp only; omega, by dsimp only; omega, ⟨n, l, _, hP, hH.set (f := 0) (by omega)⟩, by rw [pSet_len]; exact hql, hBq.set (by omega) (by omega), fun k hk => ?_, Or.inl rfl, ?_, ?_⟩ (by dsimp only; omega)
               · dsimp only at hk ⊢
                 rw [pSet_v, pSet_f _ _ _ _ (by omega), if_neg (by omega)]
                 exact hold k (by omega)
               · dsimp only
                 rw [hI, arr_s (i := i) (by omega), if_pos (by omega), show i + -1 + 1 = i by omega, pUn, qe1q]
               · dsimp only
                 rw [hJ, arr_s (i := i) (by omega), if_pos (by omega), show i + -1 + 1 = i by omega, any_cons_f, qe1q, show c = 0 by omega]
                 simp
                 omega)
-- the text that is typed
def TyB (t : List Int) : Prop := t.length ≤ 60 ∧ ∀ c ∈ t, 0 ≤ c ∧ c < 65536
def TyH (t : List Int) (c : Nat → Int) : Prop := ∀ i, i < t.length → c i = t.getD i 0
abbrev tyF (p : Nat) (s : Int) : List Value := [.ref (p + 1 + 0), .int (zI s)]
def TyR (h : AH) (p : Nat) (t : List Int) : Prop := ∃ c, SO h h p 2 7 (tyF p t.length) [(0, 60, c)] ∧ TyB t ∧ TyH t c
theorem TyB.at {t : List Int} (h : TyB t) (i : Nat) : 0 ≤ t.getD i 0 ∧ t.getD i 0 < 65536 := by
  rw [List.getD_eq_getElem?_getD]
  by_cases hi : i < t.length
  · rw [List.getElem?_eq_getElem hi]
    exact h.2 _ (List.getElem_mem hi)
  · rw [List.getElem?_eq_none (by omega)]
    decide
theorem TyH.app {t : List Int} {c : Nat → Int} (h : TyH t c) (x : Int) : TyH (t ++ [x]) (zU c t.length x) := by
  intro i hi
  rw [List.length_append] at hi
  simp at hi
  by_cases e : i = t.length
  · subst e
    rw [zU_s, List.getD_eq_getElem?_getD, List.getElem?_append_right (Nat.le_refl _), Nat.sub_self]
    rfl
  · rw [zU_n e, List.getD_eq_getElem?_getD, List.getElem?_append_left (by omega), ← List.getD_eq_getElem?_getD]
    exact h i (by omega)
theorem TyB.app {t : List Int} (h : TyB t) {x : Int} (hl : t.length < 60) (hx : 0 ≤ x ∧ x < 65536) : TyB (t ++ [x]) := by
  refine ⟨by rw [List.length_append]; simp; omega, fun c hc => ?_⟩
  rcases List.mem_append.mp hc with q | q
  · exact h.2 c q
  · rw [List.mem_singleton.mp q]
    exact hx

theorem c_X7_append (sz : Nat) {h : AH} {p : Nat} {t : List Int} (hT : TyR h p t) {x : Int} (hx : 0 ≤ x ∧ x < 65536) : CC mX7_append 0 0 0 [.ref p, .int (zI x)] sz h (QI (fun z h' => (t.length < 60 ∧ z = 1 ∧ TyR h' p (t ++ [x]) ∧ Fr h h' p (p + 2)) ∨ (60 ≤ t.length ∧ z = 0 ∧ h' = h))) := by
  refine CC.intro [some (.ref p), some (.int (zI x))] pfX7_append rfl rfl ?_
  have hT0 := hT
  obtain ⟨c, hP, hB, hH⟩ := hT
  have hL := hB.1
  refine x_aload_n dX7_append_0 rfl ?_
  refine s_get dX7_append_1 fX7_15 hP rfl ?_
  refine x_if_lt dX7_append_4 ⟨by omega, by omega⟩ (fun qc4q => ?_) (fun qc4q => ?_)
  · exact absurd qc4q (by omega)
  · refine x_aload_n dX7_append_7 rfl ?_
    refine s_get dX7_append_8 fX7_15 hP rfl ?_
    refine x_bipush dX7_append_11 (by decide) ?_
    refine x_icmp_lt dX7_append_13 ⟨by omega, by omega⟩ ⟨by omega, by omega⟩ (fun qc13q => ?_) (fun qc13q => ?_)
    · refine x_aload_n dX7_append_18 rfl ?_
      refine s_get dX7_append_19 fX7_9 hP rfl ?_
      refine x_aload_n dX7_append_22 rfl ?_
      refine s_get dX7_append_23 fX7_15 hP rfl ?_
      refine x_iload_n dX7_append_26 rfl ?_
      refine s_iast dX7_append_27 hP rfl rfl ⟨by omega, by omega⟩ (fun h hP hF => ?_)
      refine x_aload_n dX7_append_28 rfl ?_
      refine x_dup dX7_append_29 rfl ?_
      refine s_get dX7_append_30 fX7_15 hP rfl ?_
      refine x_iconst dX7_append_33 ?_
      refine x_iadd dX7_append_34 ?_
      refine s_puti dX7_append_35 fX7_15 hP rfl (fun h hP hF => ?_)
      refine x_iconst dX7_append_38 ?_
      refine x_zreturn dX7_append_39 rfl (by omega) ?_
      refine ⟨_, rfl, Or.inl ⟨by omega, rfl, ⟨_, ?_, hB.app (by omega) hx, hH.app x⟩, hP.fr⟩⟩
      rw [List.length_append]
      exact hP.st
    · refine x_iconst dX7_append_16 ?_
      refine x_zreturn dX7_append_17 rfl (by omega) ?_
      exact ⟨_, rfl, Or.inr ⟨by omega, rfl, rfl⟩⟩
theorem c_X7_fitsNode (sz : Nat) {h : AH} {p : Nat} {t : List Int} (hT : TyR h p t) : CC mX7_fitsNode 0 0 0 [.ref p] sz h (QB (1 ≤ t.length ∧ t.length ≤ 8) h) := by
  refine CC.intro [some (.ref p)] pfX7_fitsNode rfl rfl ?_
  have hT0 := hT
  obtain ⟨c, hP, hB, hH⟩ := hT
  have hL := hB.1
  refine x_aload_n dX7_fitsNode_0 rfl ?_
  refine s_get dX7_fitsNode_1 fX7_15 hP rfl ?_
  refine x_iconst dX7_fitsNode_4 ?_
  refine x_icmp_lt dX7_fitsNode_5 ⟨by omega, by omega⟩ ⟨by omega, by omega⟩ (fun qc5q => ?_) (fun qc5q => ?_)
  · refine x_iconst dX7_fitsNode_21 ?_
    refine x_zreturn dX7_fitsNode_22 rfl (by omega) ?_
    refine ⟨?_, rfl⟩
    first | (exfalso; omega) | (rw [if_pos (by omega)]; done) | (rw [if_neg (by omega)]; done)
  · refine x_aload_n dX7_fitsNode_8 rfl ?_
    refine s_get dX7_fitsNode_9 fX7_15 hP rfl ?_
    refine x_bipush dX7_fitsNode_12 (by decide) ?_
    refine x_icmp_gt dX7_fitsNode_14 ⟨by omega, by omega⟩ ⟨by omega, by omega⟩ (fun qc14q => ?_) (fun qc14q => ?_)
    · refine x_iconst dX7_fitsNode_21 ?_
      refine x_zreturn dX7_fitsNode_22 rfl (by omega) ?_
      refine ⟨?_, rfl⟩
      first | (exfalso; omega) | (rw [if_pos (by omega)]; done) | (rw [if_neg (by omega)]; done)
    · refine x_iconst dX7_fitsNode_17 ?_
      refine x_goto dX7_fitsNode_18 ?_
      refine x_zreturn dX7_fitsNode_22 rfl (by omega) ?_
      refine ⟨?_, rfl⟩
      first | (exfalso; omega) | (rw [if_pos (by omega)]; done) | (rw [if_neg (by omega)]; done)
theorem c_X7_codeAt (sz : Nat) {h : AH} {p : Nat} {t : List Int} (hT : TyR h p t) {i : Int} (h0 : 0 ≤ i) (h1 : i < t.length) : CC mX7_codeAt 0 0 0 [.ref p, .int (zI i)] sz h (QR (t.getD i.toNat 0) h) := by
  refine CC.intro [some (.ref p), some (.int (zI i))] pfX7_codeAt rfl rfl ?_
  have hT0 := hT
  obtain ⟨c, hP, hB, hH⟩ := hT
  have hL := hB.1
  refine x_iload_n dX7_codeAt_0 rfl ?_
  refine x_if_lt dX7_codeAt_1 ⟨by omega, by omega⟩ (fun qc1q => ?_) (fun qc1q => ?_)
  · exact absurd qc1q (by omega)
  · refine x_iload_n dX7_codeAt_4 rfl ?_
    refine x_aload_n dX7_codeAt_5 rfl ?_
    refine s_get dX7_codeAt_6 fX7_15 hP rfl ?_
    refine x_icmp_ge dX7_codeAt_9 ⟨by omega, by omega⟩ ⟨by omega, by omega⟩ (fun qc9q => ?_) (fun qc9q => ?_)
    · exact absurd qc9q (by omega)
    · refine x_iload_n dX7_codeAt_12 rfl ?_
      refine x_bipush dX7_codeAt_13 (by decide) ?_
      refine x_icmp_ge dX7_codeAt_15 ⟨by omega, by omega⟩ ⟨by omega, by omega⟩ (fun qc15q => ?_) (fun qc15q => ?_)
      · exact absurd qc15q (by omega)
      · refine x_aload_n dX7_codeAt_18 rfl ?_
        refine s_get dX7_codeAt_19 fX7_9 hP rfl ?_
        refine x_iload_n dX7_codeAt_22 rfl ?_
        refine s_iald dX7_codeAt_23 hP rfl rfl ⟨by omega, by omega⟩ ?_
        refine x_goto dX7_codeAt_24 ?_
        refine x_ireturn dX7_codeAt_28 rfl ?_
        exact ⟨by rw [hH i.toNat (by omega)], rfl⟩
-- the nodes: d were made; the texts, the marks
def fU {α : Type} (f : Nat → α) (k : Nat) (v : α) : Nat → α := fun i => if i = k then v else f i
theorem fU_s {α : Type} (f : Nat → α) (k : Nat) (v : α) : fU f k v k = v := if_pos rfl
theorem fU_n {α : Type} {f : Nat → α} {k i : Nat} {v : α} (h : i ≠ k) : fU f k v i = f i := if_neg h
def NoB (d : Nat) (tx : Nat → List Int) (mk : Nat → Nat) : Prop := d ≤ 40 ∧ ∀ i, 1 ≤ i → i ≤ d → (tx i).length ≤ 8 ∧ (∀ c ∈ tx i, 0 ≤ c ∧ c < 65536) ∧ mk i < 32
def NoH (d : Nat) (tx : Nat → List Int) (mk : Nat → Nat) (m l c : Nat → Int) : Prop := ∀ i, 1 ≤ i → i ≤ d → m i = mk i ∧ l i = (tx i).length ∧ ∀ j, j < (tx i).length → c (i * 8 + j) = (tx i).getD j 0
abbrev noF (p : Nat) (s : Int) : List Value := [.ref (p + 1 + 0), .ref (p + 1 + 1), .ref (p + 1 + 2), .int (zI s)]
abbrev noA (m l c : Nat → Int) : List (Nat × Nat × (Nat → Int)) := [(0, 41, m), (0, 41, l), (0, 328, c)]
def NoR (h : AH) (p d : Nat) (tx : Nat → List Int) (mk : Nat → Nat) : Prop := ∃ m l c, SO h h p 4 2 (noF p d) (noA m l c) ∧ NoB d tx mk ∧ NoH d tx mk m l c
theorem shl5 {k : Int} (h0 : 0 ≤ k) (h1 : k < 5) : zI 1 <<< (zI k &&& 31) = zI ((2 ^ k.toNat : Nat) : Int) := by
  rcases (show k = 0 ∨ k = 1 ∨ k = 2 ∨ k = 3 ∨ k = 4 by omega) with rfl | rfl | rfl | rfl | rfl <;> decide
theorem xor5 (m k : Nat) (hm : m < 32) (hk : k < 5) : zI (m : Int) ^^^ zI ((2 ^ k : Nat) : Int) = zI ((m ^^^ 2 ^ k : Nat) : Int) ∧ m ^^^ 2 ^ k < 32 := by
  have key : ∀ m, m < 32 → ∀ k, k < 5 → zI ((m : Nat) : Int) ^^^ zI ((2 ^ k : Nat) : Int) = zI ((m ^^^ 2 ^ k : Nat) : Int) ∧ m ^^^ 2 ^ k < 32 := by decide +kernel
  exact key m hm k hk

theorem c_X8_isMark (sz : Nat) (h : AH) {z : Int} (hz : inR z) : CC mX8_isMark 0 0 0 [.int (zI z)] sz h (QB (0 ≤ z ∧ z < 5) h) := by
  refine CC.intro [some (.int (zI z))] pfX8_isMark rfl rfl ?_
  refine x_iload_n dX8_isMark_0 rfl ?_
  refine x_if_lt dX8_isMark_1 ⟨by omega, by omega⟩ (fun qc1q => ?_) (fun qc1q => ?_)
  · refine x_iconst dX8_isMark_13 ?_
    refine x_zreturn dX8_isMark_14 rfl (by omega) ?_
    refine ⟨?_, rfl⟩
    first | (exfalso; omega) | (rw [if_pos (by omega)]; done) | (rw [if_neg (by omega)]; done)
  · refine x_iload_n dX8_isMark_4 rfl ?_
    refine x_iconst dX8_isMark_5 ?_
    refine x_icmp_ge dX8_isMark_6 ⟨by omega, by omega⟩ ⟨by omega, by omega⟩ (fun qc6q => ?_) (fun qc6q => ?_)
    · refine x_iconst dX8_isMark_13 ?_
      refine x_zreturn dX8_isMark_14 rfl (by omega) ?_
      refine ⟨?_, rfl⟩
      first | (exfalso; omega) | (rw [if_pos (by omega)]; done) | (rw [if_neg (by omega)]; done)
    · refine x_iconst dX8_isMark_9 ?_
      refine x_goto dX8_isMark_10 ?_
      refine x_zreturn dX8_isMark_14 rfl (by omega) ?_
      refine ⟨?_, rfl⟩
      first | (exfalso; omega) | (rw [if_pos (by omega)]; done) | (rw [if_neg (by omega)]; done)
theorem c_X2_isNumber (sz : Nat) (h : AH) {z : Int} (hz : inR z) : CC mX2_isNumber 0 0 0 [.int (zI z)] sz h (QB (0 ≤ z ∧ z ≤ 40) h) := by
  refine CC.intro [some (.int (zI z))] pfX2_isNumber rfl rfl ?_
  refine x_iload_n dX2_isNumber_0 rfl ?_
  refine x_if_lt dX2_isNumber_1 ⟨by omega, by omega⟩ (fun qc1q => ?_) (fun qc1q => ?_)
  · refine x_iconst dX2_isNumber_14 ?_
    refine x_zreturn dX2_isNumber_15 rfl (by omega) ?_
    refine ⟨?_, rfl⟩
    first | (exfalso; omega) | (rw [if_pos (by omega)]; done) | (rw [if_neg (by omega)]; done)
  · refine x_iload_n dX2_isNumber_4 rfl ?_
    refine x_bipush dX2_isNumber_5 (by decide) ?_
    refine x_icmp_gt dX2_isNumber_7 ⟨by omega, by omega⟩ ⟨by omega, by omega⟩ (fun qc7q => ?_) (fun qc7q => ?_)
    · refine x_iconst dX2_isNumber_14 ?_
      refine x_zreturn dX2_isNumber_15 rfl (by omega) ?_
      refine ⟨?_, rfl⟩
      first | (exfalso; omega) | (rw [if_pos (by omega)]; done) | (rw [if_neg (by omega)]; done)
    · refine x_iconst dX2_isNumber_10 ?_
      refine x_goto dX2_isNumber_11 ?_
      refine x_zreturn dX2_isNumber_15 rfl (by omega) ?_
      refine ⟨?_, rfl⟩
      first | (exfalso; omega) | (rw [if_pos (by omega)]; done) | (rw [if_neg (by omega)]; done)
theorem c_X2_lengthOf (sz : Nat) {h : AH} {p d : Nat} {tx : Nat → List Int} {mk : Nat → Nat} (hN : NoR h p d tx mk) {i : Int} (h0 : 1 ≤ i) (h1 : i ≤ d) : CC mX2_lengthOf 1 0 0 [.ref p, .int (zI i)] sz h (QR ((tx i.toNat).length : Int) h) := by
  refine CC.intro [some (.ref p), some (.int (zI i))] pfX2_lengthOf rfl rfl ?_
  have hN0 := hN
  obtain ⟨m, l, c, hP, hB, hH⟩ := hN
  have hL := hB.1
  refine x_iload_n dX2_lengthOf_0 rfl ?_
  refine p_S dX2_lengthOf_1 lX2_31 (c_X2_isNumber sz h (z := i) ⟨by omega, by omega⟩) rfl rfl rfl (by decide) ?_
  refine x_ifB_eq dX2_lengthOf_4 (fun qc4q => ?_) (fun qc4q => ?_)
  · exact absurd qc4q (by omega)
  · refine x_aload_n dX2_lengthOf_7 rfl ?_
    refine s_get dX2_lengthOf_8 fX2_15 hP rfl ?_
    refine x_iload_n dX2_lengthOf_11 rfl ?_
    refine s_iald dX2_lengthOf_12 hP rfl rfl ⟨by omega, by omega⟩ ?_
    refine x_goto dX2_lengthOf_13 ?_
    refine x_ireturn dX2_lengthOf_17 rfl ?_
    exact ⟨by rw [(hH i.toNat (by omega) (by omega)).2.1], rfl⟩
theorem c_X2_marksOf (sz : Nat) {h : AH} {p d : Nat} {tx : Nat → List Int} {mk : Nat → Nat} (hN : NoR h p d tx mk) {i : Int} (h0 : 1 ≤ i) (h1 : i ≤ d) : CC mX2_marksOf 1 0 0 [.ref p, .int (zI i)] sz h (QR (mk i.toNat : Int) h) := by
  refine CC.intro [some (.ref p), some (.int (zI i))] pfX2_marksOf rfl rfl ?_
  have hN0 := hN
  obtain ⟨m, l, c, hP, hB, hH⟩ := hN
  have hL := hB.1
  refine x_iload_n dX2_marksOf_0 rfl ?_
  refine p_S dX2_marksOf_1 lX2_31 (c_X2_isNumber sz h (z := i) ⟨by omega, by omega⟩) rfl rfl rfl (by decide) ?_
  refine x_ifB_eq dX2_marksOf_4 (fun qc4q => ?_) (fun qc4q => ?_)
  · exact absurd qc4q (by omega)
  · refine x_aload_n dX2_marksOf_7 rfl ?_
    refine s_get dX2_marksOf_8 fX2_9 hP rfl ?_
    refine x_iload_n dX2_marksOf_11 rfl ?_
    refine s_iald dX2_marksOf_12 hP rfl rfl ⟨by omega, by omega⟩ ?_
    refine x_goto dX2_marksOf_13 ?_
    refine x_ireturn dX2_marksOf_17 rfl ?_
    exact ⟨by rw [(hH i.toNat (by omega) (by omega)).1], rfl⟩
theorem c_X2_codeAt (sz : Nat) {h : AH} {p d : Nat} {tx : Nat → List Int} {mk : Nat → Nat} (hN : NoR h p d tx mk) {i j : Int} (h0 : 1 ≤ i) (h1 : i ≤ d) (h2 : 0 ≤ j) (h3 : j < (tx i.toNat).length) : CC mX2_codeAt 1 0 0 [.ref p, .int (zI i), .int (zI j)] sz h (QR ((tx i.toNat).getD j.toNat 0) h) := by
  refine CC.intro [some (.ref p), some (.int (zI i)), some (.int (zI j)), none] pfX2_codeAt rfl rfl ?_
  have hN0 := hN
  obtain ⟨m, l, c, hP, hB, hH⟩ := hN
  have hL := hB.1
  have h8 := (hB.2 i.toNat (by omega) (by omega)).1
  refine x_iload_n dX2_codeAt_0 rfl ?_
  refine p_S dX2_codeAt_1 lX2_31 (c_X2_isNumber sz h (z := i) ⟨by omega, by omega⟩) rfl rfl rfl (by decide) ?_
  refine x_ifB_eq dX2_codeAt_4 (fun qc4q => ?_) (fun qc4q => ?_)
  · exact absurd qc4q (by omega)
  · refine x_iload_n dX2_codeAt_7 rfl ?_
    refine x_if_lt dX2_codeAt_8 ⟨by omega, by omega⟩ (fun qc8q => ?_) (fun qc8q => ?_)
    · exact absurd qc8q (by omega)
    · refine x_iload_n dX2_codeAt_11 rfl ?_
      refine x_bipush dX2_codeAt_12 (by decide) ?_
      refine x_icmp_ge dX2_codeAt_14 ⟨by omega, by omega⟩ ⟨by omega, by omega⟩ (fun qc14q => ?_) (fun qc14q => ?_)
      · exact absurd qc14q (by omega)
      · refine x_iconst dX2_codeAt_17 ?_
        refine x_goto dX2_codeAt_18 ?_
        refine x_istore_n dX2_codeAt_22 rfl rfl rfl ?_
        refine x_iload_n dX2_codeAt_23 rfl ?_
        refine x_if_eq dX2_codeAt_24 ⟨by omega, by omega⟩ (fun qc24q => ?_) (fun qc24q => ?_)
        · exact absurd qc24q (by omega)
        · refine x_aload_n dX2_codeAt_27 rfl ?_
          refine s_get dX2_codeAt_28 fX2_18 hP rfl ?_
          refine x_iload_n dX2_codeAt_31 rfl ?_
          refine x_bipush dX2_codeAt_32 (by decide) ?_
          refine x_imul dX2_codeAt_34 ?_
          refine x_iload_n dX2_codeAt_35 rfl ?_
          refine x_iadd dX2_codeAt_36 ?_
          refine s_iald dX2_codeAt_37 hP rfl rfl ⟨by omega, by omega⟩ ?_
          refine x_goto dX2_codeAt_38 ?_
          refine x_ireturn dX2_codeAt_42 rfl ?_
          exact ⟨by rw [show (i * 8 + j).toNat = i.toNat * 8 + j.toNat by omega, (hH i.toNat (by omega) (by omega)).2.2 j.toNat (by omega)], rfl⟩
theorem NoB.up {d : Nat} {tx : Nat → List Int} {mk : Nat → Nat} (h : NoB d tx mk) {k : Nat} {t : List Int} (ht : t.length ≤ 8 ∧ ∀ c ∈ t, 0 ≤ c ∧ c < 65536) : NoB d (fU tx k t) mk := by
  refine ⟨h.1, fun i h1 h2 => ?_⟩
  obtain ⟨a, b, c⟩ := h.2 i h1 h2
  by_cases e : i = k
  · rw [e, fU_s]
    exact ⟨ht.1, ht.2, by rw [← e]; exact c⟩
  · rw [fU_n e]
    exact ⟨a, b, c⟩
theorem NoB.make {d : Nat} {tx : Nat → List Int} {mk : Nat → Nat} (h : NoB d tx mk) (hd : d < 40) : NoB (d + 1) (fU tx (d + 1) []) (fU mk (d + 1) 0) := by
  refine ⟨by omega, fun i h1 h2 => ?_⟩
  by_cases e : i = d + 1
  · rw [e, fU_s, fU_s]
    exact ⟨by simp, by simp, by omega⟩
  · rw [fU_n e, fU_n e]
    exact h.2 i h1 (by omega)
theorem NoH.make {d : Nat} {tx : Nat → List Int} {mk : Nat → Nat} {m l c : Nat → Int} (h : NoH d tx mk m l c) : NoH (d + 1) (fU tx (d + 1) []) (fU mk (d + 1) 0) (zU m (d + 1) 0) (zU l (d + 1) 0) c := by
  intro i h1 h2
  by_cases e : i = d + 1
  · rw [e, fU_s, fU_s, zU_s, zU_s]
    exact ⟨rfl, rfl, fun j hj => by simp at hj⟩
  · rw [fU_n e, fU_n e, zU_n e, zU_n e]
    exact h i h1 (by omega)

theorem c_X2_makeNode (sz : Nat) {h : AH} {p d : Nat} {tx : Nat → List Int} {mk : Nat → Nat} (hN : NoR h p d tx mk) (hd : d < 40) : CC mX2_makeNode 0 0 0 [.ref p] sz h (QI (fun z h' => z = d + 1 ∧ NoR h' p (d + 1) (fU tx (d + 1) []) (fU mk (d + 1) 0) ∧ Fr h h' p (p + 4))) := by
  refine CC.intro [some (.ref p)] pfX2_makeNode rfl rfl ?_
  have hN0 := hN
  obtain ⟨m, l, c, hP, hB, hH⟩ := hN
  have hL := hB.1
  refine x_aload_n dX2_makeNode_0 rfl ?_
  refine s_get dX2_makeNode_1 fX2_21 hP rfl ?_
  refine x_if_lt dX2_makeNode_4 ⟨by omega, by omega⟩ (fun qc4q => ?_) (fun qc4q => ?_)
  · exact absurd qc4q (by omega)
  · refine x_aload_n dX2_makeNode_7 rfl ?_
    refine s_get dX2_makeNode_8 fX2_21 hP rfl ?_
    refine x_bipush dX2_makeNode_11 (by decide) ?_
    refine x_icmp_lt dX2_makeNode_13 ⟨by omega, by omega⟩ ⟨by omega, by omega⟩ (fun qc13q => ?_) (fun qc13q => ?_)
    · refine x_aload_n dX2_makeNode_18 rfl ?_
      refine x_dup dX2_makeNode_19 rfl ?_
      refine s_get dX2_makeNode_20 fX2_21 hP rfl ?_
      refine x_iconst dX2_makeNode_23 ?_
      refine x_iadd dX2_makeNode_24 ?_
      refine s_puti dX2_makeNode_25 fX2_21 hP rfl (fun h hP hF => ?_)
      refine x_aload_n dX2_makeNode_28 rfl ?_
      refine s_get dX2_makeNode_29 fX2_9 hP rfl ?_
      refine x_aload_n dX2_makeNode_32 rfl ?_
      refine s_get dX2_makeNode_33 fX2_21 hP rfl ?_
      refine x_iconst dX2_makeNode_36 ?_
      refine s_iast dX2_makeNode_37 hP rfl rfl ⟨by omega, by omega⟩ (fun h hP hF => ?_)
      refine x_aload_n dX2_makeNode_38 rfl ?_
      refine s_get dX2_makeNode_39 fX2_15 hP rfl ?_
      refine x_aload_n dX2_makeNode_42 rfl ?_
      refine s_get dX2_makeNode_43 fX2_21 hP rfl ?_
      refine x_iconst dX2_makeNode_46 ?_
      refine s_iast dX2_makeNode_47 hP rfl rfl ⟨by omega, by omega⟩ (fun h hP hF => ?_)
      refine x_aload_n dX2_makeNode_48 rfl ?_
      refine s_get dX2_makeNode_49 fX2_21 hP rfl ?_
      refine x_ireturn dX2_makeNode_52 rfl ?_
      exact ⟨_, rfl, rfl, ⟨_, _, _, hP.st, hB.make hd, hH.make⟩, hP.fr⟩
    · exact absurd hd (by omega)
theorem c_X2_setLetter (sz : Nat) {h : AH} {p d : Nat} {tx : Nat → List Int} {mk : Nat → Nat} (hN : NoR h p d tx mk) {i x : Int} (h0 : 1 ≤ i) (h1 : i ≤ d) (hx : 0 ≤ x ∧ x < 65536) : CC mX2_setLetter 1 0 0 [.ref p, .int (zI i), .int (zI x)] sz h (QV (fun h' => NoR h' p d (fU tx i.toNat [x]) mk ∧ Fr h h' p (p + 4))) := by
  refine CC.intro [some (.ref p), some (.int (zI i)), some (.int (zI x))] pfX2_setLetter rfl rfl ?_
  have hN0 := hN
  obtain ⟨m, l, c, hP, hB, hH⟩ := hN
  have hL := hB.1
  refine x_iload_n dX2_setLetter_0 rfl ?_
  refine p_S dX2_setLetter_1 lX2_31 (c_X2_isNumber sz h (z := i) ⟨by omega, by omega⟩) rfl rfl rfl (by decide) ?_
  refine x_ifB_eq dX2_setLetter_4 (fun qc4q => ?_) (fun qc4q => ?_)
  · exact absurd qc4q (by omega)
  · refine x_aload_n dX2_setLetter_7 rfl ?_
    refine s_get dX2_setLetter_8 fX2_18 hP rfl ?_
    refine x_iload_n dX2_setLetter_11 rfl ?_
    refine x_bipush dX2_setLetter_12 (by decide) ?_
    refine x_imul dX2_setLetter_14 ?_
    refine x_iload_n dX2_setLetter_15 rfl ?_
    refine s_iast dX2_setLetter_16 hP rfl rfl ⟨by omega, by omega⟩ (fun h hP hF => ?_)
    refine x_aload_n dX2_setLetter_17 rfl ?_
    refine s_get dX2_setLetter_18 fX2_15 hP rfl ?_
    refine x_iload_n dX2_setLetter_21 rfl ?_
    refine x_iconst dX2_setLetter_22 ?_
    refine s_iast dX2_setLetter_23 hP rfl rfl ⟨by omega, by omega⟩ (fun h hP hF => ?_)
    refine x_vreturn dX2_setLetter_24 rfl ?_
    refine ⟨rfl, ⟨_, _, _, hP.st, hB.up ⟨by simp, by simpa using hx⟩, ?_⟩, hP.fr⟩
    intro k h2 h3
    obtain ⟨a, b, e⟩ := hH k h2 h3
    have qe8q := (hB.2 k h2 h3).1
    by_cases q : k = i.toNat
    · subst q
      rw [fU_s, zU_s]
      refine ⟨a, rfl, fun j hj => ?_⟩
      have hj0 : j = 0 := by simpa using hj
      subst hj0
      rw [show (i * 8).toNat = i.toNat * 8 + 0 by omega, zU_s]
      rfl
    · rw [fU_n q, zU_n q]
      refine ⟨a, b, fun j hj => ?_⟩
      rw [zU_n (by omega)]
      exact e j hj
theorem NoH_text {d : Nat} {tx : Nat → List Int} {mk : Nat → Nat} {m l c : Nat → Int} (h : NoH d tx mk m l c) (hB : NoB d tx mk) {k : Nat} {t : List Int} (ht : t.length ≤ 8) {c' : Nat → Int} (h1 : ∀ j, j < t.length → c' (k * 8 + j) = t.getD j 0) (h2 : ∀ q, ¬ (k * 8 ≤ q ∧ q < k * 8 + 8) → c' q = c q) : NoH d (fU tx k t) mk m (zU l k t.length) c' := by
  intro i h3 h4
  obtain ⟨a, b, e⟩ := h i h3 h4
  have qe8q := (hB.2 i h3 h4).1
  by_cases q : i = k
  · subst q
    rw [fU_s, zU_s]
    exact ⟨a, rfl, h1⟩
  · rw [fU_n q, zU_n q]
    refine ⟨a, b, fun j hj => ?_⟩
    rw [h2 _ (by omega)]
    exact e j hj
theorem c_X2_setText (sz : Nat) {h : AH} {p d : Nat} {tx : Nat → List Int} {mk : Nat → Nat} (hN : NoR h p d tx mk) {q : Nat} {t : List Int} (hT : TyR h q t) (hd : p + 4 ≤ q ∨ q + 2 ≤ p) {i : Int} (h0 : 1 ≤ i) (h1 : i ≤ d) (ht : 1 ≤ t.length ∧ t.length ≤ 8) : CC mX2_setText 1 0 0 [.ref p, .int (zI i), .ref q] sz h (QV (fun h' => NoR h' p d (fU tx i.toNat t) mk ∧ Fr h h' p (p + 4))) := by
  refine CC.intro [some (.ref p), some (.int (zI i)), some (.ref q), none] pfX2_setText rfl rfl ?_
  have hN0 := hN
  obtain ⟨m, l, c, hP, hB, hH⟩ := hN
  have hL := hB.1
  have hT0 := hT
  obtain ⟨cT, hQ, hBt, hHt⟩ := hT
  refine x_iload_n dX2_setText_0 rfl ?_
  refine p_S dX2_setText_1 lX2_31 (c_X2_isNumber sz h (z := i) ⟨by omega, by omega⟩) rfl rfl rfl (by decide) ?_
  refine x_ifB_eq dX2_setText_4 (fun qc4q => ?_) (fun qc4q => ?_)
  · exact absurd qc4q (by omega)
  · refine x_aload_n dX2_setText_7 rfl ?_
    refine p_V dX2_setText_8 lX2_35 (c_X7_fitsNode sz hT0) hQ.1 rfl rfl rfl rfl (by decide) ?_
    refine x_ifB_ne dX2_setText_11 (fun qc11q => ?_) (fun qc11q => ?_)
    · refine x_iconst dX2_setText_15 ?_
      refine x_istore_n dX2_setText_16 rfl rfl rfl ?_
      refine x_loop (fun s : AH × Int => s.1) (fun s => [some (.ref p), some (.int (zI i)), some (.ref q), some (.int (zI s.2))]) (fun s => 0 ≤ s.2 ∧ s.2 ≤ t.length ∧ TyR s.1 q t ∧ ∃ c', SO h s.1 p 4 2 (noF p d) (noA m l c') ∧ (∀ j : Nat, (j : Int) < s.2 → c' (i.toNat * 8 + j) = t.getD j 0) ∧ ∀ k, ¬ (i.toNat * 8 ≤ k ∧ k < i.toNat * 8 + 8) → c' k = c k) (fun s => (t.length - s.2).toNat) (h, 0) rfl rfl ⟨by dsimp only; omega, by dsimp only; omega, hT0, c, hP, fun j hj => by dsimp only at hj; omega, fun k _ => rfl⟩ ?_
      rintro ⟨h2, j⟩ ⟨hi0, hi1, hT1, c', hP, hc1, hc2⟩ ihq
      try dsimp only at *
      have hT2 := hT1
      obtain ⟨cT, hQ, hBt, hHt⟩ := hT1
      refine x_iload_n dX2_setText_17 rfl ?_
      refine x_aload_n dX2_setText_18 rfl ?_
      refine s_get dX2_setText_19 fX2_41 hQ rfl ?_
      refine x_icmp_ge dX2_setText_22 ⟨by omega, by omega⟩ ⟨by omega, by omega⟩ (fun qc22q => ?_) (fun qc22q => ?_)
      · refine x_aload_n dX2_setText_53 rfl ?_
        refine s_get dX2_setText_54 fX2_15 hP rfl ?_
        refine x_iload_n dX2_setText_57 rfl ?_
        refine x_aload_n dX2_setText_58 rfl ?_
        refine s_get dX2_setText_59 fX2_41 hQ rfl ?_
        refine s_iast dX2_setText_62 hP rfl rfl ⟨by omega, by omega⟩ (fun h hP hF => ?_)
        refine x_vreturn dX2_setText_63 rfl ?_
        exact ⟨rfl, ⟨_, _, _, hP.st, hB.up ⟨ht.2, hBt.2⟩, NoH_text hH hB ht.2 (fun k hk => hc1 k (by omega)) hc2⟩, hP.fr⟩
      · refine x_iload_n dX2_setText_25 rfl ?_
        refine x_bipush dX2_setText_26 (by decide) ?_
        refine x_icmp_ge dX2_setText_28 ⟨by omega, by omega⟩ ⟨by omega, by omega⟩ (fun qc28q => ?_) (fun qc28q => ?_)
        · exact absurd qc28q (by omega)
        · refine x_aload_n dX2_setText_31 rfl ?_
          refine s_get dX2_setText_32 fX2_18 hP rfl ?_
          refine x_iload_n dX2_setText_35 rfl ?_
          refine x_bipush dX2_setText_36 (by decide) ?_
          refine x_imul dX2_setText_38 ?_
          refine x_iload_n dX2_setText_39 rfl ?_
          refine x_iadd dX2_setText_40 ?_
          refine x_aload_n dX2_setText_41 rfl ?_
          refine x_iload_n dX2_setText_42 rfl ?_
          refine p_V dX2_setText_43 lX2_44 (c_X7_codeAt sz hT2 (i := j) hi0 (by omega)) hQ.1 rfl rfl rfl rfl (by decide) ?_
          refine s_iast dX2_setText_46 hP rfl rfl ⟨by omega, by omega⟩ (fun h hP hF => ?_)
          refine x_iinc dX2_setText_47 rfl rfl rfl ?_
          refine x_goto dX2_setText_50 ?_
          refine ihq (_, j + 1) ⟨by dsimp only; omega, by dsimp only; omega, ⟨cT, hQ.mv hF (by omega), hBt, hHt⟩, _, hP, fun k hk => ?_, fun k hk => ?_⟩ (by dsimp only; omega)
          · dsimp only at hk
            by_cases e : (k : Int) = j
            · rw [show (i * 8 + j).toNat = i.toNat * 8 + k by omega, zU_s, show j.toNat = k by omega]
            · rw [zU_n (by omega)]
              exact hc1 k (by omega)
          · rw [zU_n (by omega)]
            exact hc2 k hk
    · exact absurd ht qc11q
theorem c_X2_hasText (sz : Nat) {h : AH} {p d : Nat} {tx : Nat → List Int} {mk : Nat → Nat} (hN : NoR h p d tx mk) {q : Nat} {t : List Int} (hT : TyR h q t) {i : Int} (h0 : 1 ≤ i) (h1 : i ≤ d) : CC mX2_hasText 2 0 0 [.ref p, .int (zI i), .ref q] sz h (QB (tx i.toNat = t) h) := by
  refine CC.intro [some (.ref p), some (.int (zI i)), some (.ref q), none] pfX2_hasText rfl rfl ?_
  have hN0 := hN
  obtain ⟨m, l, c, hP, hB, hH⟩ := hN
  have hL := hB.1
  have hT0 := hT
  obtain ⟨cT, hQ, hBt, hHt⟩ := hT
  have hLt := hBt.1
  have h8 := hB.2 i.toNat (by omega) (by omega)
  have hBx : TyB (tx i.toNat) := ⟨by omega, h8.2.1⟩
  refine x_aload_n dX2_hasText_0 rfl ?_
  refine x_iload_n dX2_hasText_1 rfl ?_
  refine p_V dX2_hasText_2 lX2_48 (c_X2_lengthOf sz hN0 (i := i) h0 h1) hP.1 rfl rfl rfl rfl (by decide) ?_
  refine x_aload_n dX2_hasText_5 rfl ?_
  refine s_get dX2_hasText_6 fX2_41 hQ rfl ?_
  refine x_icmp_eq dX2_hasText_9 ⟨by omega, by omega⟩ ⟨by omega, by omega⟩ (fun qc9q => ?_) (fun qc9q => ?_)
  · refine x_iconst dX2_hasText_14 ?_
    refine x_istore_n dX2_hasText_15 rfl rfl rfl ?_
    refine x_loop (fun _ => h) (fun j : Int => [some (.ref p), some (.int (zI i)), some (.ref q), some (.int (zI j))]) (fun j => 0 ≤ j ∧ j ≤ t.length ∧ ∀ k : Nat, (k : Int) < j → (tx i.toNat).getD k 0 = t.getD k 0) (fun j => (t.length - j).toNat) 0 rfl rfl ⟨by omega, by omega, fun k hk => by omega⟩ ?_
    rintro j ⟨hi0, hi1, hI⟩ ihq
    try dsimp only at *
    have hb1 := hBx.at j.toNat
    have hb2 := hBt.at j.toNat
    refine x_iload_n dX2_hasText_16 rfl ?_
    refine x_aload_n dX2_hasText_17 rfl ?_
    refine s_get dX2_hasText_18 fX2_41 hQ rfl ?_
    refine x_icmp_ge dX2_hasText_21 ⟨by omega, by omega⟩ ⟨by omega, by omega⟩ (fun qc21q => ?_) (fun qc21q => ?_)
    · refine x_iconst dX2_hasText_46 ?_
      refine x_zreturn dX2_hasText_47 rfl (by omega) ?_
      refine ⟨?_, rfl⟩
      rw [if_pos]
      apply List.ext_getElem (by omega)
      intro k hk1 hk2
      have := hI k (by omega)
      rw [List.getD_eq_getElem?_getD, List.getD_eq_getElem?_getD, List.getElem?_eq_getElem hk1, List.getElem?_eq_getElem hk2] at this
      exact this
    · refine x_aload_n dX2_hasText_24 rfl ?_
      refine x_iload_n dX2_hasText_25 rfl ?_
      refine x_iload_n dX2_hasText_26 rfl ?_
      refine p_V dX2_hasText_27 lX2_51 (c_X2_codeAt sz hN0 (i := i) (j := j) h0 h1 hi0 (by omega)) hP.1 rfl rfl rfl rfl (by decide) ?_
      refine x_aload_n dX2_hasText_30 rfl ?_
      refine x_iload_n dX2_hasText_31 rfl ?_
      refine p_V dX2_hasText_32 lX2_44 (c_X7_codeAt sz hT0 (i := j) hi0 (by omega)) hQ.1 rfl rfl rfl rfl (by decide) ?_
      refine x_icmp_eq dX2_hasText_35 ⟨by omega, by omega⟩ ⟨by omega, by omega⟩ (fun qc35q => ?_) (fun qc35q => ?_)
      · refine x_iinc dX2_hasText_40 rfl rfl rfl ?_
        refine x_goto dX2_hasText_43 ?_
        refine ihq (j + 1) ⟨by omega, by omega, fun k hk => ?_⟩ (by omega)
        by_cases e : (k : Int) = j
        · rw [show k = j.toNat by omega]; exact qc35q
        · exact hI k (by omega)
      · refine x_iconst dX2_hasText_38 ?_
        refine x_zreturn dX2_hasText_39 rfl (by omega) ?_
        exact ⟨by rw [if_neg (fun e => qc35q (by rw [e]))], rfl⟩
  · refine x_iconst dX2_hasText_12 ?_
    refine x_zreturn dX2_hasText_13 rfl (by omega) ?_
    exact ⟨by rw [if_neg (fun e => qc9q (by rw [e]))], rfl⟩
theorem c_X2_toggleMark (sz : Nat) {h : AH} {p d : Nat} {tx : Nat → List Int} {mk : Nat → Nat} (hN : NoR h p d tx mk) {i k : Int} (h0 : 1 ≤ i) (h1 : i ≤ d) (hk : 0 ≤ k ∧ k < 5) : CC mX2_toggleMark 1 0 0 [.ref p, .int (zI i), .int (zI k)] sz h (QV (fun h' => NoR h' p d tx (fU mk i.toNat (mk i.toNat ^^^ 2 ^ k.toNat)) ∧ Fr h h' p (p + 4))) := by
  refine CC.intro [some (.ref p), some (.int (zI i)), some (.int (zI k))] pfX2_toggleMark rfl rfl ?_
  have hN0 := hN
  obtain ⟨m, l, c, hP, hB, hH⟩ := hN
  have hL := hB.1
  have h8 := hB.2 i.toNat (by omega) (by omega)
  have hm := (hH i.toNat (by omega) (by omega)).1
  have hx := xor5 (mk i.toNat) k.toNat h8.2.2 (by omega)
  refine x_iload_n dX2_toggleMark_0 rfl ?_
  refine p_S dX2_toggleMark_1 lX2_31 (c_X2_isNumber sz h (z := i) ⟨by omega, by omega⟩) rfl rfl rfl (by decide) ?_
  refine x_ifB_eq dX2_toggleMark_4 (fun qc4q => ?_) (fun qc4q => ?_)
  · exact absurd qc4q (by omega)
  · refine x_iload_n dX2_toggleMark_7 rfl ?_
    refine p_Sn dX2_toggleMark_8 lX2_54 (c_X8_isMark sz h (z := k) ⟨by omega, by omega⟩) rfl rfl rfl (by decide) ?_
    refine x_ifB_eq dX2_toggleMark_11 (fun qc11q => ?_) (fun qc11q => ?_)
    · exact absurd hk qc11q
    · refine x_aload_n dX2_toggleMark_14 rfl ?_
      refine s_get dX2_toggleMark_15 fX2_9 hP rfl ?_
      refine x_iload_n dX2_toggleMark_18 rfl ?_
      refine x_dup2 dX2_toggleMark_19 rfl rfl ?_
      refine s_iald dX2_toggleMark_20 hP rfl rfl ⟨by omega, by omega⟩ ?_
      refine x_iconst dX2_toggleMark_21 ?_
      refine x_iload_n dX2_toggleMark_22 rfl ?_
      refine x_ishl dX2_toggleMark_23 (shl5 hk.1 hk.2) ?_
      refine x_ixor dX2_toggleMark_24 (z := ((mk i.toNat ^^^ 2 ^ k.toNat : Nat) : Int)) (by rw [hm]; exact hx.1) ?_
      refine s_iast dX2_toggleMark_25 hP rfl rfl ⟨by omega, by omega⟩ (fun h hP hF => ?_)
      refine x_vreturn dX2_toggleMark_26 rfl ?_
      refine ⟨rfl, ⟨_, _, _, hP.st, ⟨hB.1, fun j h2 h3 => ?_⟩, fun j h2 h3 => ?_⟩, hP.fr⟩
      · obtain ⟨a, b, e⟩ := hB.2 j h2 h3
        by_cases q : j = i.toNat
        · rw [q, fU_s]; rw [q] at a b; exact ⟨a, b, hx.2⟩
        · rw [fU_n q]; exact ⟨a, b, e⟩
      · obtain ⟨a, b, e⟩ := hH j h2 h3
        by_cases q : j = i.toNat
        · rw [q, fU_s, zU_s]; rw [q] at b e; exact ⟨rfl, b, e⟩
        · rw [fU_n q, zU_n q]; exact ⟨a, b, e⟩
theorem c_X2_copyFrom (sz : Nat) {h : AH} {p q d d0 : Nat} {tx tx0 : Nat → List Int} {mk mk0 : Nat → Nat} (hN0 : NoR h p d0 tx0 mk0) (hQ0 : NoR h q d tx mk) (hd : p + 4 ≤ q ∨ q + 4 ≤ p) : CC mX2_copyFrom 1 0 0 [.ref p, .ref q] sz h (QV (fun h' => NoR h' p d tx mk ∧ Fr h h' p (p + 4))) := by
  refine CC.intro [some (.ref p), some (.ref q)] pfX2_copyFrom rfl rfl ?_
  obtain ⟨m0, l0, qc0q, hP, -, -⟩ := hN0
  obtain ⟨m, l, c, hQ, hB, hH⟩ := hQ0
  refine x_aload_n dX2_copyFrom_0 rfl ?_
  refine x_aload_n dX2_copyFrom_1 rfl ?_
  refine s_get dX2_copyFrom_2 fX2_21 hQ rfl ?_
  refine s_puti dX2_copyFrom_5 fX2_21 hP rfl (fun h hP hF => ?_)
  have hQ := hQ.mv hF (by omega)
  refine x_aload_n dX2_copyFrom_8 rfl ?_
  refine s_get dX2_copyFrom_9 fX2_9 hQ rfl ?_
  refine x_iconst dX2_copyFrom_12 ?_
  refine x_aload_n dX2_copyFrom_13 rfl ?_
  refine s_get dX2_copyFrom_14 fX2_9 hP rfl ?_
  refine x_iconst dX2_copyFrom_17 ?_
  refine x_bipush dX2_copyFrom_18 (by decide) ?_
  refine s_copy dX2_copyFrom_20 acX2 hP (j := 0) rfl (hQ.2.1 0 _ rfl) rfl ⟨by omega, by omega, by omega⟩ ⟨by decide, by decide⟩ (fun h hP hF => ?_)
  have hQ := hQ.mv hF (by omega)
  refine x_aload_n dX2_copyFrom_23 rfl ?_
  refine s_get dX2_copyFrom_24 fX2_15 hQ rfl ?_
  refine x_iconst dX2_copyFrom_27 ?_
  refine x_aload_n dX2_copyFrom_28 rfl ?_
  refine s_get dX2_copyFrom_29 fX2_15 hP rfl ?_
  refine x_iconst dX2_copyFrom_32 ?_
  refine x_bipush dX2_copyFrom_33 (by decide) ?_
  refine s_copy dX2_copyFrom_35 acX2 hP (j := 1) rfl (hQ.2.1 1 _ rfl) rfl ⟨by omega, by omega, by omega⟩ ⟨by decide, by decide⟩ (fun h hP hF => ?_)
  have hQ := hQ.mv hF (by omega)
  refine x_aload_n dX2_copyFrom_38 rfl ?_
  refine s_get dX2_copyFrom_39 fX2_18 hQ rfl ?_
  refine x_iconst dX2_copyFrom_42 ?_
  refine x_aload_n dX2_copyFrom_43 rfl ?_
  refine s_get dX2_copyFrom_44 fX2_18 hP rfl ?_
  refine x_iconst dX2_copyFrom_47 ?_
  refine x_sipush dX2_copyFrom_48 (by decide) ?_
  refine s_copy dX2_copyFrom_51 acX2 hP (j := 2) rfl (hQ.2.1 2 _ rfl) rfl ⟨by omega, by omega, by omega⟩ ⟨by decide, by decide⟩ (fun h hP hF => ?_)
  refine x_vreturn dX2_copyFrom_54 rfl ?_
  refine ⟨rfl, ⟨_, _, _, hP.st, hB, fun i h1 h2 => ?_⟩, hP.fr⟩
  have hb := hB.1
  have h8 := (hB.2 i h1 h2).1
  obtain ⟨a, b, e⟩ := hH i h1 h2
  rw [zC_in (by omega), zC_in (by omega)]
  exact ⟨a, b, fun j hj => by rw [zC_in (by omega)]; exact e j hj⟩
