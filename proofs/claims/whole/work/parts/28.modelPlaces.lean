/-- place j is around place k -/
def anc (pl : List PE) (j k : Nat) : Prop := j < k ∧ ∀ m, j < m → m ≤ k → pv pl j < pv pl m
def ancB (pl : List PE) (j k : Nat) : Prop := ∀ m, j < m → m < k → pv pl j < pv pl m
theorem gs_inv {pl : List PE} (hB : PlB pl) : ∀ k, k ≤ pl.length → (gs pl k = 40 ∧ ∀ j, j < k → pf pl j = 1 → ¬ ancB pl j k) ∨ (∃ j, j < k ∧ pf pl j = 1 ∧ gs pl k = pv pl j ∧ ancB pl j k ∧ ∀ i, i < k → pf pl i = 1 → ancB pl i k → pv pl j ≤ pv pl i)
  | 0, _ => Or.inl ⟨rfl, fun j hj => by omega⟩
  | k + 1, hk => by
    have hih := gs_inv hB k (by omega)
    have hdn : ∀ i, i < k → ancB pl i (k + 1) → ancB pl i k ∧ pv pl i < pv pl k := fun i hi q => ⟨fun m h1 h2 => q m h1 (by omega), q k hi (by omega)⟩
    have hb := hB.2 k (by omega)
    have hno : ¬ gs pl k < pv pl k → ∀ i, i < k → pf pl i = 1 → ¬ ancB pl i (k + 1) := fun hs i hi hf q => by
      have q1 := hdn i hi q
      rcases hih with ⟨h1, h2⟩ | ⟨j, h1, h2, h3, h4, h5⟩
      · exact h2 i hi hf q1.1
      · have := h5 i hi hf q1.1
        omega
    rw [gs]
    by_cases hs : gs pl k < pv pl k
    · rw [if_pos hs]
      rcases hih with ⟨h1, h2⟩ | ⟨j, h1, h2, h3, h4, h5⟩
      · omega
      · refine Or.inr ⟨j, by omega, h2, h3, fun m m1 m2 => ?_, fun i i1 i2 i3 => ?_⟩
        · by_cases q : m = k
          · rw [q]; omega
          · exact h4 m m1 (by omega)
        · by_cases q : i = k
          · rw [q]; omega
          · exact h5 i (by omega) i2 (hdn i (by omega) i3).1
    · rw [if_neg hs]
      by_cases hf : pf pl k = 1
      · rw [if_pos hf]
        refine Or.inr ⟨k, by omega, hf, rfl, fun m m1 m2 => by omega, fun i i1 i2 i3 => ?_⟩
        by_cases q : i = k
        · rw [q]; omega
        · exact absurd i3 (hno hs i (by omega) i2)
      · rw [if_neg hf]
        refine Or.inl ⟨rfl, fun i i1 i2 i3 => ?_⟩
        by_cases q : i = k
        · rw [q] at i2; exact hf i2
        · exact hno hs i (by omega) i2 i3
theorem sn_iff {pl : List PE} (hB : PlB pl) {k : Nat} (hk : k < pl.length) : sn pl k = true ↔ ∀ j, anc pl j k → pf pl j ≠ 1 := by
  have hih := gs_inv hB k (by omega)
  have hb := hB.2 k hk
  unfold sn
  rw [decide_eq_true_iff]
  constructor
  · rintro hs j ⟨hj, ha⟩ hf
    have hab : ancB pl j k := fun m m1 m2 => ha m m1 (by omega)
    have hjk := ha k hj (by omega)
    rcases hih with ⟨h1, h2⟩ | ⟨i, h1, h2, h3, h4, h5⟩
    · exact h2 j hj hf hab
    · have := h5 j hj hf hab
      omega
  · intro ha
    refine Nat.le_of_not_lt fun hs => ?_
    rcases hih with ⟨h1, h2⟩ | ⟨i, h1, h2, h3, h4, h5⟩
    · omega
    · refine ha i ⟨h1, fun m m1 m2 => ?_⟩ h2
      by_cases q : m = k
      · rw [q]; omega
      · exact h4 m m1 (by omega)
theorem plZ_miss {pl : List PE} {r : Int} (h : ∀ k, k < pl.length → rwQ pl r k = false) : plZ pl r = -2 := by
  have h1 := fZ_spec (rwQ pl r) pl.length (i := 0) (by omega) (by omega)
  unfold plZ
  split
  · rename_i q
    have h2 := h1.2.2.2 q
    rw [h _ (by omega)] at h2
    cases h2
  · rfl
/-- the row now, of the places -/
def RmP (r : Nat → Int) (pl : List PE) : Prop := r 1 = pl.length ∧ ∀ k, k < pl.length → r (2134 + 3 * k) = pn pl k ∧ r (2134 + 3 * k + 1) = pv pl k ∧ r (2134 + 3 * k + 2) = pf pl k
theorem RmP.at {r : Nat → Int} {pl : List PE} (h : RmP r pl) {z : Int} (h0 : 0 ≤ z) (h1 : z < pl.length) : r (2134 + 3 * z + 0).toNat = pn pl z.toNat ∧ r (2134 + 3 * z + 1).toNat = pv pl z.toNat ∧ r (2134 + 3 * z + 2).toNat = pf pl z.toNat := by
  have h2 := h.2 z.toNat (by omega)
  rw [show (2134 + 3 * z + 0).toNat = 2134 + 3 * z.toNat by omega, show (2134 + 3 * z + 1).toNat = 2134 + 3 * z.toNat + 1 by omega, show (2134 + 3 * z + 2).toNat = 2134 + 3 * z.toNat + 2 by omega]
  exact h2

theorem c_X9_isSeen (sz : Nat) {h : AH} {m : Nat} {w : Nat → Nat → Int} {u : Nat → Int} (hM : MoW h m w u) {pl : List PE} (hR : RmP (w 0) pl) (hB : PlB pl) {z : Int} (h0 : 0 ≤ z) (h1 : z < pl.length) : CC mX9_isSeen 1 0 0 [.ref m, .int (zI z)] sz h (QB (sn pl z.toNat = true) h) := by
  refine CC.intro [some (.ref m), some (.int (zI z)), none, none] pfX9_isSeen rfl rfl ?_
  have hM0 := hM
  unfold MoW at hM
  have hL := hB.1
  have hw1 : w 0 (Int.toNat 1) = (pl.length : Int) := hR.1
  have hz := hR.at h0 h1
  have hzB := hB.2 z.toNat (by omega)
  refine x_aload_n dX9_isSeen_0 rfl ?_
  refine x_iload_n dX9_isSeen_1 rfl ?_
  refine x_iconst dX9_isSeen_2 ?_
  refine p_V dX9_isSeen_3 lX9_77 (c_X9_at sz hM0 (x := z) (v := 1) (by omega)) hM.1 rfl rfl rfl rfl (by decide) ?_
  rw [hz.2.1]
  refine x_istore_n dX9_isSeen_6 rfl rfl rfl ?_
  refine x_iload_n dX9_isSeen_7 rfl ?_
  refine x_iconst dX9_isSeen_8 ?_
  refine x_isub dX9_isSeen_9 ?_
  refine x_istore_n dX9_isSeen_10 rfl rfl rfl ?_
  refine x_loop (fun _ => h) (fun s : Int × Int => [some (.ref m), some (.int (zI z)), some (.int (zI s.2)), some (.int (zI s.1))]) (fun s => -1 ≤ s.1 ∧ s.1 < z ∧ (1 ≤ s.2 ∧ s.2 ≤ 40) ∧ (∃ j : Nat, s.1 < j ∧ (j : Int) ≤ z ∧ (pv pl j : Int) = s.2) ∧ (∀ j : Nat, s.1 < j → (j : Int) ≤ z → s.2 ≤ pv pl j) ∧ ∀ j : Nat, s.1 < j → anc pl j z.toNat → pf pl j ≠ 1) (fun s => (s.1 + 1).toNat) (z - 1, pv pl z.toNat) rfl rfl ⟨by dsimp only; omega, by dsimp only; omega, by dsimp only; omega, ⟨z.toNat, by dsimp only; omega, by omega, rfl⟩, fun j j1 j2 => by dsimp only at j1 ⊢; rw [show j = z.toNat by omega]; omega, fun j j1 j2 => by have := j2.1; dsimp only at j1; omega⟩ ?_
  rintro ⟨k, lev⟩ ⟨hk0, hk1, hl, hex, hall, hanc⟩ ihq
  try dsimp only at *
  obtain ⟨j0, j1, j2, j3⟩ := hex
  have hpre : 0 ≤ k → w 0 (2134 + 3 * k + 1).toNat = pv pl k.toNat ∧ w 0 (2134 + 3 * k + 2).toNat = pf pl k.toNat ∧ 1 ≤ pv pl k.toNat ∧ pv pl k.toNat ≤ 40 ∧ pf pl k.toNat ≤ 1 := fun q => ⟨(hR.at q (by omega)).2.1, (hR.at q (by omega)).2.2, (hB.2 k.toNat (by omega)).2.2.1, (hB.2 k.toNat (by omega)).2.2.2.1, (hB.2 k.toNat (by omega)).2.2.2.2⟩
  refine x_iload_n dX9_isSeen_11 rfl ?_
  refine x_if_lt dX9_isSeen_12 ⟨by omega, by omega⟩ (fun qc12q => ?_) (fun qc12q => ?_)
  · refine x_iconst dX9_isSeen_55 ?_
    refine x_zreturn dX9_isSeen_56 rfl (by decide) ?_
    refine ⟨?_, rfl⟩
    rw [if_pos]
    refine (sn_iff hB (by omega)).mpr fun j q => ?_
    by_cases q1 : k < (j : Int)
    · exact hanc j q1 q
    · have q2 := q.2 j0 (by omega) (by omega)
      have q3 := hB.2 j (by have := q.1; omega)
      omega
  · obtain ⟨qe1q, qe2q, qe3q, qe4q, qe5q⟩ := hpre (by omega)
    refine x_iload_n dX9_isSeen_15 rfl ?_
    refine x_iconst dX9_isSeen_16 ?_
    refine x_icmp_le dX9_isSeen_17 ⟨by omega, by omega⟩ ⟨by omega, by omega⟩ (fun qc17q => ?_) (fun qc17q => ?_)
    · refine x_iconst dX9_isSeen_55 ?_
      refine x_zreturn dX9_isSeen_56 rfl (by decide) ?_
      refine ⟨?_, rfl⟩
      rw [if_pos]
      refine (sn_iff hB (by omega)).mpr fun j q => ?_
      by_cases q1 : k < (j : Int)
      · exact hanc j q1 q
      · have q2 := q.2 j0 (by omega) (by omega)
        have q3 := hB.2 j (by have := q.1; omega)
        omega
    · refine x_aload_n dX9_isSeen_20 rfl ?_
      refine x_iload_n dX9_isSeen_21 rfl ?_
      refine x_iconst dX9_isSeen_22 ?_
      refine p_V dX9_isSeen_23 lX9_77 (c_X9_at sz hM0 (x := k) (v := 1) (by omega)) hM.1 rfl rfl rfl rfl (by decide) ?_
      rw [qe1q]
      refine x_iload_n dX9_isSeen_26 rfl ?_
      refine x_icmp_ge dX9_isSeen_27 ⟨by omega, by omega⟩ ⟨by omega, by omega⟩ (fun qc27q => ?_) (fun qc27q => ?_)
      · refine x_iinc dX9_isSeen_49 rfl rfl rfl ?_
        refine x_goto dX9_isSeen_52 ?_
        first
          | (refine ihq (k + -1, lev) ⟨by dsimp only; omega, by dsimp only; omega, hl, ⟨j0, by dsimp only; omega, j2, j3⟩, fun j q1 q2 => ?_, fun j q1 q2 => ?_⟩ (by dsimp only; omega)
             · dsimp only at q1 ⊢
               by_cases q : (j : Int) = k
               · rw [show j = k.toNat by omega]
                 omega
               · exact hall j (by omega) q2
             · dsimp only at q1
               by_cases q : (j : Int) = k
               · have q3 := q2.2 j0 (by omega) (by omega)
                 rw [show j = k.toNat by omega] at q3
                 omega
               · exact hanc j (by omega) q2)
          | (refine ihq (k + -1, (pv pl k.toNat : Int)) ⟨by dsimp only; omega, by dsimp only; omega, ⟨by dsimp only; omega, by dsimp only; omega⟩, ⟨k.toNat, by dsimp only; omega, by omega, rfl⟩, fun j q1 q2 => ?_, fun j q1 q2 => ?_⟩ (by dsimp only; omega)
             · dsimp only at q1 ⊢
               by_cases q : (j : Int) = k
               · rw [show j = k.toNat by omega]
                 omega
               · have := hall j (by omega) q2
                 omega
             · dsimp only at q1
               by_cases q : (j : Int) = k
               · rw [show j = k.toNat by omega]
                 omega
               · exact hanc j (by omega) q2)
      · refine x_aload_n dX9_isSeen_30 rfl ?_
        refine x_iload_n dX9_isSeen_31 rfl ?_
        refine x_iconst dX9_isSeen_32 ?_
        refine p_V dX9_isSeen_33 lX9_77 (c_X9_at sz hM0 (x := k) (v := 2) (by omega)) hM.1 rfl rfl rfl rfl (by decide) ?_
        rw [qe2q]
        refine x_iconst dX9_isSeen_36 ?_
        refine x_icmp_ne dX9_isSeen_37 ⟨by omega, by omega⟩ ⟨by omega, by omega⟩ (fun qc37q => ?_) (fun qc37q => ?_)
        · refine x_aload_n dX9_isSeen_42 rfl ?_
          refine x_iload_n dX9_isSeen_43 rfl ?_
          refine x_iconst dX9_isSeen_44 ?_
          refine p_V dX9_isSeen_45 lX9_77 (c_X9_at sz hM0 (x := k) (v := 1) (by omega)) hM.1 rfl rfl rfl rfl (by decide) ?_
          rw [qe1q]
          refine x_istore_n dX9_isSeen_48 rfl rfl rfl ?_
          refine x_iinc dX9_isSeen_49 rfl rfl rfl ?_
          refine x_goto dX9_isSeen_52 ?_
          first
            | (refine ihq (k + -1, lev) ⟨by dsimp only; omega, by dsimp only; omega, hl, ⟨j0, by dsimp only; omega, j2, j3⟩, fun j q1 q2 => ?_, fun j q1 q2 => ?_⟩ (by dsimp only; omega)
               · dsimp only at q1 ⊢
                 by_cases q : (j : Int) = k
                 · rw [show j = k.toNat by omega]
                   omega
                 · exact hall j (by omega) q2
               · dsimp only at q1
                 by_cases q : (j : Int) = k
                 · have q3 := q2.2 j0 (by omega) (by omega)
                   rw [show j = k.toNat by omega] at q3
                   omega
                 · exact hanc j (by omega) q2)
            | (refine ihq (k + -1, (pv pl k.toNat : Int)) ⟨by dsimp only; omega, by dsimp only; omega, ⟨by dsimp only; omega, by dsimp only; omega⟩, ⟨k.toNat, by dsimp only; omega, by omega, rfl⟩, fun j q1 q2 => ?_, fun j q1 q2 => ?_⟩ (by dsimp only; omega)
               · dsimp only at q1 ⊢
                 by_cases q : (j : Int) = k
                 · rw [show j = k.toNat by omega]
                   omega
                 · have := hall j (by omega) q2
                   omega
               · dsimp only at q1
                 by_cases q : (j : Int) = k
                 · rw [show j = k.toNat by omega]
                   omega
                 · exact hanc j (by omega) q2)
        · refine x_iconst dX9_isSeen_40 ?_
          refine x_zreturn dX9_isSeen_41 rfl (by decide) ?_
          refine ⟨?_, rfl⟩
          rw [if_neg]
          intro q
          refine (sn_iff hB (by omega)).mp q k.toNat ⟨by omega, fun j q1 q2 => ?_⟩ (by omega)
          have := hall j (by omega) (by omega)
          omega
theorem c_X9_rows (sz : Nat) {h : AH} {m : Nat} {w : Nat → Nat → Int} {u : Nat → Int} (hM : MoW h m w u) {pl : List PE} (hR : RmP (w 0) pl) (hB : PlB pl) : CC mX9_rows 2 0 0 [.ref m] sz h (QR (cZ (sn pl) pl.length) h) := by
  refine CC.intro [some (.ref m), none, none] pfX9_rows rfl rfl ?_
  have hM0 := hM
  unfold MoW at hM
  have hL := hB.1
  have hw1 : w 0 (Int.toNat 1) = (pl.length : Int) := hR.1
  refine x_iconst dX9_rows_0 ?_
  refine x_istore_n dX9_rows_1 rfl rfl rfl ?_
  refine x_iconst dX9_rows_2 ?_
  refine x_istore_n dX9_rows_3 rfl rfl rfl ?_
  refine x_loop (fun _ => h) (fun s : Int × Int => [some (.ref m), some (.int (zI s.2)), some (.int (zI s.1))]) (fun s => 0 ≤ s.1 ∧ s.1 ≤ pl.length ∧ s.2 = cZ (sn pl) s.1) (fun s => (pl.length - s.1).toNat) (0, 0) rfl rfl ⟨by dsimp only; omega, by dsimp only; omega, rfl⟩ ?_
  rintro ⟨k, c⟩ ⟨hk0, hk1, hI⟩ ihq
  try dsimp only at *
  refine x_iload_n dX9_rows_4 rfl ?_
  refine x_aload_n dX9_rows_5 rfl ?_
  refine s_get dX9_rows_6 fX9_7 hM rfl ?_
  refine x_iconst dX9_rows_9 ?_
  refine s_iald dX9_rows_10 hM rfl rfl ⟨by omega, by omega⟩ ?_
  refine x_icmp_ge dX9_rows_11 ⟨by omega, by omega⟩ ⟨by rw [hw1]; omega, by rw [hw1]; omega⟩ (fun qc11q => ?_) (fun qc11q => ?_)
  · refine x_iload_n dX9_rows_36 rfl ?_
    refine x_ireturn dX9_rows_37 rfl ?_
    exact ⟨by rw [hI, show k = pl.length by omega], rfl⟩
  · refine x_iload_n dX9_rows_14 rfl ?_
    refine x_aload_n dX9_rows_15 rfl ?_
    refine x_iload_n dX9_rows_16 rfl ?_
    refine p_V dX9_rows_17 lX9_80 (c_X9_isSeen sz hM0 hR hB (z := k) hk0 (by omega)) hM.1 rfl rfl rfl rfl (by decide) ?_
    refine x_ifB_eq dX9_rows_20 (fun qc20q => ?_) (fun qc20q => ?_)
    · refine x_iconst dX9_rows_27 ?_
      refine x_iadd dX9_rows_28 ?_
      refine x_istore_n dX9_rows_29 rfl rfl rfl ?_
      refine x_iinc dX9_rows_30 rfl rfl rfl ?_
      refine x_goto dX9_rows_33 ?_
      first
        | (refine ihq (k + 1, c + 1) ⟨by dsimp only; omega, by dsimp only; omega, ?_⟩ (by dsimp only; omega)
           dsimp only
           rw [cZ_t hk0 (by assumption), hI]
           done)
        | (refine ihq (k + 1, c + 0) ⟨by dsimp only; omega, by dsimp only; omega, ?_⟩ (by dsimp only; omega)
           dsimp only
           rw [cZ_f hk0 (by apply Bool.eq_false_iff.mpr; assumption), hI, Int.add_zero])
    · refine x_iconst dX9_rows_23 ?_
      refine x_goto dX9_rows_24 ?_
      refine x_iadd dX9_rows_28 ?_
      refine x_istore_n dX9_rows_29 rfl rfl rfl ?_
      refine x_iinc dX9_rows_30 rfl rfl rfl ?_
      refine x_goto dX9_rows_33 ?_
      first
        | (refine ihq (k + 1, c + 1) ⟨by dsimp only; omega, by dsimp only; omega, ?_⟩ (by dsimp only; omega)
           dsimp only
           rw [cZ_t hk0 (by assumption), hI]
           done)
        | (refine ihq (k + 1, c + 0) ⟨by dsimp only; omega, by dsimp only; omega, ?_⟩ (by dsimp only; omega)
           dsimp only
           rw [cZ_f hk0 (by apply Bool.eq_false_iff.mpr; assumption), hI, Int.add_zero])
theorem c_X9_rowOf (sz : Nat) {h : AH} {m : Nat} {w : Nat → Nat → Int} {u : Nat → Int} (hM : MoW h m w u) {pl : List PE} (hR : RmP (w 0) pl) (hB : PlB pl) {z : Int} (h0 : 0 ≤ z) (h1 : z ≤ pl.length) : CC mX9_rowOf 2 0 0 [.ref m, .int (zI z)] sz h (QR (cZ (sn pl) z) h) := by
  refine CC.intro [some (.ref m), some (.int (zI z)), none, none] pfX9_rowOf rfl rfl ?_
  have hM0 := hM
  unfold MoW at hM
  have hL := hB.1
  have hw1 : w 0 (Int.toNat 1) = (pl.length : Int) := hR.1
  refine x_iconst dX9_rowOf_0 ?_
  refine x_istore_n dX9_rowOf_1 rfl rfl rfl ?_
  refine x_iconst dX9_rowOf_2 ?_
  refine x_istore_n dX9_rowOf_3 rfl rfl rfl ?_
  refine x_loop (fun _ => h) (fun s : Int × Int => [some (.ref m), some (.int (zI z)), some (.int (zI s.2)), some (.int (zI s.1))]) (fun s => 0 ≤ s.1 ∧ s.1 ≤ z ∧ s.2 = cZ (sn pl) s.1) (fun s => (z - s.1).toNat) (0, 0) rfl rfl ⟨by dsimp only; omega, by dsimp only; omega, rfl⟩ ?_
  rintro ⟨k, c⟩ ⟨hk0, hk1, hI⟩ ihq
  try dsimp only at *
  refine x_iload_n dX9_rowOf_4 rfl ?_
  refine x_iload_n dX9_rowOf_5 rfl ?_
  refine x_icmp_ge dX9_rowOf_6 ⟨by omega, by omega⟩ ⟨by omega, by omega⟩ (fun qc6q => ?_) (fun qc6q => ?_)
  · refine x_iload_n dX9_rowOf_31 rfl ?_
    refine x_ireturn dX9_rowOf_32 rfl ?_
    exact ⟨by rw [hI, show k = z by omega], rfl⟩
  · refine x_iload_n dX9_rowOf_9 rfl ?_
    refine x_aload_n dX9_rowOf_10 rfl ?_
    refine x_iload_n dX9_rowOf_11 rfl ?_
    refine p_V dX9_rowOf_12 lX9_80 (c_X9_isSeen sz hM0 hR hB (z := k) hk0 (by omega)) hM.1 rfl rfl rfl rfl (by decide) ?_
    refine x_ifB_eq dX9_rowOf_15 (fun qc15q => ?_) (fun qc15q => ?_)
    · refine x_iconst dX9_rowOf_22 ?_
      refine x_iadd dX9_rowOf_23 ?_
      refine x_istore_n dX9_rowOf_24 rfl rfl rfl ?_
      refine x_iinc dX9_rowOf_25 rfl rfl rfl ?_
      refine x_goto dX9_rowOf_28 ?_
      first
        | (refine ihq (k + 1, c + 1) ⟨by dsimp only; omega, by dsimp only; omega, ?_⟩ (by dsimp only; omega)
           dsimp only
           rw [cZ_t hk0 (by assumption), hI]
           done)
        | (refine ihq (k + 1, c + 0) ⟨by dsimp only; omega, by dsimp only; omega, ?_⟩ (by dsimp only; omega)
           dsimp only
           rw [cZ_f hk0 (by apply Bool.eq_false_iff.mpr; assumption), hI, Int.add_zero])
    · refine x_iconst dX9_rowOf_18 ?_
      refine x_goto dX9_rowOf_19 ?_
      refine x_iadd dX9_rowOf_23 ?_
      refine x_istore_n dX9_rowOf_24 rfl rfl rfl ?_
      refine x_iinc dX9_rowOf_25 rfl rfl rfl ?_
      refine x_goto dX9_rowOf_28 ?_
      first
        | (refine ihq (k + 1, c + 1) ⟨by dsimp only; omega, by dsimp only; omega, ?_⟩ (by dsimp only; omega)
           dsimp only
           rw [cZ_t hk0 (by assumption), hI]
           done)
        | (refine ihq (k + 1, c + 0) ⟨by dsimp only; omega, by dsimp only; omega, ?_⟩ (by dsimp only; omega)
           dsimp only
           rw [cZ_f hk0 (by apply Bool.eq_false_iff.mpr; assumption), hI, Int.add_zero])
def plM (pl : List PE) (r : Int) : Int := if plZ pl r = -2 then -6 else plZ pl r
theorem c_X9_placeOf (sz : Nat) {h : AH} {m : Nat} {w : Nat → Nat → Int} {u : Nat → Int} (hM : MoW h m w u) {pl : List PE} (hR : RmP (w 0) pl) (hB : PlB pl) {r : Int} (hr : inR r) : CC mX9_placeOf 2 0 0 [.ref m, .int (zI r)] sz h (QR (plM pl r) h) := by
  refine CC.intro [some (.ref m), some (.int (zI r)), none, none] pfX9_placeOf rfl rfl ?_
  have hM0 := hM
  unfold MoW at hM
  have hL := hB.1
  have hw1 : w 0 (Int.toNat 1) = (pl.length : Int) := hR.1
  refine x_iload_n dX9_placeOf_0 rfl ?_
  refine x_istore_n dX9_placeOf_1 rfl rfl rfl ?_
  refine x_iconst dX9_placeOf_2 ?_
  refine x_istore_n dX9_placeOf_3 rfl rfl rfl ?_
  refine x_loop (fun _ => h) (fun s : Int × Int => [some (.ref m), some (.int (zI r)), some (.int (zI s.2)), some (.int (zI s.1))]) (fun s => 0 ≤ s.1 ∧ s.1 ≤ pl.length ∧ s.2 = r - cZ (sn pl) s.1 ∧ ∀ k : Nat, (k : Int) < s.1 → rwQ pl r k = false) (fun s => (pl.length - s.1).toNat) (0, r) rfl rfl ⟨by dsimp only; omega, by dsimp only; omega, by dsimp only; rw [cZ_0]; omega, fun k hk => by dsimp only at hk; omega⟩ ?_
  rintro ⟨k, c⟩ ⟨hk0, hk1, hI, hJ⟩ ihq
  try dsimp only at *
  have hcr := cZ_r (sn pl) hk0
  have hqk : rwQ pl r k.toNat = (sn pl k.toNat && decide (cZ (sn pl) k = r)) := rfl
  refine x_iload_n dX9_placeOf_4 rfl ?_
  refine x_aload_n dX9_placeOf_5 rfl ?_
  refine s_get dX9_placeOf_6 fX9_7 hM rfl ?_
  refine x_iconst dX9_placeOf_9 ?_
  refine s_iald dX9_placeOf_10 hM rfl rfl ⟨by omega, by omega⟩ ?_
  refine x_icmp_ge dX9_placeOf_11 ⟨by omega, by omega⟩ ⟨by rw [hw1]; omega, by rw [hw1]; omega⟩ (fun qc11q => ?_) (fun qc11q => ?_)
  · refine x_bipush dX9_placeOf_41 (by decide) ?_
    refine x_ireturn dX9_placeOf_43 rfl ?_
    refine ⟨?_, rfl⟩
    have qe2q : plZ pl r = -2 := by
      by_cases q : r < 0
      · exact plZ_lo pl q
      · exact plZ_miss fun j hj => hJ j (by omega)
    unfold plM
    rw [if_pos qe2q]
  · refine x_iload_n dX9_placeOf_14 rfl ?_
    refine x_if_lt dX9_placeOf_15 ⟨by omega, by omega⟩ (fun qc15q => ?_) (fun qc15q => ?_)
    · refine x_bipush dX9_placeOf_41 (by decide) ?_
      refine x_ireturn dX9_placeOf_43 rfl ?_
      refine ⟨?_, rfl⟩
      have qe2q : plZ pl r = -2 := by
        by_cases q : r < 0
        · exact plZ_lo pl q
        · exact plZ_miss fun j hj => hJ j (by omega)
      unfold plM
      rw [if_pos qe2q]
    · refine x_aload_n dX9_placeOf_18 rfl ?_
      refine x_iload_n dX9_placeOf_19 rfl ?_
      refine p_V dX9_placeOf_20 lX9_80 (c_X9_isSeen sz hM0 hR hB (z := k) hk0 (by omega)) hM.1 rfl rfl rfl rfl (by decide) ?_
      refine x_ifB_eq dX9_placeOf_23 (fun qc23q => ?_) (fun qc23q => ?_)
      · refine x_iinc dX9_placeOf_35 rfl rfl rfl ?_
        refine x_goto dX9_placeOf_38 ?_
        first
          | (have qe1q : sn pl k.toNat = true := by assumption
             refine ihq (k + 1, c + -1) ⟨by dsimp only; omega, by dsimp only; omega, ?_, fun j hj => ?_⟩ (by dsimp only; omega)
             · dsimp only
               rw [cZ_t hk0 qe1q]
               omega
             · dsimp only at hj
               by_cases q : j = k.toNat
               · rw [q, hqk, qe1q, Bool.true_and, decide_eq_false_iff_not]
                 omega
               · exact hJ j (by omega))
          | (have qe1q : sn pl k.toNat = false := by apply Bool.eq_false_iff.mpr; assumption
             refine ihq (k + 1, c) ⟨by dsimp only; omega, by dsimp only; omega, ?_, fun j hj => ?_⟩ (by dsimp only; omega)
             · dsimp only
               rw [cZ_f hk0 qe1q]
               exact hI
             · dsimp only at hj
               by_cases q : j = k.toNat
               · rw [q, hqk, qe1q]
                 rfl
               · exact hJ j (by omega))
      · refine x_iload_n dX9_placeOf_26 rfl ?_
        refine x_if_ne dX9_placeOf_27 ⟨by omega, by omega⟩ (fun qc27q => ?_) (fun qc27q => ?_)
        · refine x_iinc dX9_placeOf_32 rfl rfl rfl ?_
          refine x_iinc dX9_placeOf_35 rfl rfl rfl ?_
          refine x_goto dX9_placeOf_38 ?_
          first
            | (have qe1q : sn pl k.toNat = true := by assumption
               refine ihq (k + 1, c + -1) ⟨by dsimp only; omega, by dsimp only; omega, ?_, fun j hj => ?_⟩ (by dsimp only; omega)
               · dsimp only
                 rw [cZ_t hk0 qe1q]
                 omega
               · dsimp only at hj
                 by_cases q : j = k.toNat
                 · rw [q, hqk, qe1q, Bool.true_and, decide_eq_false_iff_not]
                   omega
                 · exact hJ j (by omega))
            | (have qe1q : sn pl k.toNat = false := by apply Bool.eq_false_iff.mpr; assumption
               refine ihq (k + 1, c) ⟨by dsimp only; omega, by dsimp only; omega, ?_, fun j hj => ?_⟩ (by dsimp only; omega)
               · dsimp only
                 rw [cZ_f hk0 qe1q]
                 exact hI
               · dsimp only at hj
                 by_cases q : j = k.toNat
                 · rw [q, hqk, qe1q]
                   rfl
                 · exact hJ j (by omega))
        · refine x_iload_n dX9_placeOf_30 rfl ?_
          refine x_ireturn dX9_placeOf_31 rfl ?_
          refine ⟨?_, rfl⟩
          have qe2q : plZ pl r = k.toNat := plZ_hit (by omega) (by assumption) (by show cZ (sn pl) k = r; omega)
          unfold plM
          rw [qe2q, if_neg (by omega)]
          congr 3
          omega
