/-- a node is there: the root, or it has a place -/
abbrev alv (pl : List PE) (x : Nat) : Prop := x = 0 ∨ pFst pl (x : Int) ≠ -2
def RmI (r : Nat → Int) (d : Nat) (pl : List PE) : Prop := ∀ x, x ≤ d → r (2 + 52 * x) = if alv pl x then 1 else 0
theorem RmI.at {r : Nat → Int} {d : Nat} {pl : List PE} (h : RmI r d pl) {x : Int} (h0 : 0 ≤ x) (h1 : x ≤ d) : r (2 + 52 * x + 0).toNat = if alv pl x.toNat then 1 else 0 := by
  rw [show (2 + 52 * x + 0).toNat = 2 + 52 * x.toNat by omega]
  exact h x.toNat (by omega)
def paQ (pl : List PE) (K : Nat → List Nat) (y : Nat) : Nat → Bool := fun k => decide (alv pl k ∧ y ∈ K k)
def paN (pl : List PE) (K : Nat → List Nat) (d y : Nat) : Int := cZ (paQ pl K y) ((d : Int) + 1)
theorem paN_r (pl : List PE) (K : Nat → List Nat) (d y : Nat) : 0 ≤ paN pl K d y ∧ paN pl K d y ≤ (d : Int) + 1 := cZ_r _ (by omega)
def noQ (pl : List PE) (K : Nat → List Nat) (d : Nat) (b : Int) : Nat → Bool := fun k => decide (alv pl (k + 1) ∧ (b = 0 ∨ 1 < paN pl K d (k + 1)))

theorem c_X9_isNode (sz : Nat) {h : AH} {m : Nat} {w : Nat → Nat → Int} {u : Nat → Int} (hM : MoW h m w u) {d : Nat} {K : Nat → List Nat} {pl : List PE} (hd0 : w 0 0 = (d : Int)) (hI : RmI (w 0) d pl) (hK : RmK (w 0) d K) (hKB : KB d K) {y : Int} (hy : inR y) : CC mX9_isNode 1 0 0 [.ref m, .int (zI y)] sz h (QB ((1 ≤ y ∧ y ≤ d) ∧ pFst pl y ≠ -2) h) := by
  refine CC.intro [some (.ref m), some (.int (zI y))] pfX9_isNode rfl rfl ?_
  have hM0 := hM
  unfold MoW at hM
  have hd40 := hKB.1
  have hw0 : w 0 (Int.toNat 0) = (d : Int) := hd0
  refine x_iload_n dX9_isNode_0 rfl ?_
  refine x_iconst dX9_isNode_1 ?_
  refine x_aload_n dX9_isNode_2 rfl ?_
  refine s_get dX9_isNode_3 fX9_7 hM rfl ?_
  refine x_iconst dX9_isNode_6 ?_
  refine s_iald dX9_isNode_7 hM rfl rfl ⟨by omega, by omega⟩ ?_
  rw [hw0]
  refine p_S dX9_isNode_8 lX9_101 (c_X9_in sz h hy (b := 1) (c := (d : Int)) ⟨by omega, by omega⟩ ⟨by omega, by omega⟩) rfl rfl rfl (by decide) ?_
  refine x_ifB_eq dX9_isNode_11 (fun qc11q => ?_) (fun qc11q => ?_)
  · refine x_iconst dX9_isNode_28 ?_
    refine x_zreturn dX9_isNode_29 rfl (by decide) ?_
    refine ⟨?_, rfl⟩
    first
      | (rw [if_neg (fun q => by have := q.1; contradiction)]; done)
      | (rw [if_pos ⟨by assumption, by rcases hio with q | q; exact q.2; omega⟩]; done)
      | (rw [if_neg (fun q => by rcases hio with q1 | q1; omega; exact q1.2 q.2)]; done)
  · refine x_aload_n dX9_isNode_14 rfl ?_
    refine x_iload_n dX9_isNode_15 rfl ?_
    refine x_iconst dX9_isNode_16 ?_
    refine p_V dX9_isNode_17 lX9_64 (c_X9_of sz hM0 (x := y) (v := 0) (by omega)) hM.1 rfl rfl rfl rfl (by decide) ?_
    have hiy := hI.at (x := y) (by omega) (by omega)
    have hal : alv pl y.toNat ↔ pFst pl y ≠ -2 := by
      unfold alv
      rw [show ((y.toNat : Nat) : Int) = y by omega]
      exact ⟨fun q => q.elim (fun q => by omega) id, Or.inr⟩
    have hio : w 0 (2 + 52 * y + 0).toNat = 1 ∧ pFst pl y ≠ -2 ∨ w 0 (2 + 52 * y + 0).toNat = 0 ∧ ¬ pFst pl y ≠ -2 := by
      by_cases q : alv pl y.toNat
      · rw [if_pos q] at hiy
        exact Or.inl ⟨hiy, hal.mp q⟩
      · rw [if_neg q] at hiy
        exact Or.inr ⟨hiy, fun q1 => q (hal.mpr q1)⟩
    refine x_iconst dX9_isNode_20 ?_
    refine x_icmp_ne dX9_isNode_21 ⟨by omega, by omega⟩ ⟨by omega, by omega⟩ (fun qc21q => ?_) (fun qc21q => ?_)
    · refine x_iconst dX9_isNode_28 ?_
      refine x_zreturn dX9_isNode_29 rfl (by decide) ?_
      refine ⟨?_, rfl⟩
      first
        | (rw [if_neg (fun q => by have := q.1; contradiction)]; done)
        | (rw [if_pos ⟨by assumption, by rcases hio with q | q; exact q.2; omega⟩]; done)
        | (rw [if_neg (fun q => by rcases hio with q1 | q1; omega; exact q1.2 q.2)]; done)
    · refine x_iconst dX9_isNode_24 ?_
      refine x_goto dX9_isNode_25 ?_
      refine x_zreturn dX9_isNode_29 rfl (by decide) ?_
      refine ⟨?_, rfl⟩
      first
        | (rw [if_neg (fun q => by have := q.1; contradiction)]; done)
        | (rw [if_pos ⟨by assumption, by rcases hio with q | q; exact q.2; omega⟩]; done)
        | (rw [if_neg (fun q => by rcases hio with q1 | q1; omega; exact q1.2 q.2)]; done)
theorem c_X9_parents (sz : Nat) {h : AH} {m : Nat} {w : Nat → Nat → Int} {u : Nat → Int} (hM : MoW h m w u) {d : Nat} {K : Nat → List Nat} {pl : List PE} (hd0 : w 0 0 = (d : Int)) (hI : RmI (w 0) d pl) (hK : RmK (w 0) d K) (hKB : KB d K) {y : Nat} (hy : y ≤ 40) : CC mX9_parents 3 0 0 [.ref m, .int (zI y)] sz h (QR (paN pl K d y) h) := by
  refine CC.intro [some (.ref m), some (.int (zI y)), none, none] pfX9_parents rfl rfl ?_
  have hM0 := hM
  unfold MoW at hM
  have hd40 := hKB.1
  have hw0 : w 0 (Int.toNat 0) = (d : Int) := hd0
  refine x_iconst dX9_parents_0 ?_
  refine x_istore_n dX9_parents_1 rfl rfl rfl ?_
  refine x_iconst dX9_parents_2 ?_
  refine x_istore_n dX9_parents_3 rfl rfl rfl ?_
  refine x_loop (fun _ => h) (fun s : Int × Int => [some (.ref m), some (.int (zI (y : Int))), some (.int (zI s.2)), some (.int (zI s.1))]) (fun s => 0 ≤ s.1 ∧ s.1 ≤ (d : Int) + 1 ∧ s.2 = cZ (paQ pl K y) s.1) (fun s => ((d : Int) + 1 - s.1).toNat) (0, 0) rfl rfl ⟨by dsimp only; omega, by dsimp only; omega, rfl⟩ ?_
  rintro ⟨k, c⟩ ⟨hk0, hk1, hC⟩ ihq
  try dsimp only at *
  have hqk : paQ pl K y k.toNat = decide (alv pl k.toNat ∧ y ∈ K k.toNat) := rfl
  have hio : k ≤ d → (w 0 (2 + 52 * k + 0).toNat = 1 ∧ alv pl k.toNat ∨ w 0 (2 + 52 * k + 0).toNat = 0 ∧ ¬ alv pl k.toNat) := fun q0 => by
    have hiy := hI.at (x := k) hk0 q0
    by_cases q : alv pl k.toNat
    · rw [if_pos q] at hiy
      exact Or.inl ⟨hiy, q⟩
    · rw [if_neg q] at hiy
      exact Or.inr ⟨hiy, q⟩
  have hli := lfi_iff (K k.toNat) y
  have hlr := lfi_r (K k.toNat) y
  have hpo : k ≤ d → (poM (K k.toNat) y = -6 ∧ y ∉ K k.toNat ∨ 0 ≤ poM (K k.toNat) y ∧ poM (K k.toNat) y < 120 ∧ y ∈ K k.toNat) := fun q0 => by
    have hk40 := (hKB.2 k.toNat (by omega)).1
    unfold poM
    by_cases q : lfi (K k.toNat) y < 0
    · rw [if_pos q]
      exact Or.inl ⟨rfl, hli.mp (by omega)⟩
    · rw [if_neg q]
      exact Or.inr ⟨by omega, by omega, Classical.byContradiction fun q1 => by have := hli.mpr q1; omega⟩
  refine x_iload_n dX9_parents_4 rfl ?_
  refine x_aload_n dX9_parents_5 rfl ?_
  refine s_get dX9_parents_6 fX9_7 hM rfl ?_
  refine x_iconst dX9_parents_9 ?_
  refine s_iald dX9_parents_10 hM rfl rfl ⟨by omega, by omega⟩ ?_
  refine x_icmp_gt dX9_parents_11 ⟨by omega, by omega⟩ ⟨by rw [hw0]; omega, by rw [hw0]; omega⟩ (fun qc11q => ?_) (fun qc11q => ?_)
  · refine x_iload_n dX9_parents_49 rfl ?_
    refine x_ireturn dX9_parents_50 rfl ?_
    exact ⟨by unfold paN; rw [hC, show k = (d : Int) + 1 by omega], rfl⟩
  · have hio := hio (by omega)
    have hpo := hpo (by omega)
    have hct : alv pl k.toNat → y ∈ K k.toNat → cZ (paQ pl K y) (k + 1) = cZ (paQ pl K y) k + 1 := fun q1 q2 => cZ_t hk0 (by rw [hqk]; exact decide_eq_true ⟨q1, q2⟩)
    have hcf : ¬ (alv pl k.toNat ∧ y ∈ K k.toNat) → cZ (paQ pl K y) (k + 1) = cZ (paQ pl K y) k := fun q1 => cZ_f hk0 (by rw [hqk]; exact decide_eq_false q1)
    refine x_iload_n dX9_parents_14 rfl ?_
    refine x_aload_n dX9_parents_15 rfl ?_
    refine x_iload_n dX9_parents_16 rfl ?_
    refine x_iconst dX9_parents_17 ?_
    refine p_V dX9_parents_18 lX9_64 (c_X9_of sz hM0 (x := k) (v := 0) (by omega)) hM.1 rfl rfl rfl rfl (by decide) ?_
    refine x_iconst dX9_parents_21 ?_
    refine x_icmp_ne dX9_parents_22 ⟨by omega, by omega⟩ ⟨by omega, by omega⟩ (fun qc22q => ?_) (fun qc22q => ?_)
    · refine x_iconst dX9_parents_40 ?_
      refine x_iadd dX9_parents_41 ?_
      refine x_istore_n dX9_parents_42 rfl rfl rfl ?_
      refine x_iinc dX9_parents_43 rfl rfl rfl ?_
      refine x_goto dX9_parents_46 ?_
      first
        | (have qe9q : cZ (paQ pl K y) (k + 1) = cZ (paQ pl K y) k + 1 := hct (by rcases hio with q | q; exact q.2; omega) (by rcases hpo with q | q; omega; exact q.2.2)
           refine ihq (k + 1, c + 1) ⟨by dsimp only; omega, by dsimp only; omega, ?_⟩ (by dsimp only; omega)
           dsimp only
           rw [qe9q, hC]
           done)
        | (have qe9q : cZ (paQ pl K y) (k + 1) = cZ (paQ pl K y) k := hcf (fun q => by rcases hio with q1 | q1; (rcases hpo with q2 | q2; exact q2.2 q.2; omega); exact q1.2 q.1)
           refine ihq (k + 1, c + 0) ⟨by dsimp only; omega, by dsimp only; omega, ?_⟩ (by dsimp only; omega)
           dsimp only
           rw [qe9q, hC, Int.add_zero])
    · refine x_aload_n dX9_parents_25 rfl ?_
      refine x_iload_n dX9_parents_26 rfl ?_
      refine x_iload_n dX9_parents_27 rfl ?_
      rw [show zI k = zI ((k.toNat : Nat) : Int) by congr 1; omega]
      refine p_V dX9_parents_28 lX9_132 (c_X9_position sz hM0 hK hKB (x := k.toNat) (y := y) (by omega) hy) hM.1 rfl rfl rfl rfl (by decide) ?_
      rw [show zI ((k.toNat : Nat) : Int) = zI k by congr 1; omega]
      refine x_bipush dX9_parents_31 (by decide) ?_
      refine x_icmp_eq dX9_parents_33 ⟨by omega, by omega⟩ ⟨by omega, by omega⟩ (fun qc33q => ?_) (fun qc33q => ?_)
      · refine x_iconst dX9_parents_40 ?_
        refine x_iadd dX9_parents_41 ?_
        refine x_istore_n dX9_parents_42 rfl rfl rfl ?_
        refine x_iinc dX9_parents_43 rfl rfl rfl ?_
        refine x_goto dX9_parents_46 ?_
        first
          | (have qe9q : cZ (paQ pl K y) (k + 1) = cZ (paQ pl K y) k + 1 := hct (by rcases hio with q | q; exact q.2; omega) (by rcases hpo with q | q; omega; exact q.2.2)
             refine ihq (k + 1, c + 1) ⟨by dsimp only; omega, by dsimp only; omega, ?_⟩ (by dsimp only; omega)
             dsimp only
             rw [qe9q, hC]
             done)
          | (have qe9q : cZ (paQ pl K y) (k + 1) = cZ (paQ pl K y) k := hcf (fun q => by rcases hio with q1 | q1; (rcases hpo with q2 | q2; exact q2.2 q.2; omega); exact q1.2 q.1)
             refine ihq (k + 1, c + 0) ⟨by dsimp only; omega, by dsimp only; omega, ?_⟩ (by dsimp only; omega)
             dsimp only
             rw [qe9q, hC, Int.add_zero])
      · refine x_iconst dX9_parents_36 ?_
        refine x_goto dX9_parents_37 ?_
        refine x_iadd dX9_parents_41 ?_
        refine x_istore_n dX9_parents_42 rfl rfl rfl ?_
        refine x_iinc dX9_parents_43 rfl rfl rfl ?_
        refine x_goto dX9_parents_46 ?_
        first
          | (have qe9q : cZ (paQ pl K y) (k + 1) = cZ (paQ pl K y) k + 1 := hct (by rcases hio with q | q; exact q.2; omega) (by rcases hpo with q | q; omega; exact q.2.2)
             refine ihq (k + 1, c + 1) ⟨by dsimp only; omega, by dsimp only; omega, ?_⟩ (by dsimp only; omega)
             dsimp only
             rw [qe9q, hC]
             done)
          | (have qe9q : cZ (paQ pl K y) (k + 1) = cZ (paQ pl K y) k := hcf (fun q => by rcases hio with q1 | q1; (rcases hpo with q2 | q2; exact q2.2 q.2; omega); exact q1.2 q.1)
             refine ihq (k + 1, c + 0) ⟨by dsimp only; omega, by dsimp only; omega, ?_⟩ (by dsimp only; omega)
             dsimp only
             rw [qe9q, hC, Int.add_zero])
theorem c_X9_nodes (sz : Nat) {h : AH} {m : Nat} {w : Nat → Nat → Int} {u : Nat → Int} (hM : MoW h m w u) {d : Nat} {K : Nat → List Nat} {pl : List PE} (hd0 : w 0 0 = (d : Int)) (hI : RmI (w 0) d pl) (hK : RmK (w 0) d K) (hKB : KB d K) {b : Int} (hb : b = 0 ∨ b = 1) : CC mX9_nodes 4 0 0 [.ref m, .int (zI b)] sz h (QR (cZ (noQ pl K d b) d) h) := by
  refine CC.intro [some (.ref m), some (.int (zI b)), none, none] pfX9_nodes rfl rfl ?_
  have hM0 := hM
  unfold MoW at hM
  have hd40 := hKB.1
  have hw0 : w 0 (Int.toNat 0) = (d : Int) := hd0
  refine x_iconst dX9_nodes_0 ?_
  refine x_istore_n dX9_nodes_1 rfl rfl rfl ?_
  refine x_iconst dX9_nodes_2 ?_
  refine x_istore_n dX9_nodes_3 rfl rfl rfl ?_
  refine x_loop (fun _ => h) (fun s : Int × Int => [some (.ref m), some (.int (zI b)), some (.int (zI s.2)), some (.int (zI s.1))]) (fun s => 1 ≤ s.1 ∧ s.1 ≤ (d : Int) + 1 ∧ s.2 = cZ (noQ pl K d b) (s.1 - 1)) (fun s => ((d : Int) + 1 - s.1).toNat) (1, 0) rfl rfl ⟨by dsimp only; omega, by dsimp only; omega, rfl⟩ ?_
  rintro ⟨k, c⟩ ⟨hk0, hk1, hC⟩ ihq
  try dsimp only at *
  have hqk : noQ pl K d b (k - 1).toNat = decide (alv pl k.toNat ∧ (b = 0 ∨ 1 < paN pl K d k.toNat)) := by
    unfold noQ
    rw [show (k - 1).toNat + 1 = k.toNat by omega]
  have hio : k ≤ d → (w 0 (2 + 52 * k + 0).toNat = 1 ∧ alv pl k.toNat ∨ w 0 (2 + 52 * k + 0).toNat = 0 ∧ ¬ alv pl k.toNat) := fun q0 => by
    have hiy := hI.at (x := k) (by omega) q0
    by_cases q : alv pl k.toNat
    · rw [if_pos q] at hiy
      exact Or.inl ⟨hiy, q⟩
    · rw [if_neg q] at hiy
      exact Or.inr ⟨hiy, q⟩
  have hpr := paN_r pl K d k.toNat
  refine x_iload_n dX9_nodes_4 rfl ?_
  refine x_aload_n dX9_nodes_5 rfl ?_
  refine s_get dX9_nodes_6 fX9_7 hM rfl ?_
  refine x_iconst dX9_nodes_9 ?_
  refine s_iald dX9_nodes_10 hM rfl rfl ⟨by omega, by omega⟩ ?_
  refine x_icmp_gt dX9_nodes_11 ⟨by omega, by omega⟩ ⟨by rw [hw0]; omega, by rw [hw0]; omega⟩ (fun qc11q => ?_) (fun qc11q => ?_)
  · refine x_iload_n dX9_nodes_51 rfl ?_
    refine x_ireturn dX9_nodes_52 rfl ?_
    exact ⟨by rw [hC, show k - 1 = (d : Int) by omega], rfl⟩
  · have hio := hio (by omega)
    have hct : alv pl k.toNat → (b = 0 ∨ 1 < paN pl K d k.toNat) → cZ (noQ pl K d b) (k + 1 - 1) = cZ (noQ pl K d b) (k - 1) + 1 := fun q1 q2 => by
      rw [show k + 1 - 1 = (k - 1) + 1 by omega]
      exact cZ_t (by omega) (by rw [hqk]; exact decide_eq_true ⟨q1, q2⟩)
    have hcf : ¬ (alv pl k.toNat ∧ (b = 0 ∨ 1 < paN pl K d k.toNat)) → cZ (noQ pl K d b) (k + 1 - 1) = cZ (noQ pl K d b) (k - 1) := fun q1 => by
      rw [show k + 1 - 1 = (k - 1) + 1 by omega]
      exact cZ_f (by omega) (by rw [hqk]; exact decide_eq_false q1)
    refine x_iload_n dX9_nodes_14 rfl ?_
    refine x_aload_n dX9_nodes_15 rfl ?_
    refine x_iload_n dX9_nodes_16 rfl ?_
    refine x_iconst dX9_nodes_17 ?_
    refine p_V dX9_nodes_18 lX9_64 (c_X9_of sz hM0 (x := k) (v := 0) (by omega)) hM.1 rfl rfl rfl rfl (by decide) ?_
    refine x_iconst dX9_nodes_21 ?_
    refine x_icmp_ne dX9_nodes_22 ⟨by omega, by omega⟩ ⟨by omega, by omega⟩ (fun qc22q => ?_) (fun qc22q => ?_)
    · refine x_iconst dX9_nodes_42 ?_
      refine x_iadd dX9_nodes_43 ?_
      refine x_istore_n dX9_nodes_44 rfl rfl rfl ?_
      refine x_iinc dX9_nodes_45 rfl rfl rfl ?_
      refine x_goto dX9_nodes_48 ?_
      first
        | (have qe9q : cZ (noQ pl K d b) (k + 1 - 1) = cZ (noQ pl K d b) (k - 1) + 1 := hct (by rcases hio with q | q; exact q.2; omega) (by omega)
           refine ihq (k + 1, c + 1) ⟨by dsimp only; omega, by dsimp only; omega, ?_⟩ (by dsimp only; omega)
           dsimp only
           rw [qe9q, hC]
           done)
        | (have qe9q : cZ (noQ pl K d b) (k + 1 - 1) = cZ (noQ pl K d b) (k - 1) := hcf (fun q => by rcases hio with q1 | q1; (have := q.2; omega); exact q1.2 q.1)
           refine ihq (k + 1, c + 0) ⟨by dsimp only; omega, by dsimp only; omega, ?_⟩ (by dsimp only; omega)
           dsimp only
           rw [qe9q, hC, Int.add_zero])
    · refine x_iload_n dX9_nodes_25 rfl ?_
      refine x_if_eq dX9_nodes_26 ⟨by omega, by omega⟩ (fun qc26q => ?_) (fun qc26q => ?_)
      · refine x_iconst dX9_nodes_38 ?_
        refine x_goto dX9_nodes_39 ?_
        refine x_iadd dX9_nodes_43 ?_
        refine x_istore_n dX9_nodes_44 rfl rfl rfl ?_
        refine x_iinc dX9_nodes_45 rfl rfl rfl ?_
        refine x_goto dX9_nodes_48 ?_
        first
          | (have qe9q : cZ (noQ pl K d b) (k + 1 - 1) = cZ (noQ pl K d b) (k - 1) + 1 := hct (by rcases hio with q | q; exact q.2; omega) (by omega)
             refine ihq (k + 1, c + 1) ⟨by dsimp only; omega, by dsimp only; omega, ?_⟩ (by dsimp only; omega)
             dsimp only
             rw [qe9q, hC]
             done)
          | (have qe9q : cZ (noQ pl K d b) (k + 1 - 1) = cZ (noQ pl K d b) (k - 1) := hcf (fun q => by rcases hio with q1 | q1; (have := q.2; omega); exact q1.2 q.1)
             refine ihq (k + 1, c + 0) ⟨by dsimp only; omega, by dsimp only; omega, ?_⟩ (by dsimp only; omega)
             dsimp only
             rw [qe9q, hC, Int.add_zero])
      · refine x_aload_n dX9_nodes_29 rfl ?_
        refine x_iload_n dX9_nodes_30 rfl ?_
        rw [show zI k = zI ((k.toNat : Nat) : Int) by congr 1; omega]
        refine p_V dX9_nodes_31 lX9_186 (c_X9_parents sz hM0 hd0 hI hK hKB (y := k.toNat) (by omega)) hM.1 rfl rfl rfl rfl (by decide) ?_
        rw [show zI ((k.toNat : Nat) : Int) = zI k by congr 1; omega]
        refine x_iconst dX9_nodes_34 ?_
        refine x_icmp_le dX9_nodes_35 ⟨by omega, by omega⟩ ⟨by omega, by omega⟩ (fun qc35q => ?_) (fun qc35q => ?_)
        · refine x_iconst dX9_nodes_42 ?_
          refine x_iadd dX9_nodes_43 ?_
          refine x_istore_n dX9_nodes_44 rfl rfl rfl ?_
          refine x_iinc dX9_nodes_45 rfl rfl rfl ?_
          refine x_goto dX9_nodes_48 ?_
          first
            | (have qe9q : cZ (noQ pl K d b) (k + 1 - 1) = cZ (noQ pl K d b) (k - 1) + 1 := hct (by rcases hio with q | q; exact q.2; omega) (by omega)
               refine ihq (k + 1, c + 1) ⟨by dsimp only; omega, by dsimp only; omega, ?_⟩ (by dsimp only; omega)
               dsimp only
               rw [qe9q, hC]
               done)
            | (have qe9q : cZ (noQ pl K d b) (k + 1 - 1) = cZ (noQ pl K d b) (k - 1) := hcf (fun q => by rcases hio with q1 | q1; (have := q.2; omega); exact q1.2 q.1)
               refine ihq (k + 1, c + 0) ⟨by dsimp only; omega, by dsimp only; omega, ?_⟩ (by dsimp only; omega)
               dsimp only
               rw [qe9q, hC, Int.add_zero])
        · refine x_iconst dX9_nodes_38 ?_
          refine x_goto dX9_nodes_39 ?_
          refine x_iadd dX9_nodes_43 ?_
          refine x_istore_n dX9_nodes_44 rfl rfl rfl ?_
          refine x_iinc dX9_nodes_45 rfl rfl rfl ?_
          refine x_goto dX9_nodes_48 ?_
          first
            | (have qe9q : cZ (noQ pl K d b) (k + 1 - 1) = cZ (noQ pl K d b) (k - 1) + 1 := hct (by rcases hio with q | q; exact q.2; omega) (by omega)
               refine ihq (k + 1, c + 1) ⟨by dsimp only; omega, by dsimp only; omega, ?_⟩ (by dsimp only; omega)
               dsimp only
               rw [qe9q, hC]
               done)
            | (have qe9q : cZ (noQ pl K d b) (k + 1 - 1) = cZ (noQ pl K d b) (k - 1) := hcf (fun q => by rcases hio with q1 | q1; (have := q.2; omega); exact q1.2 q.1)
               refine ihq (k + 1, c + 0) ⟨by dsimp only; omega, by dsimp only; omega, ?_⟩ (by dsimp only; omega)
               dsimp only
               rw [qe9q, hC, Int.add_zero])
