-- the model at m: its rows w 0 .. w 15 (now, history, slot, spare, ..) and numbers u 0 .. u 3 (kept, isFilled, typed, readMade)
abbrev moF (m : Nat) (u : Nat → Int) : List Value := [.ref (m + 1 + 0), .ref (m + 1 + 1), .int (zI (u 0)), .ref (m + 1 + 2), .int (zI (u 1)), .ref (m + 1 + 3), .ref (m + 1 + 4), .ref (m + 1 + 5), .ref (m + 1 + 6), .ref (m + 1 + 7), .ref (m + 1 + 8), .ref (m + 1 + 9), .int (zI (u 2)), .ref (m + 1 + 10), .ref (m + 1 + 11), .int (zI (u 3)), .ref (m + 1 + 12), .ref (m + 1 + 13), .ref (m + 1 + 14), .ref (m + 1 + 15)]
abbrev moA (w : Nat → Nat → Int) : List (Nat × Nat × (Nat → Int)) := [(0, 2494, w 0), (0, 12470, w 1), (0, 2494, w 2), (0, 2494, w 3), (0, 42, w 4), (0, 42, w 5), (0, 120, w 6), (0, 121, w 7), (2, 41, w 8), (0, 41, w 9), (1, 60, w 10), (0, 26, w 11), (0, 28, w 12), (0, 28, w 13), (0, 784, w 14), (0, 62, w 15)]
def MoW (h : AH) (m : Nat) (w : Nat → Nat → Int) (u : Nat → Int) : Prop := SO h h m 17 9 (moF m u) (moA w)
theorem MoW.mv {h h' : AH} {m lo hi : Nat} {w : Nat → Nat → Int} {u : Nat → Int} (a : MoW h m w u) (f : Fr h h' lo hi) (d : hi ≤ m ∨ m + 17 ≤ lo) : MoW h' m w u := SO.mv a f d
def mw0 : Nat → Nat → Int := fun j => if j = 0 then zU (fun _ => 0) 2 1 else fun _ => 0

set_option maxRecDepth 20000 in
theorem c_X9_init {h : AH} {m : Nat} (ho : h m = some (xO 9 [.null, .null, .int 0, .null, .int 0, .null, .null, .null, .null, .null, .null, .null, .int 0, .null, .null, .int 0, .null, .null, .null, .null])) : CC mX9_init 1 16 21347 [.ref m] (m + 1) h (QV (fun h' => MoW h' m mw0 (fun _ => 0) ∧ Fr h h' m (m + 17))) := by
  refine CC.intro [some (.ref m)] pfX9_init rfl rfl ?_
  have hM : SO h h m 17 9 [.null, .null, .int 0, .null, .int 0, .null, .null, .null, .null, .null, .null, .null, .int 0, .null, .null, .int 0, .null, .null, .null, .null] [] := ⟨ho, by simp, by decide, fun _ _ => rfl⟩
  refine x_aload_n dX9_init_0 rfl ?_
  refine x_objInit dX9_init_1 oiX9 k_oi k_oc (by decide) ?_
  refine x_aload_n dX9_init_4 rfl ?_
  refine x_sipush dX9_init_5 (by decide) ?_
  refine s_newa (n := 2494) (t := 0) dX9_init_8 k_aI rfl (fun D => rfl) (fun Cq q => by cases q) rfl rfl (by decide) (by decide) (by decide) rfl (by decide) hM (fun h hM hF => ?_)
  refine s_putF dX9_init_10 fX9_7 rfl rfl rfl rfl rfl hM (fun h hM hF => ?_)
  refine x_aload_n dX9_init_13 rfl ?_
  refine x_sipush dX9_init_14 (by decide) ?_
  refine s_newa (n := 12470) (t := 0) dX9_init_17 k_aI rfl (fun D => rfl) (fun Cq q => by cases q) rfl rfl (by decide) (by decide) (by decide) rfl (by decide) hM (fun h hM hF => ?_)
  refine s_putF dX9_init_19 fX9_13 rfl rfl rfl rfl rfl hM (fun h hM hF => ?_)
  refine x_aload_n dX9_init_22 rfl ?_
  refine x_sipush dX9_init_23 (by decide) ?_
  refine s_newa (n := 2494) (t := 0) dX9_init_26 k_aI rfl (fun D => rfl) (fun Cq q => by cases q) rfl rfl (by decide) (by decide) (by decide) rfl (by decide) hM (fun h hM hF => ?_)
  refine s_putF dX9_init_28 fX9_16 rfl rfl rfl rfl rfl hM (fun h hM hF => ?_)
  refine x_aload_n dX9_init_31 rfl ?_
  refine x_sipush dX9_init_32 (by decide) ?_
  refine s_newa (n := 2494) (t := 0) dX9_init_35 k_aI rfl (fun D => rfl) (fun Cq q => by cases q) rfl rfl (by decide) (by decide) (by decide) rfl (by decide) hM (fun h hM hF => ?_)
  refine s_putF dX9_init_37 fX9_19 rfl rfl rfl rfl rfl hM (fun h hM hF => ?_)
  refine x_aload_n dX9_init_40 rfl ?_
  refine x_bipush dX9_init_41 (by decide) ?_
  refine s_newa (n := 42) (t := 0) dX9_init_43 k_aI rfl (fun D => rfl) (fun Cq q => by cases q) rfl rfl (by decide) (by decide) (by decide) rfl (by decide) hM (fun h hM hF => ?_)
  refine s_putF dX9_init_45 fX9_22 rfl rfl rfl rfl rfl hM (fun h hM hF => ?_)
  refine x_aload_n dX9_init_48 rfl ?_
  refine x_bipush dX9_init_49 (by decide) ?_
  refine s_newa (n := 42) (t := 0) dX9_init_51 k_aI rfl (fun D => rfl) (fun Cq q => by cases q) rfl rfl (by decide) (by decide) (by decide) rfl (by decide) hM (fun h hM hF => ?_)
  refine s_putF dX9_init_53 fX9_25 rfl rfl rfl rfl rfl hM (fun h hM hF => ?_)
  refine x_aload_n dX9_init_56 rfl ?_
  refine x_bipush dX9_init_57 (by decide) ?_
  refine s_newa (n := 120) (t := 0) dX9_init_59 k_aI rfl (fun D => rfl) (fun Cq q => by cases q) rfl rfl (by decide) (by decide) (by decide) rfl (by decide) hM (fun h hM hF => ?_)
  refine s_putF dX9_init_61 fX9_28 rfl rfl rfl rfl rfl hM (fun h hM hF => ?_)
  refine x_aload_n dX9_init_64 rfl ?_
  refine x_bipush dX9_init_65 (by decide) ?_
  refine s_newa (n := 121) (t := 0) dX9_init_67 k_aI rfl (fun D => rfl) (fun Cq q => by cases q) rfl rfl (by decide) (by decide) (by decide) rfl (by decide) hM (fun h hM hF => ?_)
  refine s_putF dX9_init_69 fX9_31 rfl rfl rfl rfl rfl hM (fun h hM hF => ?_)
  refine x_aload_n dX9_init_72 rfl ?_
  refine x_bipush dX9_init_73 (by decide) ?_
  refine s_newa (n := 41) (t := 2) dX9_init_75 k_aZ rfl (fun D => rfl) (fun Cq q => by cases q) rfl rfl (by decide) (by decide) (by decide) rfl (by decide) hM (fun h hM hF => ?_)
  refine s_putF dX9_init_77 fX9_34 rfl rfl rfl rfl rfl hM (fun h hM hF => ?_)
  refine x_aload_n dX9_init_80 rfl ?_
  refine x_bipush dX9_init_81 (by decide) ?_
  refine s_newa (n := 41) (t := 0) dX9_init_83 k_aI rfl (fun D => rfl) (fun Cq q => by cases q) rfl rfl (by decide) (by decide) (by decide) rfl (by decide) hM (fun h hM hF => ?_)
  refine s_putF dX9_init_85 fX9_38 rfl rfl rfl rfl rfl hM (fun h hM hF => ?_)
  refine x_aload_n dX9_init_88 rfl ?_
  refine x_bipush dX9_init_89 (by decide) ?_
  refine s_newa (n := 60) (t := 1) dX9_init_91 k_aC rfl (fun D => rfl) (fun Cq q => by cases q) rfl rfl (by decide) (by decide) (by decide) rfl (by decide) hM (fun h hM hF => ?_)
  refine s_putF dX9_init_93 fX9_41 rfl rfl rfl rfl rfl hM (fun h hM hF => ?_)
  refine x_aload_n dX9_init_96 rfl ?_
  refine x_bipush dX9_init_97 (by decide) ?_
  refine s_newa (n := 26) (t := 0) dX9_init_99 k_aI rfl (fun D => rfl) (fun Cq q => by cases q) rfl rfl (by decide) (by decide) (by decide) rfl (by decide) hM (fun h hM hF => ?_)
  refine s_putF dX9_init_101 fX9_45 rfl rfl rfl rfl rfl hM (fun h hM hF => ?_)
  refine x_aload_n dX9_init_104 rfl ?_
  refine x_bipush dX9_init_105 (by decide) ?_
  refine s_newa (n := 28) (t := 0) dX9_init_107 k_aI rfl (fun D => rfl) (fun Cq q => by cases q) rfl rfl (by decide) (by decide) (by decide) rfl (by decide) hM (fun h hM hF => ?_)
  refine s_putF dX9_init_109 fX9_48 rfl rfl rfl rfl rfl hM (fun h hM hF => ?_)
  refine x_aload_n dX9_init_112 rfl ?_
  refine x_bipush dX9_init_113 (by decide) ?_
  refine s_newa (n := 28) (t := 0) dX9_init_115 k_aI rfl (fun D => rfl) (fun Cq q => by cases q) rfl rfl (by decide) (by decide) (by decide) rfl (by decide) hM (fun h hM hF => ?_)
  refine s_putF dX9_init_117 fX9_51 rfl rfl rfl rfl rfl hM (fun h hM hF => ?_)
  refine x_aload_n dX9_init_120 rfl ?_
  refine x_sipush dX9_init_121 (by decide) ?_
  refine s_newa (n := 784) (t := 0) dX9_init_124 k_aI rfl (fun D => rfl) (fun Cq q => by cases q) rfl rfl (by decide) (by decide) (by decide) rfl (by decide) hM (fun h hM hF => ?_)
  refine s_putF dX9_init_126 fX9_54 rfl rfl rfl rfl rfl hM (fun h hM hF => ?_)
  refine x_aload_n dX9_init_129 rfl ?_
  refine x_bipush dX9_init_130 (by decide) ?_
  refine s_newa (n := 62) (t := 0) dX9_init_132 k_aI rfl (fun D => rfl) (fun Cq q => by cases q) rfl rfl (by decide) (by decide) (by decide) rfl (by decide) hM (fun h hM hF => ?_)
  refine s_putF dX9_init_134 fX9_57 rfl rfl rfl rfl rfl hM (fun h hM hF => ?_)
  have hM : SO _ h m 17 9 (moF m (fun _ => 0)) (moA (fun _ _ => 0)) := hM
  refine x_aload_n dX9_init_137 rfl ?_
  refine s_get dX9_init_138 fX9_7 hM rfl ?_
  refine x_iconst dX9_init_141 ?_
  refine x_iconst dX9_init_142 ?_
  refine s_iast (n := 2494) (j := 0) (f := fun _ => 0) dX9_init_143 hM rfl rfl ⟨by omega, by omega⟩ (fun h hM hF => ?_)
  refine x_widen (nc' := 16) (ns' := 21347) rfl (by decide) ?_
  refine x_vreturn dX9_init_144 rfl ?_
  exact ⟨rfl, hM.st, hM.fr⟩
theorem c_X9_in (sz : Nat) (h : AH) {a b c : Int} (ha : inR a) (hb : inR b) (hc : inR c) : CC mX9_in 0 0 0 [.int (zI a), .int (zI b), .int (zI c)] sz h (QB (b ≤ a ∧ a ≤ c) h) := by
  refine CC.intro [some (.int (zI a)), some (.int (zI b)), some (.int (zI c))] pfX9_in rfl rfl ?_
  refine x_iload_n dX9_in_0 rfl ?_
  refine x_iload_n dX9_in_1 rfl ?_
  refine x_icmp_lt dX9_in_2 ⟨by omega, by omega⟩ ⟨by omega, by omega⟩ (fun qc2q => ?_) (fun qc2q => ?_)
  · refine x_iconst dX9_in_14 ?_
    refine x_zreturn dX9_in_15 rfl (by decide) ?_
    refine ⟨?_, rfl⟩
    first | (exfalso; omega) | (rw [if_pos (by omega)]; done) | (rw [if_neg (by omega)]; done)
  · refine x_iload_n dX9_in_5 rfl ?_
    refine x_iload_n dX9_in_6 rfl ?_
    refine x_icmp_gt dX9_in_7 ⟨by omega, by omega⟩ ⟨by omega, by omega⟩ (fun qc7q => ?_) (fun qc7q => ?_)
    · refine x_iconst dX9_in_14 ?_
      refine x_zreturn dX9_in_15 rfl (by decide) ?_
      refine ⟨?_, rfl⟩
      first | (exfalso; omega) | (rw [if_pos (by omega)]; done) | (rw [if_neg (by omega)]; done)
    · refine x_iconst dX9_in_10 ?_
      refine x_goto dX9_in_11 ?_
      refine x_zreturn dX9_in_15 rfl (by decide) ?_
      refine ⟨?_, rfl⟩
      first | (exfalso; omega) | (rw [if_pos (by omega)]; done) | (rw [if_neg (by omega)]; done)
theorem c_X9_of (sz : Nat) {h : AH} {m : Nat} {w : Nat → Nat → Int} {u : Nat → Int} (hM : MoW h m w u) {x v : Int} (hx : 0 ≤ 2 + 52 * x + v ∧ 2 + 52 * x + v < 2494) : CC mX9_of 0 0 0 [.ref m, .int (zI x), .int (zI v)] sz h (QR (w 0 (2 + 52 * x + v).toNat) h) := by
  refine CC.intro [some (.ref m), some (.int (zI x)), some (.int (zI v))] pfX9_of rfl rfl ?_
  have hM0 := hM
  unfold MoW at hM
  refine x_aload_n dX9_of_0 rfl ?_
  refine s_get dX9_of_1 fX9_7 hM rfl ?_
  refine x_iconst dX9_of_4 ?_
  refine x_bipush dX9_of_5 (by decide) ?_
  refine x_iload_n dX9_of_7 rfl ?_
  refine x_imul dX9_of_8 ?_
  refine x_iadd dX9_of_9 ?_
  refine x_iload_n dX9_of_10 rfl ?_
  refine x_iadd dX9_of_11 ?_
  refine s_iald dX9_of_12 hM rfl rfl ⟨by omega, by omega⟩ ?_
  refine x_ireturn dX9_of_13 rfl ?_
  exact ⟨rfl, rfl⟩
theorem c_X9_at (sz : Nat) {h : AH} {m : Nat} {w : Nat → Nat → Int} {u : Nat → Int} (hM : MoW h m w u) {x v : Int} (hx : 0 ≤ 2134 + 3 * x + v ∧ 2134 + 3 * x + v < 2494) : CC mX9_at 0 0 0 [.ref m, .int (zI x), .int (zI v)] sz h (QR (w 0 (2134 + 3 * x + v).toNat) h) := by
  refine CC.intro [some (.ref m), some (.int (zI x)), some (.int (zI v))] pfX9_at rfl rfl ?_
  have hM0 := hM
  unfold MoW at hM
  refine x_aload_n dX9_at_0 rfl ?_
  refine s_get dX9_at_1 fX9_7 hM rfl ?_
  refine x_sipush dX9_at_4 (by decide) ?_
  refine x_iconst dX9_at_7 ?_
  refine x_iload_n dX9_at_8 rfl ?_
  refine x_imul dX9_at_9 ?_
  refine x_iadd dX9_at_10 ?_
  refine x_iload_n dX9_at_11 rfl ?_
  refine x_iadd dX9_at_12 ?_
  refine s_iald dX9_at_13 hM rfl rfl ⟨by omega, by omega⟩ ?_
  refine x_ireturn dX9_at_14 rfl ?_
  exact ⟨rfl, rfl⟩
theorem c_X9_spareAt (sz : Nat) {h : AH} {m : Nat} {w : Nat → Nat → Int} {u : Nat → Int} (hM : MoW h m w u) {x v : Int} (hx : 0 ≤ 2134 + 3 * x + v ∧ 2134 + 3 * x + v < 2494) : CC mX9_spareAt 0 0 0 [.ref m, .int (zI x), .int (zI v)] sz h (QR (w 3 (2134 + 3 * x + v).toNat) h) := by
  refine CC.intro [some (.ref m), some (.int (zI x)), some (.int (zI v))] pfX9_spareAt rfl rfl ?_
  have hM0 := hM
  unfold MoW at hM
  refine x_aload_n dX9_spareAt_0 rfl ?_
  refine s_get dX9_spareAt_1 fX9_19 hM rfl ?_
  refine x_sipush dX9_spareAt_4 (by decide) ?_
  refine x_iconst dX9_spareAt_7 ?_
  refine x_iload_n dX9_spareAt_8 rfl ?_
  refine x_imul dX9_spareAt_9 ?_
  refine x_iadd dX9_spareAt_10 ?_
  refine x_iload_n dX9_spareAt_11 rfl ?_
  refine x_iadd dX9_spareAt_12 ?_
  refine s_iald dX9_spareAt_13 hM rfl rfl ⟨by omega, by omega⟩ ?_
  refine x_ireturn dX9_spareAt_14 rfl ?_
  exact ⟨rfl, rfl⟩
theorem c_X9_to (sz : Nat) {h : AH} {m : Nat} {w : Nat → Nat → Int} {u : Nat → Int} (hM : MoW h m w u) {x v z : Int} (hx : 0 ≤ 2 + 52 * x + v ∧ 2 + 52 * x + v < 2494) : CC mX9_to 0 0 0 [.ref m, .int (zI x), .int (zI v), .int (zI z)] sz h (QV (fun h' => MoW h' m (fU w 0 (zU (w 0) (2 + 52 * x + v).toNat z)) u ∧ Fr h h' m (m + 17))) := by
  refine CC.intro [some (.ref m), some (.int (zI x)), some (.int (zI v)), some (.int (zI z))] pfX9_to rfl rfl ?_
  have hM0 := hM
  unfold MoW at hM
  refine x_aload_n dX9_to_0 rfl ?_
  refine s_get dX9_to_1 fX9_7 hM rfl ?_
  refine x_iconst dX9_to_4 ?_
  refine x_bipush dX9_to_5 (by decide) ?_
  refine x_iload_n dX9_to_7 rfl ?_
  refine x_imul dX9_to_8 ?_
  refine x_iadd dX9_to_9 ?_
  refine x_iload_n dX9_to_10 rfl ?_
  refine x_iadd dX9_to_11 ?_
  refine x_iload_n dX9_to_12 rfl ?_
  refine s_iast dX9_to_13 hM rfl rfl ⟨by omega, by omega⟩ (fun h hM hF => ?_)
  refine x_vreturn dX9_to_14 rfl ?_
  exact ⟨rfl, hM.st, hM.fr⟩
theorem c_X9_kid (sz : Nat) {h : AH} {m : Nat} {w : Nat → Nat → Int} {u : Nat → Int} (hM : MoW h m w u) {x v : Int} (hx : 0 ≤ 2 + 52 * x + (12 + v) ∧ 2 + 52 * x + (12 + v) < 2494) : CC mX9_kid 1 0 0 [.ref m, .int (zI x), .int (zI v)] sz h (QR (w 0 (2 + 52 * x + (12 + v)).toNat) h) := by
  refine CC.intro [some (.ref m), some (.int (zI x)), some (.int (zI v))] pfX9_kid rfl rfl ?_
  have hM0 := hM
  unfold MoW at hM
  refine x_aload_n dX9_kid_0 rfl ?_
  refine x_iload_n dX9_kid_1 rfl ?_
  refine x_bipush dX9_kid_2 (by decide) ?_
  refine x_iload_n dX9_kid_4 rfl ?_
  refine x_iadd dX9_kid_5 ?_
  refine p_V dX9_kid_6 lX9_64 (c_X9_of sz hM0 hx) hM.1 rfl rfl rfl rfl (by decide) ?_
  refine x_ireturn dX9_kid_9 rfl ?_
  exact ⟨rfl, rfl⟩
theorem c_X9_takeSpare (sz : Nat) {h : AH} {m : Nat} {w : Nat → Nat → Int} {u : Nat → Int} (hM : MoW h m w u) : CC mX9_takeSpare 0 0 0 [.ref m] sz h (QV (fun h' => ∃ g, (∀ i, i < 2494 → g i = w 0 i) ∧ MoW h' m (fU w 3 g) u ∧ Fr h h' m (m + 17))) := by
  refine CC.intro [some (.ref m), none] pfX9_takeSpare rfl rfl ?_
  have hM0 := hM
  unfold MoW at hM
  refine x_iconst dX9_takeSpare_0 ?_
  refine x_istore_n dX9_takeSpare_1 rfl rfl rfl ?_
  refine x_loop (fun s : AH × Int => s.1) (fun s => [some (.ref m), some (.int (zI s.2))]) (fun s => 0 ≤ s.2 ∧ s.2 ≤ 2494 ∧ ∃ g : Nat → Int, (∀ k : Nat, (k : Int) < s.2 → g k = w 0 k) ∧ SO h s.1 m 17 9 (moF m u) (moA (fU w 3 g))) (fun s => (2494 - s.2).toNat) (h, 0) rfl rfl ⟨by dsimp only; omega, by dsimp only; omega, w 3, fun k hk => by dsimp only at hk; omega, hM⟩ ?_
  clear hM hM0
  rintro ⟨h2, i⟩ ⟨hi0, hi1, g, hg, hM⟩ ihq
  try dsimp only at *
  refine x_iload_n dX9_takeSpare_2 rfl ?_
  refine x_sipush dX9_takeSpare_3 (by decide) ?_
  refine x_icmp_ge dX9_takeSpare_6 ⟨by omega, by omega⟩ ⟨by omega, by omega⟩ (fun qc6q => ?_) (fun qc6q => ?_)
  · refine x_vreturn dX9_takeSpare_27 rfl ?_
    exact ⟨rfl, g, fun k hk => hg k (by omega), hM.st, hM.fr⟩
  · refine x_aload_n dX9_takeSpare_9 rfl ?_
    refine s_get dX9_takeSpare_10 fX9_19 hM rfl ?_
    refine x_iload_n dX9_takeSpare_13 rfl ?_
    refine x_aload_n dX9_takeSpare_14 rfl ?_
    refine s_get dX9_takeSpare_15 fX9_7 hM rfl ?_
    refine x_iload_n dX9_takeSpare_18 rfl ?_
    refine s_iald dX9_takeSpare_19 hM rfl rfl ⟨by omega, by omega⟩ ?_
    refine s_iast dX9_takeSpare_20 hM rfl rfl ⟨by omega, by omega⟩ (fun h hM hF => ?_)
    refine x_iinc dX9_takeSpare_21 rfl rfl rfl ?_
    refine x_goto dX9_takeSpare_24 ?_
    refine ihq (_, i + 1) ⟨by dsimp only; omega, by dsimp only; omega, zU g i.toNat (w 0 i.toNat), fun k hk => ?_, hM⟩ (by dsimp only; omega)
    dsimp only at hk
    by_cases q : k = i.toNat
    · rw [q, zU_s]
    · rw [zU_n q]
      exact hg k (by omega)
theorem c_X9_putBack (sz : Nat) {h : AH} {m : Nat} {w : Nat → Nat → Int} {u : Nat → Int} (hM : MoW h m w u) : CC mX9_putBack 0 0 0 [.ref m] sz h (QV (fun h' => ∃ g, (∀ i, i < 2494 → g i = w 3 i) ∧ MoW h' m (fU w 0 g) u ∧ Fr h h' m (m + 17))) := by
  refine CC.intro [some (.ref m), none] pfX9_putBack rfl rfl ?_
  have hM0 := hM
  unfold MoW at hM
  refine x_iconst dX9_putBack_0 ?_
  refine x_istore_n dX9_putBack_1 rfl rfl rfl ?_
  refine x_loop (fun s : AH × Int => s.1) (fun s => [some (.ref m), some (.int (zI s.2))]) (fun s => 0 ≤ s.2 ∧ s.2 ≤ 2494 ∧ ∃ g : Nat → Int, (∀ k : Nat, (k : Int) < s.2 → g k = w 3 k) ∧ SO h s.1 m 17 9 (moF m u) (moA (fU w 0 g))) (fun s => (2494 - s.2).toNat) (h, 0) rfl rfl ⟨by dsimp only; omega, by dsimp only; omega, w 0, fun k hk => by dsimp only at hk; omega, hM⟩ ?_
  clear hM hM0
  rintro ⟨h2, i⟩ ⟨hi0, hi1, g, hg, hM⟩ ihq
  try dsimp only at *
  refine x_iload_n dX9_putBack_2 rfl ?_
  refine x_sipush dX9_putBack_3 (by decide) ?_
  refine x_icmp_ge dX9_putBack_6 ⟨by omega, by omega⟩ ⟨by omega, by omega⟩ (fun qc6q => ?_) (fun qc6q => ?_)
  · refine x_vreturn dX9_putBack_27 rfl ?_
    exact ⟨rfl, g, fun k hk => hg k (by omega), hM.st, hM.fr⟩
  · refine x_aload_n dX9_putBack_9 rfl ?_
    refine s_get dX9_putBack_10 fX9_7 hM rfl ?_
    refine x_iload_n dX9_putBack_13 rfl ?_
    refine x_aload_n dX9_putBack_14 rfl ?_
    refine s_get dX9_putBack_15 fX9_19 hM rfl ?_
    refine x_iload_n dX9_putBack_18 rfl ?_
    refine s_iald dX9_putBack_19 hM rfl rfl ⟨by omega, by omega⟩ ?_
    refine s_iast dX9_putBack_20 hM rfl rfl ⟨by omega, by omega⟩ (fun h hM hF => ?_)
    refine x_iinc dX9_putBack_21 rfl rfl rfl ?_
    refine x_goto dX9_putBack_24 ?_
    refine ihq (_, i + 1) ⟨by dsimp only; omega, by dsimp only; omega, zU g i.toNat (w 3 i.toNat), fun k hk => ?_, hM⟩ (by dsimp only; omega)
    dsimp only at hk
    by_cases q : k = i.toNat
    · rw [q, zU_s]
    · rw [zU_n q]
      exact hg k (by omega)
theorem c_X9_record (sz : Nat) {h : AH} {m : Nat} {w : Nat → Nat → Int} {u : Nat → Int} (hM : MoW h m w u) {n : Nat} (hn : u 0 = n) (hn5 : n ≤ 5) : CC mX9_record 0 0 0 [.ref m] sz h (QV (fun h' => ∃ g n1, (n1 = if n = 5 then 4 else n) ∧ (∀ j i : Nat, j < n1 → i < 2494 → g (2494 * j + i) = w 1 (2494 * (j + (if n = 5 then 1 else 0)) + i)) ∧ (∀ i : Nat, i < 2494 → g (2494 * n1 + i) = w 3 i) ∧ MoW h' m (fU w 1 g) (fU u 0 ((n1 : Int) + 1)) ∧ Fr h h' m (m + 17))) := by
  refine CC.intro [some (.ref m), none] pfX9_record rfl rfl ?_
  have hM0 := hM
  unfold MoW at hM
  have K : ∀ (h1 : AH) (g0 : Nat → Int) (n1 : Nat), n1 ≤ 4 → (n1 = if n = 5 then 4 else n) → (∀ j i : Nat, j < n1 → i < 2494 → g0 (2494 * j + i) = w 1 (2494 * (j + (if n = 5 then 1 else 0)) + i)) → SO h h1 m 17 9 (moF m (fU u 0 (n1 : Int))) (moA (fU w 1 g0)) → ∀ y, XM mX9_record 0 0 0 (QV (fun h' => ∃ g n1, (n1 = if n = 5 then 4 else n) ∧ (∀ j i : Nat, j < n1 → i < 2494 → g (2494 * j + i) = w 1 (2494 * (j + (if n = 5 then 1 else 0)) + i)) ∧ (∀ i : Nat, i < 2494 → g (2494 * n1 + i) = w 3 i) ∧ MoW h' m (fU w 1 g) (fU u 0 ((n1 : Int) + 1)) ∧ Fr h h' m (m + 17))) 0 0 sz h1 49 [some (.ref m), y] [] := by
    intro h1 g0 n1 hn4 hne hg0 hM y
    refine x_iconst dX9_record_49 ?_
    refine x_istore_n dX9_record_50 rfl rfl rfl ?_
    refine x_loop (fun s : AH × Int => s.1) (fun s => [some (.ref m), some (.int (zI s.2))]) (fun s => 0 ≤ s.2 ∧ s.2 ≤ 2494 ∧ ∃ g : Nat → Int, (∀ j i : Nat, j < n1 → i < 2494 → g (2494 * j + i) = g0 (2494 * j + i)) ∧ (∀ k : Nat, (k : Int) < s.2 → g (2494 * n1 + k) = w 3 k) ∧ SO h s.1 m 17 9 (moF m (fU u 0 (n1 : Int))) (moA (fU w 1 g))) (fun s => (2494 - s.2).toNat) (h1, 0) rfl rfl ⟨by dsimp only; omega, by dsimp only; omega, g0, fun _ _ _ _ => rfl, fun k hk => by dsimp only at hk; omega, hM⟩ ?_
    clear hM hM0
    rintro ⟨h2, i⟩ ⟨hi0, hi1, g, hg1, hg, hM⟩ ihq
    try dsimp only at *
    refine x_iload_n dX9_record_51 rfl ?_
    refine x_sipush dX9_record_52 (by decide) ?_
    refine x_icmp_ge dX9_record_55 ⟨by omega, by omega⟩ ⟨by omega, by omega⟩ (fun qc55q => ?_) (fun qc55q => ?_)
    · refine x_aload_n dX9_record_85 rfl ?_
      refine x_dup dX9_record_86 rfl ?_
      refine s_get dX9_record_87 fX9_60 hM rfl ?_
      refine x_iconst dX9_record_90 ?_
      refine x_iadd dX9_record_91 ?_
      refine s_puti dX9_record_92 fX9_60 hM rfl (fun h hM hF => ?_)
      refine x_vreturn dX9_record_95 rfl ?_
      exact ⟨rfl, g, n1, hne, fun j k hj hk => (hg1 j k hj hk).trans (hg0 j k hj hk), fun k hk => hg k (by omega), hM.st, hM.fr⟩
    · refine x_aload_n dX9_record_58 rfl ?_
      refine s_get dX9_record_59 fX9_13 hM rfl ?_
      refine x_sipush dX9_record_62 (by decide) ?_
      refine x_aload_n dX9_record_65 rfl ?_
      refine s_get dX9_record_66 fX9_60 hM rfl ?_
      refine x_imul dX9_record_69 ?_
      refine x_iload_n dX9_record_70 rfl ?_
      refine x_iadd dX9_record_71 ?_
      refine x_aload_n dX9_record_72 rfl ?_
      refine s_get dX9_record_73 fX9_19 hM rfl ?_
      refine x_iload_n dX9_record_76 rfl ?_
      refine s_iald dX9_record_77 hM rfl rfl ⟨by omega, by omega⟩ ?_
      refine s_iast dX9_record_78 hM rfl rfl ⟨by show 0 ≤ 2494 * (n1 : Int) + i; omega, by show 2494 * (n1 : Int) + i < 12470; omega⟩ (fun h hM hF => ?_)
      refine x_iinc dX9_record_79 rfl rfl rfl ?_
      refine x_goto dX9_record_82 ?_
      refine ihq (_, i + 1) ⟨by dsimp only; omega, by dsimp only; omega, zU g (2494 * (n1 : Int) + i).toNat (w 3 i.toNat), fun j k hj hk => ?_, fun k hk => ?_, hM⟩ (by dsimp only; omega)
      · rw [zU_n (by omega)]
        exact hg1 j k hj hk
      dsimp only at hk
      by_cases q : k = i.toNat
      · rw [q, show 2494 * n1 + i.toNat = (2494 * (n1 : Int) + i).toNat by omega, zU_s]
      · rw [zU_n (by omega)]
        exact hg k (by omega)
  refine x_aload_n dX9_record_0 rfl ?_
  refine s_get dX9_record_1 fX9_60 hM rfl ?_
  refine x_iconst dX9_record_4 ?_
  refine x_icmp_ne dX9_record_5 ⟨by rw [hn]; omega, by rw [hn]; omega⟩ ⟨by omega, by omega⟩ (fun qc5q => ?_) (fun qc5q => ?_)
  · have qe1q : n ≠ 5 := by omega
    refine K h (w 1) n (by omega) (by rw [if_neg qe1q]) (fun j k hj hk => ?_) ?_ _
    · rw [if_neg qe1q, Nat.add_zero]
    · have qe2q : fU u 0 (n : Int) = u := by
        funext k
        by_cases q : k = 0
        · rw [q, fU_s, hn]
        · rw [fU_n q]
      rw [qe2q]
      exact hM
  · have qe1q : n = 5 := by omega
    refine x_iconst dX9_record_8 ?_
    refine x_istore_n dX9_record_9 rfl rfl rfl ?_
    refine x_loop (fun s : AH × Int => s.1) (fun s => [some (.ref m), some (.int (zI s.2))]) (fun s => 0 ≤ s.2 ∧ s.2 ≤ 9976 ∧ ∃ g : Nat → Int, (∀ k : Nat, g k = if (k : Int) < s.2 then w 1 (k + 2494) else w 1 k) ∧ SO h s.1 m 17 9 (moF m u) (moA (fU w 1 g))) (fun s => (9976 - s.2).toNat) (h, 0) rfl rfl ⟨by dsimp only; omega, by dsimp only; omega, w 1, fun k => by dsimp only; rw [if_neg (by omega)], hM⟩ ?_
    clear hM
    rintro ⟨h2, i⟩ ⟨hi0, hi1, g, hg, hM⟩ ihq
    try dsimp only at *
    refine x_iload_n dX9_record_10 rfl ?_
    refine x_sipush dX9_record_11 (by decide) ?_
    refine x_icmp_ge dX9_record_14 ⟨by omega, by omega⟩ ⟨by omega, by omega⟩ (fun qc14q => ?_) (fun qc14q => ?_)
    · refine x_aload_n dX9_record_39 rfl ?_
      refine x_dup dX9_record_40 rfl ?_
      refine s_get dX9_record_41 fX9_60 hM rfl ?_
      refine x_iconst dX9_record_44 ?_
      refine x_isub dX9_record_45 ?_
      refine s_puti dX9_record_46 fX9_60 hM rfl (fun h hM hF => ?_)
      refine K _ g 4 (by omega) (by rw [if_pos qe1q]) (fun j k hj hk => ?_) ?_ _
      · rw [hg, if_pos (by omega), if_pos qe1q]
        congr 1
        omega
      · have qe2q : u 0 - 1 = ((4 : Nat) : Int) := by rw [hn, qe1q]; rfl
        rw [qe2q] at hM
        exact hM
    · refine x_aload_n dX9_record_17 rfl ?_
      refine s_get dX9_record_18 fX9_13 hM rfl ?_
      refine x_iload_n dX9_record_21 rfl ?_
      refine x_aload_n dX9_record_22 rfl ?_
      refine s_get dX9_record_23 fX9_13 hM rfl ?_
      refine x_iload_n dX9_record_26 rfl ?_
      refine x_sipush dX9_record_27 (by decide) ?_
      refine x_iadd dX9_record_30 ?_
      refine s_iald dX9_record_31 hM rfl rfl ⟨by omega, by omega⟩ ?_
      refine s_iast dX9_record_32 hM rfl rfl ⟨by omega, by omega⟩ (fun h hM hF => ?_)
      refine x_iinc dX9_record_33 rfl rfl rfl ?_
      refine x_goto dX9_record_36 ?_
      refine ihq (_, i + 1) ⟨by dsimp only; omega, by dsimp only; omega, zU g i.toNat (g (i + 2494).toNat), fun k => ?_, hM⟩ (by dsimp only; omega)
      dsimp only
      by_cases q : k = i.toNat
      · rw [q, zU_s, hg, if_neg (by omega), if_pos (by omega), show (i + 2494).toNat = i.toNat + 2494 by omega]
      · rw [zU_n q, hg]
        by_cases q2 : (k : Int) < i
        · rw [if_pos q2, if_pos (by omega)]
        · rw [if_neg q2, if_neg (by omega)]
