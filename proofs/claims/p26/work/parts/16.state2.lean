theorem c_X6_placeAgain (sz : Nat) {h : AH} {q d : Nat} {tx : Nat → List Int} {mk : Nat → Nat} {L : List LK} {pl : List PE} (hSt : StR h q (d, tx, mk, L, pl)) (hD : Dp (kid L) 40 0) {pb : Nat} {bef : List PE} (hBe : PlR h pb bef) (hd : pb + 4 ≤ q ∨ q + 12 ≤ pb) : CC mX6_placeAgain 61 0 0 [.ref q, .ref pb] sz h (QI (fun z h' => ((lyF (kid L) bef 40 1 (-1) (kid L 0)).length ≤ 120 ∧ z = 1 ∧ StR h' q (d, tx, mk, L, lyF (kid L) bef 40 1 (-1) (kid L 0)) ∧ Fr h h' q (q + 12)) ∨ (120 < (lyF (kid L) bef 40 1 (-1) (kid L 0)).length ∧ z = 0 ∧ (∃ pl', StR h' q (d, tx, mk, L, pl')) ∧ Fr h h' q (q + 12)))) := by
  refine CC.intro [some (.ref q), some (.ref pb)] pfX6_placeAgain rfl rfl ?_
  obtain ⟨hS, hN, hL, hP⟩ := hSt
  dsimp only at hN hL hP
  obtain ⟨_, _, _, hPs, -, -⟩ := hP
  refine x_aload_n dX6_placeAgain_0 rfl ?_
  refine s_get dX6_placeAgain_1 fX6_28 hS rfl ?_
  refine x_iconst dX6_placeAgain_4 ?_
  refine s_puti dX6_placeAgain_5 fX6_49 hPs rfl (fun h hPs hF => ?_)
  have hSt1 : StR h q (d, tx, mk, L, []) := ⟨hS.mv hF (by omega), hN.mv hF (by omega), hL.mv hF (by omega), ⟨_, _, _, hPs.st, ⟨by simp, by simp⟩, fun i hi => by simp at hi⟩⟩
  have hF0 := hF.wd (lo' := q) (hi' := q + 12) (by omega) (by omega)
  have hS := hS.mv hF (by omega)
  refine x_aload_n dX6_placeAgain_8 rfl ?_
  refine x_aload_n dX6_placeAgain_9 rfl ?_
  refine x_iconst dX6_placeAgain_10 ?_
  refine x_iconst dX6_placeAgain_11 ?_
  refine x_iconst dX6_placeAgain_12 ?_
  refine i_S dX6_placeAgain_13 lX6_50 (c_X6_grow 40 sz hSt1 (Or.inl ⟨hBe.mv hF (by omega), by omega, by omega, by omega⟩) (z := -1) (old := (-1)) (x := 0) (lev := 1) (by omega) (by simp) rfl hD (by omega) (by omega)) rfl rfl rfl (by decide) (fun r h2 hr => ?_)
  try simp only [List.nil_append] at hr
  have hrr : r = 0 ∨ r = 1 := by rcases hr with q1 | q1 <;> omega
  refine x_zreturn dX6_placeAgain_16 rfl hrr ?_
  refine ⟨_, rfl, ?_⟩
  rcases hr with ⟨q1, q2, q3, q4⟩ | ⟨q1, q2, q3, q4⟩
  · exact Or.inl ⟨q1, q2, q3, hF0.tr (q4.wd (by omega) (by omega))⟩
  · exact Or.inr ⟨q1, q2, q3, hF0.tr (q4.wd (by omega) (by omega))⟩
theorem c_X6_placeAnew (sz : Nat) {h : AH} {q d : Nat} {tx : Nat → List Int} {mk : Nat → Nat} {L : List LK} {pl : List PE} (hSt : StR h q (d, tx, mk, L, pl)) (hD : Dp (kid L) 40 0)  : CC mX6_placeAnew 61 0 0 [.ref q] sz h (QI (fun z h' => ((lyF (kid L) [] 40 1 (-2) (kid L 0)).length ≤ 120 ∧ z = 1 ∧ StR h' q (d, tx, mk, L, lyF (kid L) [] 40 1 (-2) (kid L 0)) ∧ Fr h h' q (q + 12)) ∨ (120 < (lyF (kid L) [] 40 1 (-2) (kid L 0)).length ∧ z = 0 ∧ (∃ pl', StR h' q (d, tx, mk, L, pl')) ∧ Fr h h' q (q + 12)))) := by
  refine CC.intro [some (.ref q)] pfX6_placeAnew rfl rfl ?_
  obtain ⟨hS, hN, hL, hP⟩ := hSt
  dsimp only at hN hL hP
  obtain ⟨_, _, _, hPs, -, -⟩ := hP
  refine x_aload_n dX6_placeAnew_0 rfl ?_
  refine s_get dX6_placeAnew_1 fX6_28 hS rfl ?_
  refine x_iconst dX6_placeAnew_4 ?_
  refine s_puti dX6_placeAnew_5 fX6_49 hPs rfl (fun h hPs hF => ?_)
  have hSt1 : StR h q (d, tx, mk, L, []) := ⟨hS.mv hF (by omega), hN.mv hF (by omega), hL.mv hF (by omega), ⟨_, _, _, hPs.st, ⟨by simp, by simp⟩, fun i hi => by simp at hi⟩⟩
  have hF0 := hF.wd (lo' := q) (hi' := q + 12) (by omega) (by omega)
  have hS := hS.mv hF (by omega)
  refine x_aload_n dX6_placeAnew_8 rfl ?_
  refine x_aload_n dX6_placeAnew_9 rfl ?_
  refine s_get dX6_placeAnew_10 fX6_28 hS rfl ?_
  refine x_iconst dX6_placeAnew_13 ?_
  refine x_bipush dX6_placeAnew_14 (by decide) ?_
  refine x_iconst dX6_placeAnew_16 ?_
  refine i_S dX6_placeAnew_17 lX6_50 (c_X6_grow 40 sz hSt1 (Or.inr ⟨rfl, rfl, rfl⟩) (z := -1) (old := (-2)) (x := 0) (lev := 1) (by omega) (by simp) rfl hD (by omega) (by omega)) rfl rfl rfl (by decide) (fun r h2 hr => ?_)
  try simp only [List.nil_append] at hr
  have hrr : r = 0 ∨ r = 1 := by rcases hr with q1 | q1 <;> omega
  refine x_zreturn dX6_placeAnew_20 rfl hrr ?_
  refine ⟨_, rfl, ?_⟩
  rcases hr with ⟨q1, q2, q3, q4⟩ | ⟨q1, q2, q3, q4⟩
  · exact Or.inl ⟨q1, q2, q3, hF0.tr (q4.wd (by omega) (by omega))⟩
  · exact Or.inr ⟨q1, q2, q3, hF0.tr (q4.wd (by omega) (by omega))⟩
-- how many bits are set
def popN (n : Nat) : Nat := cB (fun k => n.testBit k) 48
def ds : List Nat → Nat
  | [] => 0
  | b :: l => b + 256 * ds l
theorem and_256 (x y : Nat) : x &&& y = (x % 256 &&& y % 256) + 256 * (x / 256 &&& y / 256) := by
  have h1 : (x &&& y) % 2 ^ 8 = x % 2 ^ 8 &&& y % 2 ^ 8 := Nat.and_mod_two_pow
  have h2 : (x &&& y) / 2 ^ 8 = x / 2 ^ 8 &&& y / 2 ^ 8 := Nat.and_div_two_pow
  have h3 := Nat.mod_add_div (x &&& y) 256
  rw [show (2 : Nat) ^ 8 = 256 from rfl] at h1 h2
  rw [h1, h2] at h3
  exact h3.symm
theorem and_ds (a m b k : Nat) (ha : a < 256) (hb : b < 256) : (a + 256 * m) &&& (b + 256 * k) = (a &&& b) + 256 * (m &&& k) := by
  rw [and_256, show (a + 256 * m) % 256 = a by omega, show (b + 256 * k) % 256 = b by omega, show (a + 256 * m) / 256 = m by omega, show (b + 256 * k) / 256 = k by omega]
def f1 (b : Nat) : Nat := b - (b / 2 &&& 85)
def f2 (b : Nat) : Nat := (b &&& 51) + (b / 4 &&& 51)
def f3 (b : Nat) : Nat := b % 16 + b / 16
theorem k1 : ∀ b, b < 256 → (b / 2 &&& 85 = (b / 2 + 128) &&& 85) ∧ (b / 2 &&& 85) ≤ b ∧ f1 b < 256 := by decide +kernel
theorem k2 : ∀ b, b < 256 → ∀ r, r < 4 → (b / 4 &&& 51 = (b / 4 + 64 * r) &&& 51) ∧ f2 b < 256 := by decide +kernel
theorem k3 : ∀ b, b < 256 → (f2 (f1 b)) % 16 ≤ 4 ∧ (f2 (f1 b)) / 16 ≤ 4 ∧ f3 (f2 (f1 b)) = cB (fun k => b.testBit k) 8 := by decide +kernel
theorem k4 : ∀ b, b < 256 → b % 16 ≤ 4 → b / 16 ≤ 4 → ∀ r, r < 5 → (b + b / 16 + 16 * r) &&& 15 = f3 b := by decide +kernel
theorem A1 : ∀ l : List Nat, (∀ b ∈ l, b < 256) → (ds l / 2 &&& ds (l.map fun _ => 85)) ≤ ds l ∧ ds l - (ds l / 2 &&& ds (l.map fun _ => 85)) = ds (l.map f1)
  | [], _ => ⟨by simp [ds], rfl⟩
  | b :: l, h => by
    obtain ⟨h1, h2⟩ := A1 l (fun c hc => h c (List.mem_cons_of_mem _ hc))
    obtain ⟨p1, p2, p3⟩ := k1 b (h b List.mem_cons_self)
    have hb := h b List.mem_cons_self
    have hk : ds (b :: l) / 2 &&& ds ((b :: l).map fun _ => 85) = (b / 2 &&& 85) + 256 * (ds l / 2 &&& ds (l.map fun _ => 85)) := by
      show (b + 256 * ds l) / 2 &&& (85 + 256 * ds (l.map fun _ => 85)) = _
      rcases Nat.mod_two_eq_zero_or_one (ds l) with q | q
      · rw [show (b + 256 * ds l) / 2 = b / 2 + 256 * (ds l / 2) by omega, and_ds _ _ _ _ (by omega) (by omega)]
      · rw [show (b + 256 * ds l) / 2 = (b / 2 + 128) + 256 * (ds l / 2) by omega, and_ds _ _ _ _ (by omega) (by omega), p1]
    rw [hk]
    show _ ≤ b + 256 * ds l ∧ b + 256 * ds l - _ = f1 b + 256 * ds (l.map f1)
    unfold f1
    refine ⟨by omega, ?_⟩
    show _ = b - (b / 2 &&& 85) + 256 * ds (l.map f1)
    rw [← h2]
    omega
theorem A2 : ∀ l : List Nat, (∀ b ∈ l, b < 256) → (ds l &&& ds (l.map fun _ => 51)) + (ds l / 4 &&& ds (l.map fun _ => 51)) = ds (l.map f2)
  | [], _ => rfl
  | b :: l, h => by
    have h2 := A2 l (fun c hc => h c (List.mem_cons_of_mem _ hc))
    have hb := h b List.mem_cons_self
    obtain ⟨p1, p3⟩ := k2 b hb (ds l % 4) (Nat.mod_lt _ (by omega))
    show ((b + 256 * ds l) &&& (51 + 256 * ds (l.map fun _ => 51))) + ((b + 256 * ds l) / 4 &&& (51 + 256 * ds (l.map fun _ => 51))) = f2 b + 256 * ds (l.map f2)
    rw [and_ds _ _ _ _ hb (by omega), show (b + 256 * ds l) / 4 = (b / 4 + 64 * (ds l % 4)) + 256 * (ds l / 4) by omega, and_ds _ _ _ _ (by omega) (by omega), ← p1, ← h2]
    unfold f2
    omega
theorem A3 : ∀ l : List Nat, (∀ b ∈ l, b < 256 ∧ b % 16 ≤ 4 ∧ b / 16 ≤ 4) → ds l % 16 ≤ 4 ∧ (ds l + ds l / 16) &&& ds (l.map fun _ => 15) = ds (l.map f3)
  | [], _ => ⟨by simp [ds], rfl⟩
  | b :: l, h => by
    obtain ⟨h1, h2⟩ := A3 l (fun c hc => h c (List.mem_cons_of_mem _ hc))
    obtain ⟨hb, hb1, hb2⟩ := h b List.mem_cons_self
    have p := k4 b hb hb1 hb2 (ds l % 16) (by omega)
    refine ⟨by show (b + 256 * ds l) % 16 ≤ 4; omega, ?_⟩
    show (b + 256 * ds l) + (b + 256 * ds l) / 16 &&& (15 + 256 * ds (l.map fun _ => 15)) = f3 b + 256 * ds (l.map f3)
    rw [show (b + 256 * ds l) + (b + 256 * ds l) / 16 = (b + b / 16 + 16 * (ds l % 16)) + 256 * (ds l + ds l / 16) by omega, and_ds _ _ _ _ (by omega) (by omega), p, h2]
theorem cB_split (p : Nat → Bool) (m : Nat) : ∀ n, cB p (m + n) = cB p m + cB (fun k => p (m + k)) n
  | 0 => rfl
  | n + 1 => by rw [← Nat.add_assoc, cB_s, cB_s, cB_split p m n]; omega
theorem tb_lo {b m k : Nat} (hb : b < 256) (hk : k < 8) : (b + 256 * m).testBit k = b.testBit k := by
  have h1 := Nat.testBit_mod_two_pow (b + 256 * m) 8 k
  rw [show (2 : Nat) ^ 8 = 256 from rfl, show (b + 256 * m) % 256 = b by omega] at h1
  rw [h1]
  simp [hk]
theorem tb_hi {b m k : Nat} (hb : b < 256) : (b + 256 * m).testBit (8 + k) = m.testBit k := by
  rw [Nat.add_comm 8 k, ← Nat.testBit_div_two_pow (n := 8), show (2 : Nat) ^ 8 = 256 from rfl, show (b + 256 * m) / 256 = m by omega]
theorem pop_ds : ∀ l : List Nat, (∀ b ∈ l, b < 256) → cB (fun k => (ds l).testBit k) (8 * l.length) = (l.map fun b => f3 (f2 (f1 b))).sum
  | [], _ => rfl
  | b :: l, h => by
    have hb := h b List.mem_cons_self
    have h2 := pop_ds l (fun c hc => h c (List.mem_cons_of_mem _ hc))
    rw [List.length_cons, show 8 * (l.length + 1) = 8 + 8 * l.length by omega, cB_split]
    show cB (fun k => (b + 256 * ds l).testBit k) 8 + cB (fun k => (b + 256 * ds l).testBit (8 + k)) (8 * l.length) = _
    rw [cB_cong (q := fun k => b.testBit k) (fun k hk => tb_lo hb hk), cB_cong (q := fun k => (ds l).testBit k) (fun k _ => tb_hi hb), h2, ← (k3 b hb).2.2]
    rfl
theorem lN_sub' {a b : Nat} (h : b ≤ a) : lN a - lN b = lN (a - b) := lN_sub h
theorem sm63 : ((zI 1).toInt64.toUInt64 &&& Int64.toUInt64 63).toNat % 64 = 1 ∧ ((zI 2).toInt64.toUInt64 &&& Int64.toUInt64 63).toNat % 64 = 2 ∧ ((zI 4).toInt64.toUInt64 &&& Int64.toUInt64 63).toNat % 64 = 4 ∧ ((zI 8).toInt64.toUInt64 &&& Int64.toUInt64 63).toNat % 64 = 8 ∧ ((zI 16).toInt64.toUInt64 &&& Int64.toUInt64 63).toNat % 64 = 16 ∧ ((zI 32).toInt64.toUInt64 &&& Int64.toUInt64 63).toNat % 64 = 32 := by decide +kernel
theorem pf_ushr {a d : Nat} {D : UInt64} (hD : D.toNat % 64 = d) (h : a < 2 ^ 62) : ((lN a).toUInt64 >>> D).toInt64 = lN (a / 2 ^ d) := by
  have hd : a / 2 ^ d ≤ a := Nat.div_le_self _ _
  have e : (lN a).toUInt64 >>> D = UInt64.ofNat (a / 2 ^ d) := UInt64.toNat_inj.mp (by
    rw [UInt64.toNat_shiftRight, hD, Nat.shiftRight_eq_div_pow, UInt64.toNat_ofNat']
    show (UInt64.ofNat a).toNat / 2 ^ d = _
    rw [UInt64.toNat_ofNat', Nat.mod_eq_of_lt (by omega), Nat.mod_eq_of_lt (by omega)])
  rw [e]
  rfl
theorem six (n : Nat) (h : n < 2 ^ 41) : ∃ b0 b1 b2 b3 b4 b5 : Nat, n = ds [b0, b1, b2, b3, b4, b5] ∧ b0 < 256 ∧ b1 < 256 ∧ b2 < 256 ∧ b3 < 256 ∧ b4 < 256 ∧ b5 < 256 := by
  refine ⟨n % 256, n / 256 % 256, n / 65536 % 256, n / 16777216 % 256, n / 4294967296 % 256, n / 1099511627776 % 256, ?_, by omega, by omega, by omega, by omega, by omega, by omega⟩
  show n = n % 256 + 256 * (n / 256 % 256 + 256 * (n / 65536 % 256 + 256 * (n / 16777216 % 256 + 256 * (n / 4294967296 % 256 + 256 * (n / 1099511627776 % 256 + 256 * 0)))))
  omega
theorem mask_lo {n m k : Nat} (h : n < 2 ^ k) : n &&& m = n &&& (m % 2 ^ k) := by
  apply Nat.eq_of_testBit_eq
  intro i
  rw [Nat.testBit_and, Nat.testBit_and, Nat.testBit_mod_two_pow]
  by_cases q : i < k
  · simp [q]
  · have : n.testBit i = false := Nat.testBit_lt_two_pow (Nat.lt_of_lt_of_le h (Nat.pow_le_pow_right (by omega) (by omega)))
    simp [this]
/-- the steps of Long.bitCount -/
theorem pop_steps (n : Nat) (h : n < 2 ^ 41) : ∃ x1 x2 x3 : Nat, (n / 2 &&& 6148914691236517205) ≤ n ∧ n - (n / 2 &&& 6148914691236517205) = x1 ∧ (x1 &&& 3689348814741910323) + (x1 / 4 &&& 3689348814741910323) = x2 ∧ (x2 + x2 / 16) &&& 1085102592571150095 = x3 ∧ x1 < 2 ^ 48 ∧ x2 < 2 ^ 48 ∧ x3 < 2 ^ 48 ∧ (let x4 := x3 + x3 / 2 ^ 8; let x5 := x4 + x4 / 2 ^ 16; let x6 := x5 + x5 / 2 ^ 32; x6 < 2 ^ 50 ∧ x6 % 128 = popN n) := by
  obtain ⟨b0, b1, b2, b3, b4, b5, e, h0, h1, h2, h3, h4, h5⟩ := six n h
  have hl : ∀ b ∈ [b0, b1, b2, b3, b4, b5], b < 256 := by simp; omega
  have a1 := A1 _ hl
  have hl1 : ∀ b ∈ [b0, b1, b2, b3, b4, b5].map f1, b < 256 := by
    intro b hb
    obtain ⟨c, hc, rfl⟩ := List.mem_map.mp hb
    exact (k1 c (hl c hc)).2.2
  have a2 := A2 _ hl1
  have hl2 : ∀ b ∈ ([b0, b1, b2, b3, b4, b5].map f1).map f2, b < 256 ∧ b % 16 ≤ 4 ∧ b / 16 ≤ 4 := by
    intro b hb
    obtain ⟨c, hc, rfl⟩ := List.mem_map.mp hb
    obtain ⟨c', hc', rfl⟩ := List.mem_map.mp hc
    exact ⟨(k2 _ (hl1 _ hc) 0 (by omega)).2, (k3 c' (hl c' hc')).1, (k3 c' (hl c' hc')).2.1⟩
  have a3 := A3 _ hl2
  have hp := pop_ds _ hl
  rw [← e] at a1 hp
  have m1 : (ds ([b0, b1, b2, b3, b4, b5].map fun _ => 85)) = 6148914691236517205 % 2 ^ 48 := by
    show ds [85, 85, 85, 85, 85, 85] = _
    decide +kernel
  have m2 : (ds (([b0, b1, b2, b3, b4, b5].map f1).map fun _ => 51)) = 3689348814741910323 % 2 ^ 48 := by
    show ds [51, 51, 51, 51, 51, 51] = _
    decide +kernel
  have m3 : (ds ((([b0, b1, b2, b3, b4, b5].map f1).map f2).map fun _ => 15)) = 1085102592571150095 % 2 ^ 48 := by
    show ds [15, 15, 15, 15, 15, 15] = _
    decide +kernel
  have dlt : ∀ a b c d e f : Nat, a < 256 → b < 256 → c < 256 → d < 256 → e < 256 → f < 256 → ds [a, b, c, d, e, f] < 2 ^ 48 := by
    intro a b c d e f ha hb hc hd he hf
    show a + 256 * (b + 256 * (c + 256 * (d + 256 * (e + 256 * (f + 256 * 0))))) < 281474976710656
    omega
  have L1 : ds ([b0, b1, b2, b3, b4, b5].map f1) < 2 ^ 48 := dlt _ _ _ _ _ _ (k1 b0 h0).2.2 (k1 b1 h1).2.2 (k1 b2 h2).2.2 (k1 b3 h3).2.2 (k1 b4 h4).2.2 (k1 b5 h5).2.2
  have g : ∀ b, b < 256 → f2 (f1 b) < 256 ∧ f2 (f1 b) % 16 ≤ 4 ∧ f2 (f1 b) / 16 ≤ 4 := fun b hb => ⟨(k2 _ (k1 b hb).2.2 0 (by omega)).2, (k3 b hb).1, (k3 b hb).2.1⟩
  have L2 : ds (([b0, b1, b2, b3, b4, b5].map f1).map f2) < 2 ^ 48 := dlt _ _ _ _ _ _ (g b0 h0).1 (g b1 h1).1 (g b2 h2).1 (g b3 h3).1 (g b4 h4).1 (g b5 h5).1
  have g3 : ∀ b, b < 256 → f3 (f2 (f1 b)) ≤ 8 := fun b hb => by
    have := g b hb
    unfold f3
    omega
  have L3 : ds ((([b0, b1, b2, b3, b4, b5].map f1).map f2).map f3) < 2 ^ 48 := dlt _ _ _ _ _ _ (by have := g3 b0 h0; omega) (by have := g3 b1 h1; omega) (by have := g3 b2 h2; omega) (by have := g3 b3 h3; omega) (by have := g3 b4 h4; omega) (by have := g3 b5 h5; omega)
  have w1 : n / 2 &&& 6148914691236517205 = n / 2 &&& ds ([b0, b1, b2, b3, b4, b5].map fun _ => 85) := by
    rw [m1]
    exact mask_lo (by omega)
  have hd4 : ds ([b0, b1, b2, b3, b4, b5].map f1) / 4 < 2 ^ 48 := Nat.lt_of_le_of_lt (Nat.div_le_self _ _) L1
  have g4 : ∀ b, b < 256 → f2 (f1 b) ≤ 68 := fun b hb => by
    have := g b hb
    omega
  have L2' : ds (([b0, b1, b2, b3, b4, b5].map f1).map f2) < 2 ^ 47 := by
    show f2 (f1 b0) + 256 * (f2 (f1 b1) + 256 * (f2 (f1 b2) + 256 * (f2 (f1 b3) + 256 * (f2 (f1 b4) + 256 * (f2 (f1 b5) + 256 * 0))))) < 140737488355328
    have := g4 b0 h0
    have := g4 b1 h1
    have := g4 b2 h2
    have := g4 b3 h3
    have := g4 b4 h4
    have := g4 b5 h5
    omega
  refine ⟨_, _, _, by rw [w1]; exact a1.1, by rw [w1]; exact a1.2, by rw [mask_lo (k := 48) L1, mask_lo (k := 48) hd4, ← m2]; exact a2, by rw [mask_lo (k := 48) (m := 1085102592571150095) (by omega), ← m3]; exact a3.2, L1, L2, L3, ?_⟩
  have hs : ds ((([b0, b1, b2, b3, b4, b5].map f1).map f2).map f3) = f3 (f2 (f1 b0)) + 256 * (f3 (f2 (f1 b1)) + 256 * (f3 (f2 (f1 b2)) + 256 * (f3 (f2 (f1 b3)) + 256 * (f3 (f2 (f1 b4)) + 256 * (f3 (f2 (f1 b5)) + 256 * 0))))) := rfl
  have hsum : popN n = f3 (f2 (f1 b0)) + (f3 (f2 (f1 b1)) + (f3 (f2 (f1 b2)) + (f3 (f2 (f1 b3)) + (f3 (f2 (f1 b4)) + (f3 (f2 (f1 b5)) + 0))))) := hp
  have v0 := g3 b0 h0
  have v1 := g3 b1 h1
  have v2 := g3 b2 h2
  have v3 := g3 b3 h3
  have v4 := g3 b4 h4
  have v5 := g3 b5 h5
  rw [hs, hsum]
  generalize f3 (f2 (f1 b0)) = y0 at *
  generalize f3 (f2 (f1 b1)) = y1 at *
  generalize f3 (f2 (f1 b2)) = y2 at *
  generalize f3 (f2 (f1 b3)) = y3 at *
  generalize f3 (f2 (f1 b4)) = y4 at *
  generalize f3 (f2 (f1 b5)) = y5 at *
  clear hs hsum L1 L2 L2' L3 w1 a1 a2 a3 hp hl1 hl2 m1 m2 m3 g g3 g4 hd4 dlt e
  dsimp only
  generalize hx : y0 + 256 * (y1 + 256 * (y2 + 256 * (y3 + 256 * (y4 + 256 * (y5 + 256 * 0))))) = x3
  have d1 : x3 / 2 ^ 8 = y1 + 256 * (y2 + 256 * (y3 + 256 * (y4 + 256 * y5))) := by omega
  rw [d1]
  generalize hx4 : x3 + (y1 + 256 * (y2 + 256 * (y3 + 256 * (y4 + 256 * y5)))) = x4
  have d2 : x4 / 2 ^ 16 = (y2 + y3) + 256 * ((y3 + y4) + 256 * ((y4 + y5) + 256 * y5)) := by omega
  rw [d2]
  generalize hx5 : x4 + ((y2 + y3) + 256 * ((y3 + y4) + 256 * ((y4 + y5) + 256 * y5))) = x5
  have d3 : x5 / 2 ^ 32 = (y4 + y5) + 256 * y5 := by omega
  rw [d3]
  omega

theorem lN_i32 (a : Nat) : (lN a).toInt32 = zI (a : Int) := by
  rw [zI_nat]
  exact lN_i a
theorem and127 (a : Nat) : zI (a : Int) &&& zI 127 = zI ((a % 128 : Nat) : Int) := by
  rw [zI_nat, zI_nat, show zI 127 = Int32.ofNat 127 from rfl]
  apply Int32.toBitVec_inj.mp
  rw [show a % 128 = a &&& 127 from (Nat.and_two_pow_sub_one_eq_mod a 7).symm]
  simp [Int32.toBitVec_and, BitVec.ofNat_and]
theorem c_J13_bitCount_95d88 (sz : Nat) (h : AH) {n : Nat} (hn : n < 2 ^ 41) : CC mJ13_bitCount_95d88 0 0 0 [.long (lN n)] sz h (QR (popN n) h) := by
  refine CC.intro [some (.long (lN n)), none] pfJ13_bitCount_95d88 rfl rfl ?_
  obtain ⟨x1, x2, x3, h0, h1, h2, h3, l1, l2, l3, h4⟩ := pop_steps n hn
  obtain ⟨s1, s2, s4, s8, s16, s32⟩ := sm63
  dsimp only at h4
  refine x_lload_n dJ13_bitCount_95d88_0 rfl ?_
  refine x_lload_n dJ13_bitCount_95d88_1 rfl ?_
  refine x_iconst dJ13_bitCount_95d88_2 ?_
  refine x_lushr dJ13_bitCount_95d88_3 (pf_ushr s1 (by omega)) ?_
  refine x_ldc2 dJ13_bitCount_95d88_4 clJ13_314 ?_
  refine x_land dJ13_bitCount_95d88_7 (lN_and _ _) ?_
  refine x_lsub dJ13_bitCount_95d88_8 (v := lN x1) (by rw [Nat.pow_one, lN_sub' h0, h1]) ?_
  refine x_lstore_n dJ13_bitCount_95d88_9 rfl rfl rfl ?_
  refine x_lload_n dJ13_bitCount_95d88_10 rfl ?_
  refine x_ldc2 dJ13_bitCount_95d88_11 clJ13_316 ?_
  refine x_land dJ13_bitCount_95d88_14 (lN_and _ _) ?_
  refine x_lload_n dJ13_bitCount_95d88_15 rfl ?_
  refine x_iconst dJ13_bitCount_95d88_16 ?_
  refine x_lushr dJ13_bitCount_95d88_17 (pf_ushr s2 (by omega)) ?_
  refine x_ldc2 dJ13_bitCount_95d88_18 clJ13_316 ?_
  refine x_land dJ13_bitCount_95d88_21 (lN_and _ _) ?_
  refine x_ladd dJ13_bitCount_95d88_22 (v := lN x2) (by rw [lN_add, show 2 ^ 2 = 4 from rfl, h2]) ?_
  refine x_lstore_n dJ13_bitCount_95d88_23 rfl rfl rfl ?_
  refine x_lload_n dJ13_bitCount_95d88_24 rfl ?_
  refine x_lload_n dJ13_bitCount_95d88_25 rfl ?_
  refine x_iconst dJ13_bitCount_95d88_26 ?_
  refine x_lushr dJ13_bitCount_95d88_27 (pf_ushr s4 (by omega)) ?_
  refine x_ladd dJ13_bitCount_95d88_28 (lN_add _ _) ?_
  refine x_ldc2 dJ13_bitCount_95d88_29 clJ13_318 ?_
  refine x_land dJ13_bitCount_95d88_32 (v := lN x3) (by show lN (x2 + x2 / 2 ^ 4) &&& lN 1085102592571150095 = lN x3; rw [lN_and, show 2 ^ 4 = 16 from rfl, h3]) ?_
  refine x_lstore_n dJ13_bitCount_95d88_33 rfl rfl rfl ?_
  refine x_lload_n dJ13_bitCount_95d88_34 rfl ?_
  refine x_lload_n dJ13_bitCount_95d88_35 rfl ?_
  refine x_bipush dJ13_bitCount_95d88_36 (by decide) ?_
  refine x_lushr dJ13_bitCount_95d88_38 (pf_ushr s8 (by omega)) ?_
  refine x_ladd dJ13_bitCount_95d88_39 (lN_add _ _) ?_
  refine x_lstore_n dJ13_bitCount_95d88_40 rfl rfl rfl ?_
  refine x_lload_n dJ13_bitCount_95d88_41 rfl ?_
  refine x_lload_n dJ13_bitCount_95d88_42 rfl ?_
  refine x_bipush dJ13_bitCount_95d88_43 (by decide) ?_
  refine x_lushr dJ13_bitCount_95d88_45 (pf_ushr s16 (by omega)) ?_
  refine x_ladd dJ13_bitCount_95d88_46 (lN_add _ _) ?_
  refine x_lstore_n dJ13_bitCount_95d88_47 rfl rfl rfl ?_
  refine x_lload_n dJ13_bitCount_95d88_48 rfl ?_
  refine x_lload_n dJ13_bitCount_95d88_49 rfl ?_
  refine x_bipush dJ13_bitCount_95d88_50 (by decide) ?_
  refine x_lushr dJ13_bitCount_95d88_52 (pf_ushr s32 (by omega)) ?_
  refine x_ladd dJ13_bitCount_95d88_53 (lN_add _ _) ?_
  refine x_lstore_n dJ13_bitCount_95d88_54 rfl rfl rfl ?_
  refine x_lload_n dJ13_bitCount_95d88_55 rfl ?_
  refine x_l2i dJ13_bitCount_95d88_56 (lN_i32 _) ?_
  refine x_bipush dJ13_bitCount_95d88_57 (by decide) ?_
  refine x_iand dJ13_bitCount_95d88_59 (and127 _) ?_
  refine x_ireturn dJ13_bitCount_95d88_60 rfl ?_
  exact ⟨by rw [h4.2], rfl⟩
theorem lN_xor (a b : Nat) : lN a ^^^ lN b = lN (a ^^^ b) := by
  apply Int64.toBitVec_inj.mp
  simp [lN, Int64.toBitVec_xor, BitVec.ofNat_xor]
theorem nbs_diff (a b : List Nat) (ha : ∀ x ∈ a, x ≤ 40) : lN (nbs a) &&& (lN (nbs b) ^^^ (-1)) = lN (nbs (a.filter (fun x => decide (x ∉ b)))) := by
  rw [show (-1 : Int64) = lN (2 ^ 64 - 1) from rfl, lN_xor, lN_and]
  congr 1
  apply Nat.eq_of_testBit_eq
  intro i
  rw [Nat.testBit_and, Nat.testBit_xor, Nat.testBit_two_pow_sub_one, nbs_bit, nbs_bit, nbs_bit]
  by_cases q : i ∈ a
  · have := ha i q
    by_cases q2 : i ∈ b
    · simp [q, q2]
      omega
    · simp [q, q2]
      omega
  · simp [q]
theorem nbs_root (l : List Nat) : lN (nbs l) ||| Int64.ofNat 1 = lN (nbs (l ++ [0])) := by
  rw [nbs_app]
  exact lN_or _ _
theorem pop_nbs (l : List Nat) : popN (nbs l) = cB (fun k => decide (k ∈ l)) 48 := cB_cong (fun k _ => nbs_bit l k)

theorem c_X6_dropVanished (sz : Nat) {h : AH} {q d : Nat} {tx : Nat → List Int} {mk : Nat → Nat} {L : List LK} {pl : List PE} (hSt : StR h q (d, tx, mk, L, pl)) {bl : List Nat} (hbl : ∀ x ∈ bl, x ≤ 40) : CC mX6_dropVanished 5 0 0 [.ref q, .long (lN (nbs bl))] sz h (QI (fun z h' => z = (cB (fun k => decide (k ∈ bl.filter (fun x => decide (x ∉ pWit pl (-1))))) 48 : Nat) ∧ StR h' q (d, tx, mk, L.filter (fun e => decide (e.1 ∈ pWit pl (-1) ++ [0])), pl) ∧ Fr h h' q (q + 12))) := by
  refine CC.intro [some (.ref q), some (.long (lN (nbs bl))), none, none, none] pfX6_dropVanished rfl rfl ?_
  obtain ⟨hS, hN, hL, hP⟩ := hSt
  dsimp only at hN hL hP
  obtain ⟨_, _, _, hPs⟩ := hP.so
  obtain ⟨_, _, hLs⟩ := hL.so
  have hn40 : ∀ x ∈ pWit pl (-1), x ≤ 40 := nds_40 hP.B _ _
  refine x_aload_n dX6_dropVanished_0 rfl ?_
  refine s_get dX6_dropVanished_1 fX6_28 hS rfl ?_
  refine l_V dX6_dropVanished_4 lX6_76 (c_X3_nodeSet sz hP) hPs.1 rfl rfl rfl rfl (by decide) ?_
  refine x_lstore_n dX6_dropVanished_7 rfl rfl rfl ?_
  refine x_aload_n dX6_dropVanished_8 rfl ?_
  refine s_get dX6_dropVanished_9 fX6_21 hS rfl ?_
  refine x_lload_n dX6_dropVanished_12 rfl ?_
  refine x_lconst dX6_dropVanished_13 rfl ?_
  refine x_lor dX6_dropVanished_14 (nbs_root _) ?_
  refine v_V dX6_dropVanished_15 lX6_80 (c_X1_keepParents sz hL (l := pWit pl (-1) ++ [0]) (fun x hx => (List.mem_append.mp hx).elim (hn40 x) (fun q1 => by rw [List.mem_singleton.mp q1]; omega))) hLs.1 rfl rfl rfl rfl (by decide) (fun h ⟨hL, hF⟩ => ?_)
  refine x_lload_n dX6_dropVanished_18 rfl ?_
  refine x_lload_n dX6_dropVanished_19 rfl ?_
  refine x_ldc2 dX6_dropVanished_20 clX6_84 ?_
  refine x_lxor dX6_dropVanished_23 rfl ?_
  refine x_land dX6_dropVanished_24 (nbs_diff _ _ hbl) ?_
  refine p_S dX6_dropVanished_25 lX6_86 (c_J13_bitCount_95d88 sz h (n := nbs (bl.filter (fun x => decide (x ∉ pWit pl (-1))))) (nbs_lt _ (fun x hx => hbl x (List.mem_filter.mp hx).1))) rfl rfl rfl (by decide) ?_
  refine x_ireturn dX6_dropVanished_28 rfl ?_
  exact ⟨_, rfl, by rw [pop_nbs], ⟨hS.mv hF (by omega), hN.mv hF (by omega), hL, hP.mv hF (by omega)⟩, hF.wd (by omega) (by omega)⟩
