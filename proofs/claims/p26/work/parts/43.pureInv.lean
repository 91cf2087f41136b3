/-! PURE: what holds of every state -/
def InvK (d : Nat) (K : Nat → List Nat) : Prop := d ≤ 40 ∧ Rnk K ∧ (∀ x, (K x).Nodup) ∧ ∀ x, ∀ y ∈ K x, (x ≤ d ∧ 1 ≤ y ∧ y ≤ d) ∧ Rc K 0 x
def InvS (S : CS) : Prop := InvK S.1 (kid S.2.2.2.1) ∧ skL S.2.2.2.2 = skF (kid S.2.2.2.1) 40 1 (kid S.2.2.2.1 0)
theorem InvK.dp {d : Nat} {K : Nat → List Nat} (h : InvK d K) : Dp K 40 0 := h.2.1.dp (fun x y hy => by have h1 := (h.2.2.2 x y hy).1; have h2 := h.1; omega)
theorem InvK.kb {d : Nat} {K : Nat → List Nat} (h : InvK d K) : KB d K := ⟨h.1, fun x _ => ⟨by
  have h1 := nd_len (n := d) (h.2.2.1 x) (fun y hy => (h.2.2.2 x y hy).1.2)
  have h2 := h.1
  omega, fun y hy => (h.2.2.2 x y hy).1.2⟩⟩
theorem InvK.rcd {d : Nat} {K : Nat → List Nat} (h : InvK d K) {a y : Nat} (ha : a ≤ d) (hy : Rc K a y) : y ≤ d := by
  obtain ⟨n, hn⟩ := hy
  cases n with
  | zero =>
    have q : y = a := hn
    omega
  | succ n =>
    obtain ⟨z, h1, h3⟩ := hn
    exact (h.2.2.2 z y h3).1.2.2
theorem InvK.no0 {d : Nat} {K : Nat → List Nat} (h : InvK d K) {a : Nat} (hy : Rc K a 0) : a = 0 := by
  obtain ⟨n, hn⟩ := hy
  cases n with
  | zero =>
    have q : 0 = a := hn
    omega
  | succ n =>
    obtain ⟨z, h1, h3⟩ := hn
    have := (h.2.2.2 z 0 h3).1
    omega
theorem InvK.out {d : Nat} {K : Nat → List Nat} (h : InvK d K) {a : Nat} (ha : d < a) : K a = [] := by
  cases q : K a with
  | nil => rfl
  | cons y l =>
    have := (h.2.2.2 a y (by rw [q]; exact List.mem_cons_self)).1
    omega
theorem InvK.top {d : Nat} {K : Nat → List Nat} (h : InvK d K) (x : Nat) : x ∈ (skF K 40 1 (K 0)).map (·.1) ↔ (x ≠ 0 ∧ Rc K 0 x) := by
  rw [sk_mem 40 1 (K 0) (fun y hy => Dp_kid h.dp hy) x]
  constructor
  · rintro ⟨y, h1, h2⟩
    refine ⟨fun q => ?_, Rc.hd h1 h2⟩
    rw [q] at h2
    have h3 := h.no0 h2
    have h4 := (h.2.2.2 0 y h1).1
    omega
  · rintro ⟨h1, h2⟩
    rcases h2.un with q | q
    · exact absurd q.symm h1
    · exact q
theorem pl_mem {pl : List PE} {y : Nat} : y ∈ (skL pl).map (·.1) ↔ ∃ k, k < pl.length ∧ pn pl k = y := by
  constructor
  · intro h
    obtain ⟨q, h1, h2⟩ := List.mem_map.mp h
    obtain ⟨k, hk⟩ := List.getElem?_of_mem h1
    have hk1 : k < pl.length := by
      rw [← skL_len]
      exact (List.getElem?_eq_some_iff.mp hk).1
    refine ⟨k, hk1, ?_⟩
    rw [skL_get hk1] at hk
    rw [← h2, ← Option.some.inj hk]
  · rintro ⟨k, h1, h2⟩
    exact List.mem_map.mpr ⟨_, List.mem_of_getElem? (skL_get h1), h2⟩
theorem InvS.at {S : CS} (h : InvS S) (y : Nat) : (∃ k, k < S.2.2.2.2.length ∧ pn S.2.2.2.2 k = y) ↔ (y ≠ 0 ∧ Rc (kid S.2.2.2.1) 0 y) := by
  rw [← pl_mem, h.2]
  exact h.1.top y
theorem InvS.al {S : CS} (h : InvS S) (x : Nat) : alv S.2.2.2.2 x ↔ Rc (kid S.2.2.2.1) 0 x := by
  have h1 := h.at x
  constructor
  · rintro (q | q)
    · rw [q]
      exact Rc.rf _ _
    · rcases pFst_r S.2.2.2.2 (x : Int) with a | ⟨a1, a2, a3⟩
      · exact absurd a.1 q
      · refine (h1.mp ⟨(pFst S.2.2.2.2 x).toNat, by omega, ?_⟩).2
        unfold gN at a3
        rw [if_pos a1] at a3
        omega
  · intro q
    by_cases hx : x = 0
    · exact Or.inl hx
    · right
      obtain ⟨k, k1, k2⟩ := h1.mpr ⟨hx, q⟩
      rcases pFst_r S.2.2.2.2 (x : Int) with a | ⟨a1, a2, a3⟩
      · exact absurd (by omega) (a.2 k k1)
      · omega
theorem InvS.nd {S : CS} (h : InvS S) {z : Int} (h0 : 0 ≤ z) (h1 : z < S.2.2.2.2.length) : 1 ≤ (gN S.2.2.2.2 z).toNat ∧ (gN S.2.2.2.2 z).toNat ≤ S.1 ∧ Rc (kid S.2.2.2.1) 0 (gN S.2.2.2.2 z).toNat ∧ gN S.2.2.2.2 z = ((gN S.2.2.2.2 z).toNat : Int) ∧ (gN S.2.2.2.2 z).toNat = pn S.2.2.2.2 z.toNat := by
  have h2 := (h.at (pn S.2.2.2.2 z.toNat)).mp ⟨z.toNat, by omega, rfl⟩
  have h3 : gN S.2.2.2.2 z = (pn S.2.2.2.2 z.toNat : Int) := by
    unfold gN
    rw [if_pos h0]
  have h4 : (gN S.2.2.2.2 z).toNat = pn S.2.2.2.2 z.toNat := by omega
  rw [h4]
  exact ⟨by omega, h.1.rcd (Nat.zero_le _) h2.2, h2.2, h3, rfl⟩
theorem InvS.nr {S : CS} (h : InvS S) {r : Int} (h1 : plR S.2.2.2.2 r ≠ -2) : (gN S.2.2.2.2 (plR S.2.2.2.2 r)).toNat ≤ S.1 ∧ Rc (kid S.2.2.2.1) 0 (gN S.2.2.2.2 (plR S.2.2.2.2 r)).toNat ∧ gN S.2.2.2.2 (plR S.2.2.2.2 r) = ((gN S.2.2.2.2 (plR S.2.2.2.2 r)).toNat : Int) := by
  unfold plR at h1 ⊢
  split
  · rename_i q
    have h3 : gN S.2.2.2.2 (-1) = 0 := by
      unfold gN
      rw [if_neg (by omega)]
    rw [h3]
    exact ⟨Nat.zero_le _, Rc.rf _ _, rfl⟩
  · rename_i q
    rw [if_neg q] at h1
    have h2 := plZ_r S.2.2.2.2 r
    have h3 := h.nd (z := plZ S.2.2.2.2 r) (by omega) (by omega)
    exact ⟨h3.2.1, h3.2.2.1, h3.2.2.2.1⟩
theorem InvS.wf {S : CS} (h : InvS S) : Wf S := ⟨sk_lv h.2 h.1.dp, fun i hi => by
  have h1 := h.nd (z := (i : Int)) (by omega) (by omega)
  rw [h1.2.2.2.2, Int.toNat_natCast] at h1
  exact h1.2.1⟩
theorem InvS.lk {S : CS} (h : InvS S) (hB : PlB S.2.2.2.2) : LkP S := by
  intro z h0 h1
  refine kid_mem.mp ?_
  have h2 := h.nd h0 h1
  rw [h2.2.2.2.2]
  have hz : z.toNat < S.2.2.2.2.length := by omega
  rcases sk_par h.2 h.1.dp hz with ⟨q1, q2⟩ | ⟨j, j1, j2, j3, j4⟩
  · rcases pPar_at hB h.wf.1 hz with ⟨a1, a2⟩ | ⟨j, a1, a2, a3, a4⟩
    · rw [show ((z.toNat : Nat) : Int) = z by omega] at a2
      rw [a2]
      exact q2
    · have := (hB.2 j (by omega)).2.2.1
      omega
  · have h3 := pPar_back hB h.wf.1 hz (k := (j : Int)) (by omega) (by omega) (fun m m1 m2 => j3 m (by omega) m2) (fun _ => by rw [Int.toNat_natCast]; omega)
    rw [show ((z.toNat : Nat) : Int) = z by omega] at h3
    have h4 := h.nd (z := (j : Int)) (by omega) (by omega)
    rw [h3, h4.2.2.2.2, Int.toNat_natCast]
    exact j4
/-- a place has places within it iff its node has children -/
def HkP (S : CS) : Prop := ∀ z : Int, 0 ≤ z → z < S.2.2.2.2.length → (gV S.2.2.2.2 z < gV S.2.2.2.2 (z + 1) ↔ 0 < (kid S.2.2.2.1 (pn S.2.2.2.2 z.toNat)).length)
theorem InvS.hk {S : CS} (h : InvS S) : HkP S := by
  intro z h0 h1
  obtain ⟨i, rfl⟩ : ∃ i : Nat, z = i := ⟨z.toNat, by omega⟩
  have hi : i < S.2.2.2.2.length := by omega
  have h2 := (sk_blk h.2 h.1.dp hi).1
  obtain ⟨A, B, g1, g2, g3, g4, g5, g6⟩ := sk_at h.2 h.1.dp hi
  have qe1q : gV S.2.2.2.2 (i : Int) = (pv S.2.2.2.2 i : Int) := by
    unfold gV
    rw [if_pos (by omega), Int.toNat_natCast]
  have qe2q : gV S.2.2.2.2 ((i : Int) + 1) = (pv S.2.2.2.2 (i + 1) : Int) := by
    unfold gV
    rw [if_pos (by omega), show ((i : Int) + 1).toNat = i + 1 by omega]
  rw [qe1q, qe2q, Int.toNat_natCast]
  have h3 := fZ_spec (fun k => decide ((pv S.2.2.2.2 k : Int) ≤ (pv S.2.2.2.2 i : Int))) S.2.2.2.2.length (i := (i : Int) + 1) (by omega) (by omega)
  unfold pEnd at h2
  rw [h2] at h3
  cases q : kid S.2.2.2.1 (pn S.2.2.2.2 i) with
  | nil =>
    rw [q, skF_nil, List.length_nil, Nat.add_zero] at h3
    constructor
    · intro h4
      by_cases h5 : i + 1 < S.2.2.2.2.length
      · have h6 := h3.2.2.2 (by omega)
        rw [Int.toNat_natCast] at h6
        simp at h6
        omega
      · rw [pv_out (i := i + 1) (by omega)] at h4
        omega
    · intro h4
      simp at h4
  | cons y l =>
    have h4 := Dp_kid g5 (y := y) (by rw [q]; exact List.mem_cons_self)
    obtain ⟨n, hn⟩ : ∃ n, 40 - pv S.2.2.2.2 i = n + 1 := ⟨40 - pv S.2.2.2.2 i - 1, by omega⟩
    rw [q, hn, skF_cons, List.length_cons] at h3
    have h5 := h3.2.2.1 (i + 1) (by omega) (by omega)
    simp at h5
    simp
    omega
theorem InvS.wit {S : CS} (h : InvS S) {z : Int} (h0 : 0 ≤ z) (h1 : z < S.2.2.2.2.length) (y : Nat) : y ∈ pWit S.2.2.2.2 z ↔ ∃ w, w ∈ kid S.2.2.2.1 (gN S.2.2.2.2 z).toNat ∧ Rc (kid S.2.2.2.1) w y := by
  have h2 := h.nd h0 h1
  obtain ⟨i, rfl⟩ : ∃ i : Nat, z = i := ⟨z.toNat, by omega⟩
  have hi : i < S.2.2.2.2.length := by omega
  obtain ⟨A, B, g1, g2, g3, g4, g5, g6⟩ := sk_at h.2 h.1.dp hi
  rw [(sk_blk h.2 h.1.dp hi).2, h2.2.2.2.2, Int.toNat_natCast]
  exact sk_mem _ _ _ (fun w hw => Dp_kid g5 hw) y
theorem InvS.wall {S : CS} (h : InvS S) (y : Nat) : y ∈ pWit S.2.2.2.2 (-1) ↔ (y ≠ 0 ∧ Rc (kid S.2.2.2.1) 0 y) := by
  rw [sk_all h.2]
  exact h.1.top y
theorem InvS.rf {S : CS} (h : InvS S) {z u : Int} (h0 : 0 ≤ z) (h1 : z < S.2.2.2.2.length) (hu : gN S.2.2.2.2 u = ((gN S.2.2.2.2 u).toNat : Int)) : rfP S z u ↔ (Rc (kid S.2.2.2.1) (gN S.2.2.2.2 z).toNat (gN S.2.2.2.2 u).toNat ∨ (gN S.2.2.2.2 z).toNat ∈ kid S.2.2.2.1 (gN S.2.2.2.2 u).toNat) := by
  have h2 := h.nd h0 h1
  have h3 := h.wit h0 h1 (gN S.2.2.2.2 u).toNat
  unfold rfP
  rw [h3, ← kid_mem]
  constructor
  · rintro (q | q | q)
    · left
      rw [q]
      exact Rc.rf _ _
    · obtain ⟨w, w1, w2⟩ := q
      exact Or.inl (Rc.hd w1 w2)
    · exact Or.inr q
  · rintro (q | q)
    · rcases q.un with a | a
      · left
        omega
      · exact Or.inr (Or.inl a)
    · exact Or.inr (Or.inr q)
-- what acts do to the graph
theorem InvK.add {d d' : Nat} {K K' : Nat → List Nat} {p x : Nat} (h : InvK d K) (hd : d ≤ d') (hd40 : d' ≤ 40) (hA : AdE K K' p x) (hnd : ∀ u, (K' u).Nodup) (hp : p ≤ d) (hpr : Rc K 0 p) (hx : 1 ≤ x ∧ x ≤ d') (hn : ¬ Rc K x p) : InvK d' K' := by
  refine ⟨hd40, h.2.1.add hA hn, hnd, fun u y hy => ?_⟩
  rcases (hA u y).mp hy with q | ⟨q1, q2⟩
  · have h1 := h.2.2.2 u y q
    exact ⟨⟨by omega, by omega, by omega⟩, hA.up h1.2⟩
  · subst q1
    subst q2
    exact ⟨⟨by omega, by omega, by omega⟩, hA.up hpr⟩
theorem nd_snoc {K : Nat → List Nat} {p x : Nat} (h : ∀ u, (K u).Nodup) (hx : x ∉ K p) : ∀ u, (fU K p (K p ++ [x]) u).Nodup := by
  intro u
  by_cases q : u = p
  · subst q
    rw [fU_s]
    refine List.nodup_append.mpr ⟨h u, List.nodup_cons.mpr ⟨by simp, List.nodup_nil⟩, fun a ha b hb => ?_⟩
    rw [List.mem_singleton] at hb
    subst hb
    exact fun q => hx (q ▸ ha)
  · rw [fU_n q]
    exact h u
theorem kid_snoc (L : List LK) (p x : Nat) : kid (L ++ [(p, x)]) = fU (kid L) p (kid L p ++ [x]) := by
  funext u
  rw [kid_app]
  by_cases q : u = p
  · subst q
    rw [fU_s, kid_hit, kid_nil]
  · rw [fU_n q, kid_miss [] (q := (p, x)) (fun z => q z.symm), kid_nil, List.append_nil]
theorem kid_er {L : List LK} {x y : Nat} (h : (x, y) ∈ L) : kid (L.erase (x, y)) = fU (kid L) x ((kid L x).erase y) := by
  obtain ⟨L1, L2, h1, h2, h3⟩ := er_split h
  have hn : y ∉ kid L1 x := fun q => h2 (kid_mem.mp q)
  rw [h3]
  funext u
  rw [kid_app]
  by_cases q : u = x
  · subst q
    rw [fU_s, h1, kid_app, kid_hit, List.erase_append_right _ hn, List.erase_cons_head]
  · rw [fU_n q, h1, kid_app, kid_miss L2 (q := (x, y)) (fun z => q z.symm)]
theorem er_sub (K : Nat → List Nat) (x y u : Nat) : (fU K x ((K x).erase y) u).Sublist (K u) := by
  by_cases q : u = x
  · subst q
    rw [fU_s]
    exact List.erase_sublist
  · rw [fU_n q]
    exact List.Sublist.refl _
theorem er_mem {K : Nat → List Nat} (hn : ∀ u, (K u).Nodup) {x y u z : Nat} : z ∈ fU K x ((K x).erase y) u ↔ z ∈ K u ∧ ¬ (u = x ∧ z = y) := by
  by_cases q : u = x
  · subst q
    rw [fU_s, (hn u).mem_erase_iff]
    exact ⟨fun a => ⟨a.2, fun b => a.1 b.2⟩, fun a => ⟨fun b => a.2 ⟨rfl, b⟩, a.1⟩⟩
  · rw [fU_n q]
    exact ⟨fun a => ⟨a, fun b => q b.1⟩, fun a => a.1⟩
theorem InvK.mv {d : Nat} {K K1 K2 : Nat → List Nat} {f p x : Nat} (h : InvK d K) (h1 : ∀ u y, y ∈ K1 u ↔ y ∈ K u ∧ ¬ (u = f ∧ y = x)) (hA : AdE K1 K2 p x) (hnd : ∀ u, (K2 u).Nodup) (hpd : p ≤ d) (hpr : Rc K 0 p) (hx : 1 ≤ x ∧ x ≤ d) (hn : ¬ Rc K x p) : InvK d K2 := by
  have hs : ∀ u y, y ∈ K1 u → y ∈ K u := fun u y q => ((h1 u y).mp q).1
  have hp2 : ∀ w, Rc K 0 w → ¬ Rc K x w → Rc K2 0 w := by
    rintro w ⟨n, hw⟩
    induction n generalizing w with
    | zero =>
      intro _
      have q : w = 0 := hw
      rw [q]
      exact Rc.rf _ _
    | succ n ihq =>
      obtain ⟨z, z1, z2⟩ := hw
      intro hnw
      have h3 := ihq z z1 (fun q => hnw (q.st z2))
      exact h3.st ((hA z w).mpr (Or.inl ((h1 z w).mpr ⟨z2, fun q => hnw (q.2 ▸ Rc.rf K x)⟩)))
  have hx2 : Rc K2 0 x := (hp2 p hpr hn).st ((hA p x).mpr (Or.inr ⟨rfl, rfl⟩))
  have hall : ∀ w, Rc K 0 w → Rc K2 0 w := by
    rintro w ⟨n, hw⟩
    induction n generalizing w with
    | zero =>
      have q : w = 0 := hw
      rw [q]
      exact Rc.rf _ _
    | succ n ihq =>
      obtain ⟨z, z1, z2⟩ := hw
      by_cases q : z = f ∧ w = x
      · rw [q.2]
        exact hx2
      · exact (ihq z z1).st ((hA z w).mpr (Or.inl ((h1 z w).mpr ⟨z2, q⟩)))
  refine ⟨h.1, (h.2.1.sub hs).add hA (fun q => hn (Rc.sub hs q)), hnd, fun u y hy => ?_⟩
  rcases (hA u y).mp hy with q | ⟨q1, q2⟩
  · have h3 := h.2.2.2 u y (hs u y q)
    exact ⟨h3.1, hall u h3.2⟩
  · subst q1
    subst q2
    exact ⟨⟨hpd, hx⟩, hall u hpr⟩
theorem InvK.ct {d : Nat} {K K1 K2 : Nat → List Nat} (h : InvK d K) (h1 : ∀ u y, y ∈ K1 u → y ∈ K u) (h2 : ∀ u y, y ∈ K2 u ↔ y ∈ K1 u ∧ Rc K1 0 u) (hnd : ∀ u, (K2 u).Nodup) : InvK d K2 := by
  have hall : ∀ w, Rc K1 0 w → Rc K2 0 w := by
    rintro w ⟨n, hw⟩
    induction n generalizing w with
    | zero =>
      have q : w = 0 := hw
      rw [q]
      exact Rc.rf _ _
    | succ n ihq =>
      obtain ⟨z, z1, z2⟩ := hw
      exact (ihq z z1).st ((h2 z w).mpr ⟨z2, ⟨n, z1⟩⟩)
  refine ⟨h.1, h.2.1.sub (fun u y q => h1 u y ((h2 u y).mp q).1), hnd, fun u y hy => ?_⟩
  have h3 := (h2 u y).mp hy
  exact ⟨(h.2.2.2 u y (h1 u y h3.1)).1, hall u h3.2⟩
theorem InvK.pm {d : Nat} {K K' : Nat → List Nat} (h : InvK d K) (hp : ∀ u, (K' u).Perm (K u)) : InvK d K' := by
  have h1 : ∀ u y, y ∈ K' u → y ∈ K u := fun u y q => (hp u).mem_iff.mp q
  refine ⟨h.1, h.2.1.sub h1, fun u => (hp u).nodup_iff.mpr (h.2.2.1 u), fun u y hy => ?_⟩
  have h3 := h.2.2.2 u y (h1 u y hy)
  exact ⟨h3.1, Rc.sub (fun a b q => (hp a).mem_iff.mpr q) h3.2⟩
theorem lk_nd : ∀ {L : List LK}, (∀ x, (kid L x).Nodup) → L.Nodup
  | [], _ => List.nodup_nil
  | q :: L, h => by
    have h1 : kid (q :: L) q.1 = q.2 :: kid L q.1 := kid_hit L q.1 q.2
    refine List.nodup_cons.mpr ⟨fun hq => ?_, lk_nd (fun x => ?_)⟩
    · have h2 := h q.1
      rw [h1] at h2
      exact (List.nodup_cons.mp h2).1 (kid_mem.mpr hq)
    · have h2 := h x
      by_cases e : q.1 = x
      · subst e
        rw [h1] at h2
        exact (List.nodup_cons.mp h2).2
      · rw [kid_miss L e] at h2
        exact h2
/-- each pair has a place of its own -/
theorem lk_le {d : Nat} {L : List LK} (h : InvK d (kid L)) : L.length ≤ (skF (kid L) 40 1 (kid L 0)).length := by
  rw [← seF_len (kid L) 40 1 0]
  refine nd_sub (lk_nd h.2.2.1) (fun q hq => ?_)
  have h1 : q.2 ∈ kid L q.1 := kid_mem.mpr hq
  rcases (h.2.2.2 _ _ h1).2.un with e | e
  · rw [← e] at h1
    have h2 := seF_top (K := kid L) (n := 40) (p := 0) (by omega) h1
    have h3 : q = (0, q.2) := by rw [e]
    rw [h3]
    exact h2
  · exact seF_in h1 40 0 (kid L 0) (fun y hy => Dp_kid h.dp hy) e
theorem kid_flt (l : List Nat) (u : Nat) : ∀ L : List LK, kid (L.filter (fun q => decide (q.1 ∈ l))) u = if u ∈ l then kid L u else []
  | [] => by
    rw [List.filter_nil, kid_nil, ite_self]
  | q :: L => by
    have ihq := kid_flt l u L
    by_cases hq : q.1 ∈ l
    · rw [List.filter_cons_of_pos (by simpa using hq)]
      by_cases e : q.1 = u
      · subst e
        rw [if_pos hq] at ihq ⊢
        rw [show kid (q :: L.filter (fun q => decide (q.1 ∈ l))) q.1 = q.2 :: kid (L.filter (fun q => decide (q.1 ∈ l))) q.1 from kid_hit _ q.1 q.2, show kid (q :: L) q.1 = q.2 :: kid L q.1 from kid_hit _ q.1 q.2, ihq]
      · rw [kid_miss _ e, kid_miss _ e, ihq]
    · rw [List.filter_cons_of_neg (by simpa using hq), ihq]
      by_cases e : q.1 = u
      · subst e
        rw [if_neg hq, if_neg hq]
      · rw [kid_miss _ e]
theorem shK_perm (a b : List Nat) (y : Nat) (v : Int) : (shK a b y v).Perm (a ++ y :: b) := by
  unfold shK
  split
  · refine List.Perm.append_left a ?_
    have h1 := List.perm_middle (a := y) (l₁ := b.take v.toNat) (l₂ := b.drop v.toNat)
    rw [List.take_append_drop] at h1
    exact h1
  · have h1 := List.perm_middle (a := y) (l₁ := a.take (a.length - (-v).toNat)) (l₂ := a.drop (a.length - (-v).toNat) ++ b)
    rw [← List.append_assoc (a.take _), List.take_append_drop] at h1
    exact h1.trans List.perm_middle.symm
