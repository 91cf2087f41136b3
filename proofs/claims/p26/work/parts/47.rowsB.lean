/-! What the tells say of a row: what is around it, what is within it, its numbers. -/
theorem gNVF (pl : List PE) (p : Nat) : gN pl (p : Int) = pn pl p ∧ gV pl (p : Int) = pv pl p ∧ gF pl (p : Int) = pf pl p := by
  unfold gN gV gF
  rw [if_pos (by omega), if_pos (by omega), if_pos (by omega), Int.toNat_natCast]
  exact ⟨rfl, rfl, rfl⟩
theorem sp_row {S : CS} {r : Int} {p : Nat} (hp : plZ S.2.2.2.2 r = (p : Int)) : spRow S r 0 = pn S.2.2.2.2 p ∧ spRow S r 1 = pv S.2.2.2.2 p ∧ spRow S r 2 = poA S p ∧ spRow S r 3 = ((kid S.2.2.2.1 (pn S.2.2.2.2 p)).length : Int) ∧ spRow S r 4 = pf S.2.2.2.2 p ∧ spRow S r 5 = (S.2.2.1 (pn S.2.2.2.2 p) : Int) ∧ spRow S r 6 = pCnt S.2.2.2.2 (pn S.2.2.2.2 p : Int) ∧ spRow S r 7 = paR S.2.2.2.2 p ∧ spRow S r 8 = cZ (sn S.2.2.2.2) (pEnd S.2.2.2.2 (gV S.2.2.2.2 p) ((p : Int) + 1)) - cZ (sn S.2.2.2.2) ((p : Int) + 1) := by
  have e : ¬ ((p : Int) = -2) := by omega
  obtain ⟨g1, g2, g3⟩ := gNVF S.2.2.2.2 p
  unfold spRow
  rw [hp, if_neg e, g1, g2, g3, Int.toNat_natCast]
  exact ⟨rfl, rfl, rfl, rfl, rfl, rfl, rfl, rfl, by rw [if_neg e, if_neg (by decide), if_neg (by decide), if_neg (by decide), if_neg (by decide), if_neg (by decide), if_neg (by decide), if_neg (by decide), if_neg (by decide), if_pos rfl]⟩
theorem lfi_nn {α : Type} [DecidableEq α] {l : List α} {y : α} (h : y ∈ l) : 0 ≤ lfi l y := by
  obtain ⟨a, b, e, hn⟩ := List.append_of_mem h |>.elim fun a h => h.elim fun b h => (⟨a, b, h, trivial⟩ : ∃ a b, l = a ++ y :: b ∧ True)
  clear hn
  induction l generalizing a with
  | nil => cases h
  | cons x l ihq =>
    by_cases q : y = x
    · subst q
      have := lfi_at ([] : List α) l y (by simp)
      simp only [List.nil_append] at this
      rw [this]
      exact Int.natCast_nonneg _
    · have h2 : y ∈ l := by
        rcases List.mem_cons.mp h with e | e
        · exact absurd e q
        · exact e
      by_cases q2 : 0 ≤ lfi (x :: l) y
      · exact q2
      · exfalso
        obtain ⟨c, d, e2, e3⟩ : ∃ c d, x :: l = c ++ y :: d ∧ y ∉ c := by
          have h3 : y ∈ x :: l := h
          obtain ⟨c, d, h4, h5⟩ := List.eq_append_cons_of_mem h3
          exact ⟨c, d, h4, h5⟩
        rw [e2, lfi_at c d y e3] at q2
        omega
theorem poA_nn {S : CS} (hI : InvS S) (hB : StB S) {z : Int} (h0 : 0 ≤ z) (h1 : z < S.2.2.2.2.length) : 0 ≤ poA S z := lfi_nn (kid_mem.mpr (hI.lk hB.2.2 z h0 h1))
theorem bB_down (p : Nat → Bool) (a : Nat) : ∀ n, (∀ k, a ≤ k → k < a + n → p k = false) → bB p (a + n) = bB p a
  | 0, _ => rfl
  | n + 1, h => by
    rw [← Nat.add_assoc, bB, if_neg (by rw [h (a + n) (by omega) (by omega)]; decide)]
    exact bB_down p a n (fun k x y => h k x (by omega))
theorem pAt_down {pl : List PE} {i j : Nat} {v : Int} (hj : j < i) (h : ∀ m, j < m → m ≤ i → (pv pl m : Int) ≠ v) : pAt pl i v = pAt pl j v := by
  unfold pAt bZ
  have h1 := bB_down (fun k => decide ((pv pl k : Int) = v)) (j + 1) (i - j) (fun k a b => decide_eq_false (h k (by omega) (by omega)))
  rw [show ((i : Int) + 1).toNat = j + 1 + (i - j) by omega, show ((j : Int) + 1).toNat = j + 1 by omega]
  exact h1
theorem pAt_self {pl : List PE} (i : Nat) : pAt pl i (pv pl i : Int) = i := by
  unfold pAt
  exact bZ_hit (by omega) (by rw [Int.toNat_natCast]; exact decide_eq_true rfl)
/-- how many rows below a row, up to another one, are one level deeper -/
def dirN (S : CS) (r k : Int) : Int := cZ (fun m => decide (spRow S (m : Int) 1 = spRow S r 1 + 1)) k - cZ (fun m => decide (spRow S (m : Int) 1 = spRow S r 1 + 1)) (r + 1)
theorem lev_cnt {S : CS} (v : Int) {q : Nat} (hq : q ≤ S.2.2.2.2.length) : cZ (fun m => decide (spRow S (m : Int) 1 = v)) (cB (sn S.2.2.2.2) q : Nat) = (cB (fun m => sn S.2.2.2.2 m && decide ((pv S.2.2.2.2 m : Int) = v)) q : Nat) := by
  have h1 := rows_cnt (pl := S.2.2.2.2) (fun m => decide ((pv S.2.2.2.2 m : Int) = v)) q hq
  unfold cZ
  rw [← h1, Int.toNat_natCast]
  congr 1
  refine cB_cong (fun k hk => ?_)
  have h2 := cB_mn (sn S.2.2.2.2) hq
  obtain ⟨p, p1, p2, p3, p4⟩ := row_ex (pl := S.2.2.2.2) (r := (k : Int)) (by omega) (by omega)
  rw [(sp_row p4).2.1, p4, Int.toNat_natCast]
theorem snd_at {S : CS} (hI : InvS S) (hB : StB S) {r : Int} (h0 : 0 ≤ r) (h1 : r < rwN S) :
    (1 ≤ spRow S r 0 ∧ spRow S r 0 ≤ S.1) ∧ (1 ≤ spRow S r 1 ∧ spRow S r 1 ≤ 40) ∧ (0 ≤ spRow S r 3 ∧ spRow S r 3 ≤ 120) ∧ (spRow S r 4 = 0 ∨ spRow S r 4 = 1) ∧ (0 ≤ spRow S r 8 ∧ r + spRow S r 8 < rwN S) ∧
    (∀ k, r < k → k ≤ r + spRow S r 8 → spRow S r 1 < spRow S k 1 ∧ (spRow S k 1 = spRow S r 1 + 1 → spRow S k 2 = dirN S r k ∧ spRow S k 7 = r ∧ spRow S k 0 ≠ spRow S r 0)) ∧
    (r + spRow S r 8 + 1 < rwN S → spRow S (r + spRow S r 8 + 1) 1 ≤ spRow S r 1) ∧
    dirN S r (r + spRow S r 8 + 1) = (if spRow S r 4 = 1 then 0 else spRow S r 3) := by
  have hP := hB.2.2
  obtain ⟨p, p1, p2, p3, p4⟩ := row_ex h0 h1
  obtain ⟨e, e1, e2, e3, e4, e5⟩ := pEnd_p p1
  obtain ⟨s0, s1, s2, s3, s4, -, -, -, s8⟩ := sp_row p4
  have hp := hP.2 p p1
  have hnd := hI.nd (z := (p : Int)) (by omega) (by omega)
  rw [(gNVF S.2.2.2.2 p).1, Int.toNat_natCast] at hnd
  have hk := kids_at hI.1 hI.2 p1 e1
  have hc1 : cB (sn S.2.2.2.2) (p + 1) = cB (sn S.2.2.2.2) p + 1 := by rw [cB_s, if_pos p2]
  have hw : spRow S r 8 = (cB (sn S.2.2.2.2) e : Int) - (r + 1) := by
    rw [s8, e1]
    unfold cZ
    rw [Int.toNat_natCast, show ((p : Int) + 1).toNat = p + 1 by omega, hc1]
    omega
  have he := cB_mn (sn S.2.2.2.2) e2
  have he' := cB_mn (sn S.2.2.2.2) e3
  have hlen : (kid S.2.2.2.1 (pn S.2.2.2.2 p)).length ≤ 120 := by
    have := (hI.1.kb.2 _ hnd.2.1).1
    omega
  have hwr : 0 ≤ spRow S r 8 ∧ r + spRow S r 8 < rwN S := by unfold rwN; omega
  have hseen : pf S.2.2.2.2 p ≠ 1 → ∀ m, p < m → m < e → pv S.2.2.2.2 m = pv S.2.2.2.2 p + 1 → sn S.2.2.2.2 m = true := fun hf m a b c =>
    (sn_par hP (by omega) a (by omega) (fun u x y => by have := e4 u x (by omega); omega)).mpr ⟨p2, hf⟩
  have hdir : ∀ q, p < q → q ≤ e → pf S.2.2.2.2 p ≠ 1 → (cB (fun m => sn S.2.2.2.2 m && decide ((pv S.2.2.2.2 m : Int) = (pv S.2.2.2.2 p : Int) + 1)) q : Int) - (cB (fun m => sn S.2.2.2.2 m && decide ((pv S.2.2.2.2 m : Int) = (pv S.2.2.2.2 p : Int) + 1)) (p + 1) : Int) = (cB (fun m => decide (pv S.2.2.2.2 m = pv S.2.2.2.2 p + 1)) q : Int) - (cB (fun m => decide (pv S.2.2.2.2 m = pv S.2.2.2.2 p + 1)) (p + 1) : Int) := fun q a b hf => by
    obtain ⟨j, rfl⟩ : ∃ j, q = p + 1 + j := ⟨q - (p + 1), by omega⟩
    rw [cB_split _ (p + 1) j, cB_split _ (p + 1) j]
    have : cB (fun k => sn S.2.2.2.2 (p + 1 + k) && decide ((pv S.2.2.2.2 (p + 1 + k) : Int) = (pv S.2.2.2.2 p : Int) + 1)) j = cB (fun k => decide (pv S.2.2.2.2 (p + 1 + k) = pv S.2.2.2.2 p + 1)) j := cB_cong (fun k hk => by
      by_cases c : pv S.2.2.2.2 (p + 1 + k) = pv S.2.2.2.2 p + 1
      · rw [hseen hf (p + 1 + k) (by omega) (by omega) c, Bool.true_and]
        exact decide_eq_decide.mpr (by omega)
      · rw [decide_eq_false (by omega), decide_eq_false c, Bool.and_false])
    omega
  have hD : ∀ q, p < q → q ≤ e → dirN S r (cB (sn S.2.2.2.2) q : Nat) = (cB (fun m => sn S.2.2.2.2 m && decide ((pv S.2.2.2.2 m : Int) = (pv S.2.2.2.2 p : Int) + 1)) q : Int) - (cB (fun m => sn S.2.2.2.2 m && decide ((pv S.2.2.2.2 m : Int) = (pv S.2.2.2.2 p : Int) + 1)) (p + 1) : Int) := fun q a b => by
    unfold dirN
    rw [s1, lev_cnt _ (by omega), show r + 1 = ((cB (sn S.2.2.2.2) (p + 1) : Nat) : Int) by omega, lev_cnt _ (by omega)]
  have hrow : ∀ k, r < k → k ≤ r + spRow S r 8 → ∃ q : Nat, p < q ∧ q < e ∧ sn S.2.2.2.2 q = true ∧ (cB (sn S.2.2.2.2) q : Int) = k ∧ plZ S.2.2.2.2 k = q := fun k a b => by
    obtain ⟨q, q1, q2, q3, q4⟩ := row_ex (pl := S.2.2.2.2) (r := k) (by omega) (by unfold rwN at h1; omega)
    exact ⟨q, cB_cl p2 (by omega), cB_cl q2 (by omega), q2, q3, q4⟩
  refine ⟨⟨by omega, by omega⟩, ⟨by omega, by omega⟩, ⟨by omega, by omega⟩, by omega, hwr, fun k a b => ?_, fun a => ?_, ?_⟩
  · obtain ⟨q, q1, q2, q3, q4, q5⟩ := hrow k a b
    have t := sp_row q5
    rw [t.2.1, s1]
    have hlt := e4 q q1 q2
    refine ⟨by omega, fun c => ?_⟩
    have hf : pf S.2.2.2.2 p ≠ 1 := fun z => by
      rw [sn_fold p2 z e4 q1 q2] at q3
      cases q3
    have hpar : pPar S.2.2.2.2 q = p := pPar_back hP hI.wf.1 (by omega) (by omega) (by omega) (fun j x y => by have := e4 j (by omega) (by omega); omega) (fun _ => by rw [Int.toNat_natCast]; omega)
    have hm := hk.2 q q1 q2 (by omega)
    refine ⟨?_, ?_, ?_⟩
    · rw [t.2.2.1, ← q4, hD q q1 (by omega), hdir q q1 (by omega) hf]
      unfold poA
      rw [hpar, (gNVF S.2.2.2.2 p).1, (gNVF S.2.2.2.2 q).1, Int.toNat_natCast, Int.toNat_natCast]
      omega
    · rw [t.2.2.2.2.2.2.2.1]
      unfold paR
      rw [hpar, if_neg (by omega), rwZ_sn p2, p3]
    · rw [t.1, s0]
      intro z
      have z2 : pn S.2.2.2.2 q = pn S.2.2.2.2 p := by omega
      have z3 := hm.1
      rw [z2] at z3
      exact hI.1.2.1.no z3 (Rc.rf _ _)
  · obtain ⟨q, q1, q2, q3, q4⟩ := row_ex (pl := S.2.2.2.2) (r := r + spRow S r 8 + 1) (by omega) (by unfold rwN at a; omega)
    have hel : e < S.2.2.2.2.length := by
      rcases Nat.lt_or_ge e S.2.2.2.2.length with z | z
      · exact z
      · have : e = S.2.2.2.2.length := by omega
        subst this
        unfold rwN at a
        omega
    have hse := sn_end hP p2 (by omega) hel e4 (e5 hel)
    have hqe : q = e := by
      rcases Nat.lt_trichotomy q e with z | z | z
      · have := cB_lt (sn S.2.2.2.2) z q2
        omega
      · exact z
      · have := cB_lt (sn S.2.2.2.2) z hse
        omega
    rw [(sp_row q4).2.1, s1, hqe]
    have := e5 hel
    omega
  · rw [show r + spRow S r 8 + 1 = ((cB (sn S.2.2.2.2) e : Nat) : Int) by omega, hD e (by omega) (Nat.le_refl _), s4, s3]
    by_cases hf : pf S.2.2.2.2 p = 1
    · rw [if_pos (by omega)]
      obtain ⟨j, rfl⟩ : ∃ j, e = p + 1 + j := ⟨e - (p + 1), by omega⟩
      rw [cB_split _ (p + 1) j]
      have : cB (fun k => sn S.2.2.2.2 (p + 1 + k) && decide ((pv S.2.2.2.2 (p + 1 + k) : Int) = (pv S.2.2.2.2 p : Int) + 1)) j = cB (fun _ => false) j := cB_cong (fun k hk => by
        rw [sn_fold p2 hf e4 (q := p + 1 + k) (by omega) (by omega), Bool.false_and])
      have h0' : cB (fun _ => false) j = 0 := by
        have := cB_cut (p := fun _ => false) (n := 0) (fun _ _ => rfl) j
        rwa [Nat.zero_add] at this
      omega
    · rw [if_neg (by omega), hdir e (by omega) (Nat.le_refl _) hf]
      have := hk.1
      omega
theorem sp_num {S : CS} {r : Int} {p : Nat} (hp : plZ S.2.2.2.2 r = (p : Int)) (v : Int) : spNum S r v = if v < 1 then -3 else if (pv S.2.2.2.2 p : Int) < v then -6 else poA S (pAt S.2.2.2.2 p v) + 1 := by
  unfold spNum
  rw [hp, if_neg (by omega), (gNVF S.2.2.2.2 p).2.1]
theorem snd_up {S : CS} (hI : InvS S) (hB : StB S) {r : Int} (h0 : 0 ≤ r) (h1 : r < rwN S) :
    ((spRow S r 7 = -1 ∧ spRow S r 1 = 1) ∨ (0 ≤ spRow S r 7 ∧ spRow S r 7 < r ∧ spRow S (spRow S r 7) 1 = spRow S r 1 - 1 ∧ 2 ≤ spRow S r 1)) ∧
    (∀ k, 1 ≤ k → k < spRow S r 1 → 1 ≤ spNum S r k ∧ spNum S r k = spNum S (spRow S r 7) k) ∧ spNum S r (spRow S r 1) = spRow S r 2 + 1 ∧ spNum S r (spRow S r 1 + 1) = -6 ∧ spNum S r 0 = -3 ∧ 0 ≤ spRow S r 2 := by
  have hP := hB.2.2
  obtain ⟨p, p1, p2, p3, p4⟩ := row_ex h0 h1
  obtain ⟨s0, s1, s2, s3, s4, s5, s6, s7, s8⟩ := sp_row p4
  have hp := hP.2 p p1
  have hself : pAt S.2.2.2.2 p (pv S.2.2.2.2 p : Int) = p := pAt_self p
  have hn := sp_num p4
  refine ⟨?_, fun k k1 k2 => ?_, ?_, ?_, ?_, ?_⟩
  · rcases pPar_at hP hI.wf.1 p1 with ⟨a, b⟩ | ⟨j, a, b, c, d⟩
    · left
      rw [s7, s1]
      unfold paR
      rw [b, if_pos rfl]
      exact ⟨rfl, by omega⟩
    · right
      have hj := (sn_par hP p1 a c d).mp p2
      have hlt := cB_lt (sn S.2.2.2.2) a hj.1
      have hj1 := hP.2 j (by omega)
      have e7 : spRow S r 7 = (cB (sn S.2.2.2.2) j : Int) := by
        rw [s7]
        unfold paR
        rw [b, if_neg (by omega), rwZ_sn hj.1]
      have hz : plZ S.2.2.2.2 (spRow S r 7) = j := by
        rw [e7]
        exact plZ_hit (by omega) hj.1 rfl
      rw [(sp_row hz).2.1, e7, s1]
      omega
  · rw [s1] at k2
    have hin := pAt_in hI.wf.1 (z := (p : Int)) (L := k) (by omega) (by omega) k1 (by rw [(gNVF S.2.2.2.2 p).2.1]; omega)
    have hle := pAt_r S.2.2.2.2 (p : Int) k (by omega)
    have hnn := poA_nn hI hB hin (by omega)
    refine ⟨by rw [hn k, if_neg (by omega), if_neg (by omega)]; omega, ?_⟩
    rcases pPar_at hP hI.wf.1 p1 with ⟨a, b⟩ | ⟨j, a, b, c, d⟩
    · omega
    · have hj := (sn_par hP p1 a c d).mp p2
      have e7 : spRow S r 7 = (cB (sn S.2.2.2.2) j : Int) := by
        rw [s7]
        unfold paR
        rw [b, if_neg (by omega), rwZ_sn hj.1]
      have hz : plZ S.2.2.2.2 (spRow S r 7) = j := by
        rw [e7]
        exact plZ_hit (by omega) hj.1 rfl
      rw [hn k, sp_num hz k, if_neg (by omega), if_neg (by omega), if_neg (by omega), if_neg (by omega), pAt_down a (fun m x y => by
        rcases Nat.eq_or_lt_of_le y with e | e
        · subst e; omega
        · have := d m x e
          omega)]
  · rw [hn, s1, if_neg (by omega), if_neg (by omega), hself, s2]
  · rw [hn, s1, if_neg (by omega), if_pos (by omega)]
  · rw [hn, if_pos (by decide)]
  · rw [s2]
    exact poA_nn hI hB (by omega) (by omega)
/-- every node has a text -/
def TxI (S : CS) : Prop := ∀ y, 1 ≤ y → y ≤ S.1 → 1 ≤ (S.2.1 y).length
theorem fst_of {pl : List PE} {p : Nat} (hp : p < pl.length) : pFst pl (pn pl p : Int) ≠ -2 := fun q => by
  rcases pFst_r pl (pn pl p : Int) with a | a
  · exact a.2 p hp rfl
  · omega
theorem rwF_le {pl : List PE} {p : Nat} (hp : p < pl.length) (hs : sn pl p = true) : 0 ≤ rwF pl (pn pl p : Int) ∧ rwF pl (pn pl p : Int) ≤ (cB (sn pl) p : Int) := by
  obtain ⟨h1, h2, h3, h4⟩ := fZ_spec (snN pl (pn pl p : Int)) pl.length (i := 0) (by omega) (by omega)
  have hq : snN pl (pn pl p : Int) p = true := (snN_iff pl _ hs).mpr rfl
  have h5 : fZ (snN pl (pn pl p : Int)) pl.length 0 ≤ p := by
    rcases Int.lt_or_le (p : Int) (fZ (snN pl (pn pl p : Int)) pl.length 0) with z | z
    · rw [h3 p (by omega) z] at hq
      cases hq
    · exact z
  unfold rwF
  rw [if_pos (by omega)]
  have := cB_mn (sn pl) (a := (fZ (snN pl (pn pl p : Int)) pl.length 0).toNat) (b := p) (by omega)
  omega
theorem sp_nod {S : CS} {y : Nat} (hf : pFst S.2.2.2.2 (y : Int) ≠ -2) : spNod S y 0 = ((S.2.2.2.1.filter (fun q : LK => decide ((q.2 : Int) = (y : Int)))).length : Int) ∧ spNod S y 1 = pCnt S.2.2.2.2 y ∧ spNod S y 2 = cZ (snN S.2.2.2.2 y) S.2.2.2.2.length ∧ spNod S y 3 = ((kid S.2.2.2.1 y).length : Int) ∧ spNod S y 4 = (S.2.2.1 y : Int) ∧ spNod S y 5 = rwF S.2.2.2.2 y ∧ spNod S y 6 = ((S.2.1 y).length : Int) ∧ spNod S y 7 = (popN (nbs (pWit S.2.2.2.2 (pFst S.2.2.2.2 y))) : Int) ∧ spNod S y 8 = -3 := by
  unfold spNod
  refine ⟨?_, ?_, ?_, ?_, ?_, ?_, ?_, ?_, ?_⟩ <;> (rw [if_neg hf]; first | rfl | (rw [Int.toNat_natCast]; rfl))
theorem sp_nod0 {S : CS} {y : Int} (v : Int) (hf : pFst S.2.2.2.2 y = -2) : spNod S y v = -2 := by
  unfold spNod
  rw [if_pos hf]
theorem snd_nod {S : CS} (hI : InvS S) (hB : StB S) (hT : TxI S) {r : Int} (h0 : 0 ≤ r) (h1 : r < rwN S) :
    spNod S (spRow S r 0) 3 = spRow S r 3 ∧ spNod S (spRow S r 0) 4 = spRow S r 5 ∧ spNod S (spRow S r 0) 1 = spRow S r 6 ∧ (0 ≤ spNod S (spRow S r 0) 5 ∧ spNod S (spRow S r 0) 5 ≤ r) ∧ (1 ≤ spNod S (spRow S r 0) 6 ∧ spNod S (spRow S r 0) 6 ≤ 8) ∧ spChr S r (spNod S (spRow S r 0) 6) = -6 ∧ (0 ≤ spChr S r (spNod S (spRow S r 0) 6 - 1) ∧ spChr S r (spNod S (spRow S r 0) 6 - 1) < 65536) ∧ spChr S r (-1) = -3 ∧ (0 ≤ spRow S r 5 ∧ spRow S r 5 < 32) ∧ (0 ≤ spRow S r 6 ∧ spRow S r 6 ≤ 120) := by
  have hP := hB.2.2
  obtain ⟨p, p1, p2, p3, p4⟩ := row_ex h0 h1
  obtain ⟨s0, s1, s2, s3, s4, s5, s6, s7, s8⟩ := sp_row p4
  have hnd := hI.nd (z := (p : Int)) (by omega) (by omega)
  rw [(gNVF S.2.2.2.2 p).1, Int.toNat_natCast] at hnd
  obtain ⟨n0, n1, n2, n3, n4, n5, n6, n7, n8⟩ := sp_nod (S := S) (y := pn S.2.2.2.2 p) (fst_of p1)
  have hrf := rwF_le p1 p2
  have ht := hT _ hnd.1 hnd.2.1
  have hno := hB.1.2 _ hnd.1 hnd.2.1
  have hc : ∀ v : Int, spChr S r v = if v < 0 then -3 else if ((S.2.1 (pn S.2.2.2.2 p)).length : Int) ≤ v then -6 else (S.2.1 (pn S.2.2.2.2 p)).getD v.toNat 0 := fun v => by
    unfold spChr
    rw [p4, if_neg (by omega), (gNVF S.2.2.2.2 p).1, Int.toNat_natCast]
  have hcn := cZ_r (fun k => decide ((pn S.2.2.2.2 k : Int) = (pn S.2.2.2.2 p : Int))) (i := (S.2.2.2.2.length : Int)) (by omega)
  have hl := hP.1
  rw [s0, n3, n4, n1, n5, n6, s3, s5, s6]
  refine ⟨rfl, rfl, rfl, ⟨hrf.1, by omega⟩, ⟨by omega, by omega⟩, ?_, ?_, ?_, by omega, ?_⟩
  · rw [hc, if_neg (by omega), if_pos (by omega)]
  · rw [hc, if_neg (by omega), if_neg (by omega)]
    have hm : (S.2.1 (pn S.2.2.2.2 p)).getD (((S.2.1 (pn S.2.2.2.2 p)).length : Int) - 1).toNat 0 ∈ S.2.1 (pn S.2.2.2.2 p) := by
      rw [List.getD_eq_getElem?_getD, List.getElem?_eq_getElem (by omega)]
      exact List.getElem_mem _
    have := hno.2.1 _ hm
    omega
  · rw [hc, if_pos (by decide)]
  · unfold pCnt
    omega
