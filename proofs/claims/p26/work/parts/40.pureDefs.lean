/-! the rows of the pure parts, out of whole's model parts -/
theorem pPar_at {pl : List PE} (hB : PlB pl) (hLv : LvP pl) {z : Nat} (hz : z < pl.length) : (pv pl z = 1 ∧ pPar pl z = -1) ∨ ∃ j, j < z ∧ pPar pl z = j ∧ pv pl j + 1 = pv pl z ∧ ∀ m, j < m → m < z → pv pl z ≤ pv pl m := by
  have hg : gV pl z = pv pl z := by
    unfold gV
    rw [if_pos (by omega), Int.toNat_natCast]
  unfold pPar pAt bZ
  rw [hg]
  have hs := bB_spec (fun k => decide ((pv pl k : Int) = (pv pl z : Int) - 1)) ((z : Int) + 1).toNat
  rcases hLv z hz with h1 | ⟨j, h1, h2, h3⟩
  · refine Or.inl ⟨h1, ?_⟩
    rcases hs with ⟨q, -⟩ | ⟨k, q1, q2, q3, -⟩
    · exact q
    · have := decide_eq_true_iff.mp q3
      have := hB.2 k (by omega)
      omega
  · refine Or.inr ⟨j, h1, ?_, h2, h3⟩
    rcases hs with ⟨q, q2⟩ | ⟨k, q1, q2, q3, q4⟩
    · have := decide_eq_false_iff_not.mp (q2 j (by omega))
      omega
    · have qe1q := decide_eq_true_iff.mp q3
      by_cases q : k = j
      · rw [q1, q]
      · rcases Nat.lt_or_gt_of_ne q with q5 | q5
        · have := decide_eq_false_iff_not.mp (q4 j q5 (by omega))
          omega
        · by_cases q6 : k = z
          · rw [q6] at qe1q; omega
          · have := h3 k q5 (by omega)
            omega
theorem pPar_back {pl : List PE} (hB : PlB pl) (hLv : LvP pl) {z : Nat} (hz : z < pl.length) {k : Int} (h0 : -1 ≤ k) (h1 : k < z) (h2 : ∀ j : Nat, k < j → j < z → pv pl z ≤ pv pl j) (h3 : 0 ≤ k → pv pl k.toNat < pv pl z) : pPar pl z = k := by
  rcases pPar_at hB hLv hz with ⟨q1, q2⟩ | ⟨j, q1, q2, q3, q4⟩
  · rw [q2]
    by_cases q : 0 ≤ k
    · have := h3 q
      have := hB.2 k.toNat (by omega)
      omega
    · omega
  · rw [q2]
    by_cases q : 0 ≤ k
    · have q5 := h3 q
      by_cases q6 : (j : Int) = k
      · exact q6
      · by_cases q7 : (j : Int) < k
        · have := q4 k.toNat (by omega) (by omega)
          omega
        · have := h2 j (by omega) q1
          omega
    · have := h2 j (by omega) q1
      omega
def KB (d : Nat) (K : Nat → List Nat) : Prop := d ≤ 40 ∧ ∀ x, x ≤ d → (K x).length ≤ 40 ∧ ∀ c ∈ K x, 1 ≤ c ∧ c ≤ d
theorem Dp_kids {K : Nat → List Nat} {n x y : Nat} (h : Dp K n x) (hy : y ∈ K x) : 1 ≤ n ∧ Dp K (n - 1) y := by
  cases n with
  | zero => rw [show K x = [] from h] at hy; cases hy
  | succ n => exact ⟨by omega, h y hy⟩
def RcN (K : Nat → List Nat) (x : Nat) : Nat → Nat → Prop
  | 0, y => y = x
  | n + 1, y => ∃ z, RcN K x n z ∧ y ∈ K z
def Rc (K : Nat → List Nat) (x y : Nat) : Prop := ∃ n, RcN K x n y
theorem Rc.rf (K : Nat → List Nat) (x : Nat) : Rc K x x := ⟨0, rfl⟩
theorem Rc.st {K : Nat → List Nat} {x y z : Nat} (h : Rc K x y) (hz : z ∈ K y) : Rc K x z := by
  obtain ⟨n, hn⟩ := h
  exact ⟨n + 1, y, hn, hz⟩
theorem gd_app {Q : List Nat} {b j : Nat} (h : j < Q.length) : (Q ++ [b]).getD j 0 = Q.getD j 0 := by
  rw [List.getD_eq_getElem?_getD, List.getD_eq_getElem?_getD, List.getElem?_append_left h]
theorem gd_lo {L : List Nat} {y j : Nat} (h : j < L.length) : (L ++ [y]).getD j 0 = L.getD j 0 := gd_app h
theorem gd_hi {L : List Nat} {y : Nat} : (L ++ [y]).getD L.length 0 = y := by
  rw [List.getD_eq_getElem?_getD, List.getElem?_append_right (Nat.le_refl _), Nat.sub_self]
  rfl
theorem fZ_eq {p : Nat → Bool} {len : Nat} {i k : Int} (h0 : 0 ≤ i) (h1 : i ≤ k) (h2 : k ≤ len) (h3 : ∀ j : Nat, i ≤ j → (j : Int) < k → p j = false) (h4 : k < len → p k.toNat = true) : fZ p len i = k := by
  obtain ⟨s1, s2, s3, s4⟩ := fZ_spec p len h0 (by omega)
  generalize fZ p len i = f at *
  by_cases q : f < k
  · have := h3 f.toNat (by omega) (by omega)
    rw [s4 (by omega)] at this
    cases this
  · by_cases q2 : k < f
    · have := s3 k.toNat (by omega) (by omega)
      rw [h4 (by omega)] at this
      cases this
    · omega
abbrev alv (pl : List PE) (x : Nat) : Prop := x = 0 ∨ pFst pl (x : Int) ≠ -2
def paQ (pl : List PE) (K : Nat → List Nat) (y : Nat) : Nat → Bool := fun k => decide (alv pl k ∧ y ∈ K k)
def paN (pl : List PE) (K : Nat → List Nat) (d y : Nat) : Int := cZ (paQ pl K y) ((d : Int) + 1)
def noQ (pl : List PE) (K : Nat → List Nat) (d : Nat) (b : Int) : Nat → Bool := fun k => decide (alv pl (k + 1) ∧ (b = 0 ∨ 1 < paN pl K d (k + 1)))
def In1 (S : CS) : Prop := PlB S.2.2.2.2 ∧ NoB S.1 S.2.1 S.2.2.1 ∧ KB S.1 (kid S.2.2.2.1) ∧ Wf S ∧ LkP S
def In2 (A : AS) : Prop := TyB A.1 ∧ A.2.1.length ≤ 5 ∧ A.2.2.2.1 ≤ 1 ∧ In1 A.2.2.2.2 ∧ In1 A.2.2.1 ∧ ∀ S ∈ A.2.1, In1 S
