-- reading: the open nodes (the root first), the node of each letter (0: none), stage, nodes made, letters, pairs
abbrev RS : Type := List Nat × (Nat → Nat) × Nat × Nat × (Nat → Int) × List LK
def rtp (op : List Nat) : Nat := op.getD (op.length - 1) 0
def rdS (s : RS) (c : Int) : Option RS :=
  if s.2.2.1 = 0 then
    if 97 ≤ c ∧ c < 123 then
      if s.2.1 (c - 97).toNat = 0 then some (s.1, fU s.2.1 (c - 97).toNat (s.2.2.2.1 + 1), 1, s.2.2.2.1 + 1, fU s.2.2.2.2.1 (s.2.2.2.1 + 1) c, s.2.2.2.2.2 ++ [(rtp s.1, s.2.2.2.1 + 1)])
      else if s.2.1 (c - 97).toNat ∈ s.1.tail ∨ (rtp s.1, s.2.1 (c - 97).toNat) ∈ s.2.2.2.2.2 then none
      else some (s.1, s.2.1, 2, s.2.2.2.1, s.2.2.2.2.1, s.2.2.2.2.2 ++ [(rtp s.1, s.2.1 (c - 97).toNat)])
    else none
  else if c = 44 then some (s.1, s.2.1, 0, s.2.2.2.1, s.2.2.2.2.1, s.2.2.2.2.2)
  else if c = 40 ∧ s.2.2.1 = 1 then some (s.1 ++ [s.2.2.2.1], s.2.1, 0, s.2.2.2.1, s.2.2.2.2.1, s.2.2.2.2.2)
  else if c = 41 ∧ 1 < s.1.length then some (s.1.dropLast, s.2.1, 2, s.2.2.2.1, s.2.2.2.2.1, s.2.2.2.2.2)
  else none
def rd0 : RS := ([0], fun _ => 0, 0, 0, fun _ => 0, [])
def rdP (t : List Int) : Nat → Option RS
  | 0 => some rd0
  | n + 1 => (rdP t n).bind fun s => rdS s (t.getD n 0)
def RdBad (t : List Int) (x : Nat) : Prop := ∃ s, rdP t x = some s ∧ ((x < t.length ∧ rdS s (t.getD x 0) = none) ∨ (x = t.length ∧ (s.2.2.1 = 0 ∨ 1 < s.1.length)))
def RdOk (t : List Int) (s : RS) : Prop := rdP t t.length = some s ∧ s.2.2.1 ≠ 0 ∧ s.1.length = 1
/-- what is so behind x signs -/
def RdB (x : Nat) (s : RS) : Prop := (1 ≤ s.1.length ∧ s.1.length ≤ x + 1) ∧ (∀ n ∈ s.1, n ≤ s.2.2.2.1) ∧ s.2.2.2.1 ≤ 26 ∧ (∀ i, i < 26 → s.2.1 i ≤ s.2.2.2.1) ∧ cB (fun i => decide (s.2.1 i ≠ 0)) 26 = s.2.2.2.1 ∧ s.2.2.2.2.2.length ≤ x ∧ s.2.2.1 ≤ 2 ∧ (s.2.2.1 = 1 → 1 ≤ s.2.2.2.1)
theorem RdB.zero : RdB 0 rd0 := ⟨by decide, by decide, by decide, fun _ _ => Nat.le_refl _, by decide, by decide, by decide, by decide⟩
theorem rtp_le {op : List Nat} {d : Nat} (h : 1 ≤ op.length) (hm : ∀ n ∈ op, n ≤ d) : rtp op ≤ d := by
  unfold rtp
  rw [List.getD_eq_getElem?_getD, List.getElem?_eq_getElem (by omega)]
  exact hm _ (List.getElem_mem _)
theorem cB_up {f : Nat → Nat} {k v : Nat} (hv : v ≠ 0) (h0 : f k = 0) : ∀ n, cB (fun i => decide (fU f k v i ≠ 0)) n = cB (fun i => decide (f i ≠ 0)) n + if k < n then 1 else 0
  | 0 => by rw [if_neg (by omega)]; rfl
  | n + 1 => by
    rw [cB_s, cB_s, cB_up hv h0 n]
    by_cases q : n = k
    · subst q
      have qe1q : decide (fU f n v n ≠ 0) = true := by rw [fU_s]; exact decide_eq_true hv
      have qe2q : decide (f n ≠ 0) = false := decide_eq_false (fun z => z h0)
      rw [qe1q, qe2q, if_neg (show ¬ n < n by omega), if_pos (show n < n + 1 by omega)]
      rfl
    · rw [fU_n q]
      by_cases q2 : k < n
      · rw [if_pos q2, if_pos (show k < n + 1 by omega)]
        omega
      · rw [if_neg q2, if_neg (show ¬ k < n + 1 by omega)]
        omega
theorem RdB.room {x : Nat} {s : RS} (h : RdB x s) {i : Nat} (hi : i < 26) (h0 : s.2.1 i = 0) : s.2.2.2.1 < 26 := by
  have h1 := cB_up (f := s.2.1) (k := i) (v := 1) (by omega) h0 26
  rw [if_pos hi, h.2.2.2.2.1] at h1
  have h2 := cB_le (fun j => decide (fU s.2.1 i 1 j ≠ 0)) 26
  omega
theorem RdB.step {x : Nat} {s s' : RS} {c : Int} (h : RdB x s) (e : rdS s c = some s') : RdB (x + 1) s' := by
  have h0 := h
  obtain ⟨h1, h2, h3, h4, h5, h6, h7, h8⟩ := h
  unfold rdS at e
  split at e
  · split at e
    · rename_i hc0 hc1
      split at e
      · rename_i hc2
        have hr := h0.room (i := (c - 97).toNat) (by omega) hc2
        cases e
        refine ⟨⟨h1.1, by dsimp only; omega⟩, fun n hn => Nat.le_succ_of_le (h2 n hn), by dsimp only; omega, fun i hi => ?_, ?_, by dsimp only; rw [List.length_append]; simp; omega, by dsimp only; omega, fun _ => by dsimp only; omega⟩
        · dsimp only
          unfold fU
          split
          · omega
          · exact Nat.le_succ_of_le (h4 i hi)
        · dsimp only
          rw [cB_up (by omega) hc2, if_pos (by omega), h5]
      · split at e
        · cases e
        · cases e
          exact ⟨⟨h1.1, by dsimp only; omega⟩, h2, h3, h4, h5, by dsimp only; rw [List.length_append]; simp; omega, by dsimp only; omega, by simp⟩
    · cases e
  · rename_i hc0
    split at e
    · cases e
      exact ⟨⟨h1.1, by dsimp only; omega⟩, h2, h3, h4, h5, by dsimp only; omega, by dsimp only; omega, by simp⟩
    · split at e
      · cases e
        refine ⟨⟨by dsimp only; rw [List.length_append]; simp, by dsimp only; rw [List.length_append]; simp; omega⟩, fun n hn => ?_, h3, h4, h5, by dsimp only; omega, by dsimp only; omega, by simp⟩
        rcases List.mem_append.mp hn with q | q
        · exact h2 n q
        · rw [List.mem_singleton.mp q]; exact Nat.le_refl _
      · split at e
        · rename_i hc3
          cases e
          refine ⟨⟨by dsimp only; rw [List.length_dropLast]; omega, by dsimp only; rw [List.length_dropLast]; omega⟩, fun n hn => h2 n (List.dropLast_subset _ hn), h3, h4, h5, by dsimp only; omega, by dsimp only; omega, by simp⟩
        · cases e
theorem rdP_s (t : List Int) (n : Nat) : rdP t (n + 1) = (rdP t n).bind fun s => rdS s (t.getD n 0) := rfl
theorem rdP_B (t : List Int) : ∀ (n : Nat) (s : RS), rdP t n = some s → RdB n s
  | 0, s, h => by cases h; exact RdB.zero
  | n + 1, s, h => by
    rw [rdP_s] at h
    cases e : rdP t n with
    | none => rw [e] at h; cases h
    | some s0 => rw [e] at h; exact (rdP_B t n s0 e).step h
theorem rdP_lt (t : List Int) {n : Nat} (h : rdP t n = none) : ∀ k, rdP t (n + k) = none
  | 0 => h
  | k + 1 => by rw [← Nat.add_assoc, rdP_s, rdP_lt t h k]; rfl
theorem RdBad.le {t : List Int} {x y : Nat} (a : RdBad t x) (hy : y ≤ t.length) (b : rdP t y ≠ none) : y ≤ x := by
  obtain ⟨s, h1, h2⟩ := a
  rcases h2 with ⟨h2, h3⟩ | ⟨h2, -⟩
  · refine Nat.le_of_not_lt fun q => b ?_
    have h4 : rdP t (x + 1) = none := by rw [rdP_s, h1]; exact h3
    have := rdP_lt t h4 (y - (x + 1))
    rw [show x + 1 + (y - (x + 1)) = y by omega] at this
    exact this
  · omega
theorem RdBad.xle {t : List Int} {x : Nat} (a : RdBad t x) : x ≤ t.length := by
  obtain ⟨s, -, ⟨h, -⟩ | ⟨h, -⟩⟩ := a <;> omega
theorem RdBad.eq {t : List Int} {x y : Nat} (a : RdBad t x) (b : RdBad t y) : x = y := by
  have h1 := a.le b.xle (by obtain ⟨s, q, -⟩ := b; rw [q]; simp)
  have h2 := b.le a.xle (by obtain ⟨s, q, -⟩ := a; rw [q]; simp)
  omega
theorem RdBad.no {t : List Int} {x : Nat} {s : RS} (a : RdBad t x) (b : RdOk t s) : False := by
  obtain ⟨b1, b2, b3⟩ := b
  have h1 := a.le (Nat.le_refl _) (by rw [b1]; simp)
  have h2 := a.xle
  obtain ⟨s', q1, q2⟩ := a
  have e : x = t.length := by omega
  rw [e, b1] at q1
  cases q1
  rcases q2 with ⟨q2, -⟩ | ⟨-, q2 | q2⟩
  · omega
  · exact b2 q2
  · omega
theorem RdOk.eq {t : List Int} {s s' : RS} (a : RdOk t s) (b : RdOk t s') : s = s' := by
  have h := a.1
  rw [b.1] at h
  exact (Option.some.inj h).symm
-- the reader of the program
abbrev reF (p : Nat) (u v y : Int) : List Value := [.ref (p + 1 + 0), .ref (p + 1 + 1), .int (zI u), .int (zI v), .int (zI y)]
abbrev reA (a b : Nat → Int) : List (Nat × Nat × (Nat → Int)) := [(0, 61, a), (0, 26, b)]
def ReH (s : RS) (a b : Nat → Int) (u v y : Int) : Prop := u = (s.1.length : Int) - 1 ∧ v = (if s.2.2.1 = 0 then 1 else 0) ∧ (s.2.2.1 ≠ 0 → y = if s.2.2.1 = 1 then (s.2.2.2.1 : Int) else -1) ∧ (∀ i, i < s.1.length → a i = s.1.getD i 0) ∧ ∀ i, i < 26 → b i = if s.2.1 i = 0 then -1 else (s.2.1 i : Int)
def ReS (h : AH) (p : Nat) (s : RS) : Prop := ∃ a b u v y, SO h h p 3 4 (reF p u v y) (reA a b) ∧ ReH s a b u v y
theorem ReS.R {h : AH} {p : Nat} {s : RS} (r : ReS h p s) : ReR h p := by
  obtain ⟨a, b, u, v, y, h1, h2⟩ := r
  exact ⟨a, b, u, v, y, h1⟩
theorem ReS.mv {h h' : AH} {p lo hi : Nat} {s : RS} (r : ReS h p s) (f : Fr h h' lo hi) (d : hi ≤ p ∨ p + 3 ≤ lo) : ReS h' p s := by
  obtain ⟨a, b, u, v, y, h1, h2⟩ := r
  exact ⟨a, b, u, v, y, h1.mv f d, h2⟩
/-- the draft that is read into -/
def rdC (s : RS) (pl : List PE) : CS := (s.2.2.2.1, fun i => [s.2.2.2.2.1 i], fun _ => 0, s.2.2.2.2.2, pl)
theorem NoR.cg {h : AH} {p d : Nat} {tx tx' : Nat → List Int} {mk mk' : Nat → Nat} (a : NoR h p d tx mk) (e : ∀ i, 1 ≤ i → i ≤ d → tx' i = tx i ∧ mk' i = mk i) : NoR h p d tx' mk' := by
  obtain ⟨m, l, c, h1, h2, h3⟩ := a
  refine ⟨m, l, c, h1, ⟨h2.1, fun i i1 i2 => ?_⟩, fun i i1 i2 => ?_⟩
  · rw [(e i i1 i2).1, (e i i1 i2).2]
    exact h2.2 i i1 i2
  · rw [(e i i1 i2).1, (e i i1 i2).2]
    exact h3 i i1 i2
theorem mem_tail {l : List Nat} {n : Nat} : n ∈ l.tail ↔ ∃ j, 1 ≤ j ∧ j < l.length ∧ l.getD j 0 = n := by
  cases l with
  | nil => simp
  | cons a l =>
    rw [List.tail_cons, List.mem_iff_getElem]
    constructor
    · rintro ⟨j, h1, h2⟩
      refine ⟨j + 1, by omega, by rw [List.length_cons]; omega, ?_⟩
      rw [List.getD_eq_getElem?_getD, List.getElem?_cons_succ, List.getElem?_eq_getElem h1]
      exact h2
    · rintro ⟨j, h0, h1, h2⟩
      rw [List.length_cons] at h1
      refine ⟨j - 1, by omega, ?_⟩
      rw [List.getD_eq_getElem?_getD, show j = (j - 1) + 1 by omega, List.getElem?_cons_succ, List.getElem?_eq_getElem (by omega)] at h2
      exact h2
/-- what reading changes: the reader at p, the draft at q -/
def F2 (h h' : AH) (p q : Nat) : Prop := ∀ a, ¬ (p ≤ a ∧ a < p + 3) → ¬ (q ≤ a ∧ a < q + 12) → h' a = h a
theorem F2.rf {h : AH} {p q : Nat} : F2 h h p q := fun _ _ _ => rfl
theorem F2.tr {h h' h2 : AH} {p q : Nat} (a : F2 h h' p q) (b : F2 h' h2 p q) : F2 h h2 p q := fun x h1 h2 => (b x h1 h2).trans (a x h1 h2)
theorem F2.l {h h' : AH} {p q lo hi : Nat} (f : Fr h h' lo hi) (qe1q : p ≤ lo) (qe2q : hi ≤ p + 3) : F2 h h' p q := fun a h1 _ => f a (fun z => h1 ⟨by omega, by omega⟩)
theorem F2.r {h h' : AH} {p q lo hi : Nat} (f : Fr h h' lo hi) (qe1q : q ≤ lo) (qe2q : hi ≤ q + 12) : F2 h h' p q := fun a _ h1 => f a (fun z => h1 ⟨by omega, by omega⟩)

theorem c_X4_begin (sz : Nat) {h : AH} {p : Nat} (hRe : ReR h p) : CC mX4_begin 0 0 0 [.ref p] sz h (QV (fun h' => ReS h' p rd0 ∧ Fr h h' p (p + 3))) := by
  refine CC.intro [some (.ref p), none] pfX4_begin rfl rfl ?_
  obtain ⟨a, b, u, v, y, hP⟩ := hRe
  refine x_aload_n dX4_begin_0 rfl ?_
  refine x_iconst dX4_begin_1 ?_
  refine s_puti dX4_begin_2 fX4_43 hP rfl (fun h hP hF => ?_)
  refine x_aload_n dX4_begin_5 rfl ?_
  refine s_get dX4_begin_6 fX4_9 hP rfl ?_
  refine x_iconst dX4_begin_9 ?_
  refine x_iconst dX4_begin_10 ?_
  refine s_iast dX4_begin_11 hP rfl rfl ⟨by omega, by omega⟩ (fun h hP hF => ?_)
  refine x_aload_n dX4_begin_12 rfl ?_
  refine x_iconst dX4_begin_13 ?_
  refine s_putz dX4_begin_14 fX4_31 (Or.inr rfl) hP rfl (fun h hP hF => ?_)
  refine x_aload_n dX4_begin_17 rfl ?_
  refine x_iconst dX4_begin_18 ?_
  refine s_puti dX4_begin_19 fX4_46 hP rfl (fun h hP hF => ?_)
  refine x_iconst dX4_begin_22 ?_
  refine x_istore_n dX4_begin_23 rfl rfl rfl ?_
  have hF0 := hP.fr
  have hP := hP.st
  refine x_loop (fun s : AH × Int => s.1) (fun s => [some (.ref p), some (.int (zI s.2))]) (fun s => 0 ≤ s.2 ∧ s.2 ≤ 26 ∧ ∃ a1 b1, SO h s.1 p 3 4 (reF p 0 1 (-1)) (reA a1 b1) ∧ a1 0 = 0 ∧ ∀ k : Nat, (k : Int) < s.2 → b1 k = -1) (fun s => (26 - s.2).toNat) (_, 0) rfl rfl ⟨by dsimp only; omega, by dsimp only; omega, zU a 0 0, b, hP, by exact zU_s _ _ _, fun k hk => by dsimp only at hk; omega⟩ ?_
  rintro ⟨h2, i⟩ ⟨hi0, hi1, a1, b1, hP, ha, hb⟩ ihq
  try dsimp only at *
  refine x_iload_n dX4_begin_24 rfl ?_
  refine x_bipush dX4_begin_25 (by decide) ?_
  refine x_icmp_ge dX4_begin_27 ⟨by omega, by omega⟩ ⟨by omega, by omega⟩ (fun qc27q => ?_) (fun qc27q => ?_)
  · refine x_vreturn dX4_begin_43 rfl ?_
    refine ⟨rfl, ⟨a1, b1, _, _, _, hP.st, rfl, rfl, fun q => absurd rfl q, fun k hk => ?_, fun k hk => ?_⟩, hF0.tr hP.fr⟩
    · have : k = 0 := by
        have h9 : k < 1 := hk
        omega
      rw [this, ha]
      rfl
    · rw [hb k (by omega)]
      rfl
  · refine x_aload_n dX4_begin_30 rfl ?_
    refine s_get dX4_begin_31 fX4_15 hP rfl ?_
    refine x_iload_n dX4_begin_34 rfl ?_
    refine x_iconst dX4_begin_35 ?_
    refine s_iast dX4_begin_36 hP rfl rfl ⟨by omega, by omega⟩ (fun h hP hF => ?_)
    refine x_iinc dX4_begin_37 rfl rfl rfl ?_
    refine x_goto dX4_begin_40 ?_
    refine ihq (_, i + 1) ⟨by dsimp only; omega, by dsimp only; omega, _, _, hP, ha, fun k hk => ?_⟩ (by dsimp only; omega)
    dsimp only at hk
    by_cases q : k = i.toNat
    · rw [q, zU_s]
    · rw [zU_n q]
      exact hb k (by omega)
theorem c_X4_isOpen (sz : Nat) {h : AH} {p x : Nat} {s : RS} (hRe : ReS h p s) (hB : RdB x s) (hx : x ≤ 60) {n : Nat} (hn : n ≤ 40) : CC mX4_isOpen 0 0 0 [.ref p, .int (zI n)] sz h (QB (n ∈ s.1.tail) h) := by
  refine CC.intro [some (.ref p), some (.int (zI n)), none] pfX4_isOpen rfl rfl ?_
  obtain ⟨a, b, u, v, y, hP, hu, hv, hy, ha, hb⟩ := hRe
  obtain ⟨hB1, hB2, hB3, -⟩ := hB
  refine x_iconst dX4_isOpen_0 ?_
  refine x_istore_n dX4_isOpen_1 rfl rfl rfl ?_
  refine x_loop (fun _ => h) (fun i : Int => [some (.ref p), some (.int (zI n)), some (.int (zI i))]) (fun i => 1 ≤ i ∧ i ≤ s.1.length ∧ ∀ j : Nat, 1 ≤ j → (j : Int) < i → s.1.getD j 0 ≠ n) (fun i => (s.1.length - i).toNat) 1 rfl rfl ⟨by omega, by omega, fun j h1 h2 => by omega⟩ ?_
  rintro i ⟨hi0, hi1, hI⟩ ihq
  try dsimp only at *
  have hpre : i < s.1.length → a i.toNat = s.1.getD i.toNat 0 ∧ s.1.getD i.toNat 0 ≤ 40 := fun hlt => by
    refine ⟨ha _ (by omega), ?_⟩
    rw [List.getD_eq_getElem?_getD, List.getElem?_eq_getElem (by omega)]
    exact Nat.le_trans (hB2 _ (List.getElem_mem _)) (by omega)
  refine x_iload_n dX4_isOpen_2 rfl ?_
  refine x_aload_n dX4_isOpen_3 rfl ?_
  refine s_get dX4_isOpen_4 fX4_43 hP rfl ?_
  refine x_icmp_gt dX4_isOpen_7 ⟨by omega, by omega⟩ ⟨by omega, by omega⟩ (fun qc7q => ?_) (fun qc7q => ?_)
  · refine x_iconst dX4_isOpen_34 ?_
    refine x_zreturn dX4_isOpen_35 rfl (by decide) ?_
    refine ⟨?_, rfl⟩
    rw [if_neg]
    intro q
    obtain ⟨j, j1, j2, j3⟩ := mem_tail.mp q
    exact hI j j1 (by omega) j3
  · refine x_iload_n dX4_isOpen_10 rfl ?_
    refine x_bipush dX4_isOpen_11 (by decide) ?_
    refine x_icmp_gt dX4_isOpen_13 ⟨by omega, by omega⟩ ⟨by omega, by omega⟩ (fun qc13q => ?_) (fun qc13q => ?_)
    · refine x_iconst dX4_isOpen_34 ?_
      refine x_zreturn dX4_isOpen_35 rfl (by decide) ?_
      refine ⟨?_, rfl⟩
      rw [if_neg]
      intro q
      obtain ⟨j, j1, j2, j3⟩ := mem_tail.mp q
      exact hI j j1 (by omega) j3
    · refine x_aload_n dX4_isOpen_16 rfl ?_
      obtain ⟨qe1q, qe2q⟩ := hpre (by omega)
      refine s_get dX4_isOpen_17 fX4_9 hP rfl ?_
      refine x_iload_n dX4_isOpen_20 rfl ?_
      refine s_iald dX4_isOpen_21 hP rfl rfl ⟨by omega, by omega⟩ ?_
      refine x_iload_n dX4_isOpen_22 rfl ?_
      refine x_icmp_ne dX4_isOpen_23 ⟨by omega, by omega⟩ ⟨by omega, by omega⟩ (fun qc23q => ?_) (fun qc23q => ?_)
      · refine x_iinc dX4_isOpen_28 rfl rfl rfl ?_
        refine x_goto dX4_isOpen_31 ?_
        refine ihq (i + 1) ⟨by omega, by omega, fun j h1 h2 => ?_⟩ (by omega)
        by_cases q : j = i.toNat
        · rw [q]
          omega
        · exact hI j h1 (by omega)
      · refine x_iconst dX4_isOpen_26 ?_
        refine x_zreturn dX4_isOpen_27 rfl (by decide) ?_
        exact ⟨by rw [if_pos (mem_tail.mpr ⟨i.toNat, by omega, by omega, by omega⟩)], rfl⟩
theorem c_X4_takeSign (sz : Nat) {h : AH} {p x : Nat} {s : RS} {c : Int} (hRe : ReS h p s) (hB : RdB x s) (hx : x < 60) (hst : s.2.2.1 ≠ 0) (hc : 0 ≤ c ∧ c < 65536) : CC mX4_takeSign 0 0 0 [.ref p, .int (zI c)] sz h (QI (fun z h' => ((∃ s', rdS s c = some s' ∧ z = 1 ∧ ReS h' p s' ∧ s'.2.2.2 = s.2.2.2) ∨ (rdS s c = none ∧ z = 0 ∧ ReS h' p s)) ∧ Fr h h' p (p + 3))) := by
  refine CC.intro [some (.ref p), some (.int (zI c))] pfX4_takeSign rfl rfl ?_
  obtain ⟨op, nb, st, d, tl, L⟩ := s
  obtain ⟨a, b, u, v, y, hP, hu, hv, hy, ha, hb⟩ := hRe
  obtain ⟨hB1, hB2, hB3, hB4, hB5, hB6, hB7, hB8⟩ := hB
  dsimp only at *
  have hy := hy hst
  rw [if_neg hst] at hv
  have hy2 : y = -1 ∨ (y = d ∧ st = 1 ∧ 1 ≤ d) := by
    split at hy
    · rename_i q
      exact Or.inr ⟨hy, q, hB8 q⟩
    · exact Or.inl hy
  have hy3 : st = 1 → y = d := fun q => by rw [if_pos q] at hy; exact hy
  have hR0 : ReS h p (op, nb, st, d, tl, L) := ⟨a, b, u, v, y, hP, hu, by rw [if_neg hst]; exact hv, fun _ => hy, ha, hb⟩
  unfold rdS
  dsimp only
  rw [if_neg hst]
  refine x_iload_n dX4_takeSign_0 rfl ?_
  refine x_bipush dX4_takeSign_1 (by decide) ?_
  refine x_icmp_ne dX4_takeSign_3 ⟨by omega, by omega⟩ ⟨by omega, by omega⟩ (fun qc3q => ?_) (fun qc3q => ?_)
  · refine x_iload_n dX4_takeSign_13 rfl ?_
    refine x_bipush dX4_takeSign_14 (by decide) ?_
    refine x_icmp_ne dX4_takeSign_16 ⟨by omega, by omega⟩ ⟨by omega, by omega⟩ (fun qc16q => ?_) (fun qc16q => ?_)
    · refine x_iload_n dX4_takeSign_66 rfl ?_
      refine x_bipush dX4_takeSign_67 (by decide) ?_
      refine x_icmp_ne dX4_takeSign_69 ⟨by omega, by omega⟩ ⟨by omega, by omega⟩ (fun qc69q => ?_) (fun qc69q => ?_)
      · refine x_iconst dX4_takeSign_96 ?_
        refine x_zreturn dX4_takeSign_97 rfl (by decide) ?_
        rw [if_neg (by omega), if_neg (fun q => by have q1 := hy3 q.2; have q2 := hB8 q.2; omega), if_neg (by omega)]
        exact ⟨_, rfl, Or.inr ⟨rfl, rfl, hR0⟩, Fr.rf⟩
      · refine x_aload_n dX4_takeSign_72 rfl ?_
        refine s_get dX4_takeSign_73 fX4_43 hP rfl ?_
        refine x_if_le dX4_takeSign_76 ⟨by omega, by omega⟩ (fun qc76q => ?_) (fun qc76q => ?_)
        · refine x_iconst dX4_takeSign_96 ?_
          refine x_zreturn dX4_takeSign_97 rfl (by decide) ?_
          rw [if_neg (by omega), if_neg (fun q => by have q1 := hy3 q.2; have q2 := hB8 q.2; omega), if_neg (by omega)]
          exact ⟨_, rfl, Or.inr ⟨rfl, rfl, hR0⟩, Fr.rf⟩
        · refine x_aload_n dX4_takeSign_79 rfl ?_
          refine x_dup dX4_takeSign_80 rfl ?_
          refine s_get dX4_takeSign_81 fX4_43 hP rfl ?_
          refine x_iconst dX4_takeSign_84 ?_
          refine x_isub dX4_takeSign_85 ?_
          refine s_puti dX4_takeSign_86 fX4_43 hP rfl (fun h hP hF => ?_)
          refine x_aload_n dX4_takeSign_89 rfl ?_
          refine x_iconst dX4_takeSign_90 ?_
          refine s_puti dX4_takeSign_91 fX4_46 hP rfl (fun h hP hF => ?_)
          refine x_iconst dX4_takeSign_94 ?_
          refine x_zreturn dX4_takeSign_95 rfl (by decide) ?_
          rw [if_neg (by omega), if_neg (by omega), if_pos (by omega)]
          refine ⟨_, rfl, Or.inl ⟨_, rfl, rfl, ⟨a, b, _, v, -1, hP.st, ?_, hv, fun _ => rfl, fun i hi => ?_, hb⟩, rfl⟩, hP.fr⟩
          · dsimp only
            rw [List.length_dropLast]
            omega
          · dsimp only at hi ⊢
            rw [List.length_dropLast] at hi
            rw [ha i (by omega), List.getD_eq_getElem?_getD, List.getD_eq_getElem?_getD, List.getElem?_dropLast, if_pos (by omega)]
    · refine x_aload_n dX4_takeSign_19 rfl ?_
      refine s_get dX4_takeSign_20 fX4_46 hP rfl ?_
      refine x_iconst dX4_takeSign_23 ?_
      refine x_icmp_eq dX4_takeSign_24 ⟨by omega, by omega⟩ ⟨by omega, by omega⟩ (fun qc24q => ?_) (fun qc24q => ?_)
      · refine x_iload_n dX4_takeSign_66 rfl ?_
        refine x_bipush dX4_takeSign_67 (by decide) ?_
        refine x_icmp_ne dX4_takeSign_69 ⟨by omega, by omega⟩ ⟨by omega, by omega⟩ (fun qc69q => ?_) (fun qc69q => ?_)
        · refine x_iconst dX4_takeSign_96 ?_
          refine x_zreturn dX4_takeSign_97 rfl (by decide) ?_
          rw [if_neg (by omega), if_neg (fun q => by have q1 := hy3 q.2; have q2 := hB8 q.2; omega), if_neg (by omega)]
          exact ⟨_, rfl, Or.inr ⟨rfl, rfl, hR0⟩, Fr.rf⟩
        · refine x_aload_n dX4_takeSign_72 rfl ?_
          refine s_get dX4_takeSign_73 fX4_43 hP rfl ?_
          refine x_if_le dX4_takeSign_76 ⟨by omega, by omega⟩ (fun qc76q => ?_) (fun qc76q => ?_)
          · refine x_iconst dX4_takeSign_96 ?_
            refine x_zreturn dX4_takeSign_97 rfl (by decide) ?_
            rw [if_neg (by omega), if_neg (fun q => by have q1 := hy3 q.2; have q2 := hB8 q.2; omega), if_neg (by omega)]
            exact ⟨_, rfl, Or.inr ⟨rfl, rfl, hR0⟩, Fr.rf⟩
          · refine x_aload_n dX4_takeSign_79 rfl ?_
            refine x_dup dX4_takeSign_80 rfl ?_
            refine s_get dX4_takeSign_81 fX4_43 hP rfl ?_
            refine x_iconst dX4_takeSign_84 ?_
            refine x_isub dX4_takeSign_85 ?_
            refine s_puti dX4_takeSign_86 fX4_43 hP rfl (fun h hP hF => ?_)
            refine x_aload_n dX4_takeSign_89 rfl ?_
            refine x_iconst dX4_takeSign_90 ?_
            refine s_puti dX4_takeSign_91 fX4_46 hP rfl (fun h hP hF => ?_)
            refine x_iconst dX4_takeSign_94 ?_
            refine x_zreturn dX4_takeSign_95 rfl (by decide) ?_
            rw [if_neg (by omega), if_neg (by omega), if_pos (by omega)]
            refine ⟨_, rfl, Or.inl ⟨_, rfl, rfl, ⟨a, b, _, v, -1, hP.st, ?_, hv, fun _ => rfl, fun i hi => ?_, hb⟩, rfl⟩, hP.fr⟩
            · dsimp only
              rw [List.length_dropLast]
              omega
            · dsimp only at hi ⊢
              rw [List.length_dropLast] at hi
              rw [ha i (by omega), List.getD_eq_getElem?_getD, List.getD_eq_getElem?_getD, List.getElem?_dropLast, if_pos (by omega)]
      · refine x_aload_n dX4_takeSign_27 rfl ?_
        refine s_get dX4_takeSign_28 fX4_43 hP rfl ?_
        refine x_bipush dX4_takeSign_31 (by decide) ?_
        refine x_icmp_ge dX4_takeSign_33 ⟨by omega, by omega⟩ ⟨by omega, by omega⟩ (fun qc33q => ?_) (fun qc33q => ?_)
        · refine x_iload_n dX4_takeSign_66 rfl ?_
          refine x_bipush dX4_takeSign_67 (by decide) ?_
          refine x_icmp_ne dX4_takeSign_69 ⟨by omega, by omega⟩ ⟨by omega, by omega⟩ (fun qc69q => ?_) (fun qc69q => ?_)
          · refine x_iconst dX4_takeSign_96 ?_
            refine x_zreturn dX4_takeSign_97 rfl (by decide) ?_
            rw [if_neg (by omega), if_neg (fun q => by have q1 := hy3 q.2; have q2 := hB8 q.2; omega), if_neg (by omega)]
            exact ⟨_, rfl, Or.inr ⟨rfl, rfl, hR0⟩, Fr.rf⟩
          · refine x_aload_n dX4_takeSign_72 rfl ?_
            refine s_get dX4_takeSign_73 fX4_43 hP rfl ?_
            refine x_if_le dX4_takeSign_76 ⟨by omega, by omega⟩ (fun qc76q => ?_) (fun qc76q => ?_)
            · refine x_iconst dX4_takeSign_96 ?_
              refine x_zreturn dX4_takeSign_97 rfl (by decide) ?_
              rw [if_neg (by omega), if_neg (fun q => by have q1 := hy3 q.2; have q2 := hB8 q.2; omega), if_neg (by omega)]
              exact ⟨_, rfl, Or.inr ⟨rfl, rfl, hR0⟩, Fr.rf⟩
            · refine x_aload_n dX4_takeSign_79 rfl ?_
              refine x_dup dX4_takeSign_80 rfl ?_
              refine s_get dX4_takeSign_81 fX4_43 hP rfl ?_
              refine x_iconst dX4_takeSign_84 ?_
              refine x_isub dX4_takeSign_85 ?_
              refine s_puti dX4_takeSign_86 fX4_43 hP rfl (fun h hP hF => ?_)
              refine x_aload_n dX4_takeSign_89 rfl ?_
              refine x_iconst dX4_takeSign_90 ?_
              refine s_puti dX4_takeSign_91 fX4_46 hP rfl (fun h hP hF => ?_)
              refine x_iconst dX4_takeSign_94 ?_
              refine x_zreturn dX4_takeSign_95 rfl (by decide) ?_
              rw [if_neg (by omega), if_neg (by omega), if_pos (by omega)]
              refine ⟨_, rfl, Or.inl ⟨_, rfl, rfl, ⟨a, b, _, v, -1, hP.st, ?_, hv, fun _ => rfl, fun i hi => ?_, hb⟩, rfl⟩, hP.fr⟩
              · dsimp only
                rw [List.length_dropLast]
                omega
              · dsimp only at hi ⊢
                rw [List.length_dropLast] at hi
                rw [ha i (by omega), List.getD_eq_getElem?_getD, List.getD_eq_getElem?_getD, List.getElem?_dropLast, if_pos (by omega)]
        · refine x_aload_n dX4_takeSign_36 rfl ?_
          refine x_dup dX4_takeSign_37 rfl ?_
          refine s_get dX4_takeSign_38 fX4_43 hP rfl ?_
          refine x_iconst dX4_takeSign_41 ?_
          refine x_iadd dX4_takeSign_42 ?_
          refine s_puti dX4_takeSign_43 fX4_43 hP rfl (fun h hP hF => ?_)
          refine x_aload_n dX4_takeSign_46 rfl ?_
          refine s_get dX4_takeSign_47 fX4_9 hP rfl ?_
          refine x_aload_n dX4_takeSign_50 rfl ?_
          refine s_get dX4_takeSign_51 fX4_43 hP rfl ?_
          refine x_aload_n dX4_takeSign_54 rfl ?_
          refine s_get dX4_takeSign_55 fX4_46 hP rfl ?_
          refine s_iast dX4_takeSign_58 hP rfl rfl ⟨by omega, by omega⟩ (fun h hP hF => ?_)
          refine x_aload_n dX4_takeSign_59 rfl ?_
          refine x_iconst dX4_takeSign_60 ?_
          refine s_putz dX4_takeSign_61 fX4_31 (Or.inr rfl) hP rfl (fun h hP hF => ?_)
          refine x_iconst dX4_takeSign_64 ?_
          refine x_zreturn dX4_takeSign_65 rfl (by decide) ?_
          have qe1q : y = d ∧ st = 1 ∧ 1 ≤ d := by
            rcases hy2 with q | q
            · omega
            · exact q
          rw [if_neg (by omega), if_pos ⟨by omega, qe1q.2.1⟩]
          refine ⟨_, rfl, Or.inl ⟨_, rfl, rfl, ⟨_, b, _, 1, y, hP.st, ?_, rfl, fun q => absurd rfl q, fun i hi => ?_, hb⟩, rfl⟩, hP.fr⟩
          · dsimp only
            rw [List.length_append, List.length_singleton]
            omega
          · dsimp only at hi ⊢
            rw [List.length_append, List.length_singleton] at hi
            by_cases q : i = op.length
            · subst q
              rw [show op.length = (u + 1).toNat by omega, zU_s, show (u + 1).toNat = op.length by omega, List.getD_eq_getElem?_getD, List.getElem?_append_right (Nat.le_refl _), Nat.sub_self]
              exact qe1q.1
            · rw [zU_n (by omega), ha i (by omega), List.getD_eq_getElem?_getD, List.getD_eq_getElem?_getD, List.getElem?_append_left (by omega)]
  · refine x_aload_n dX4_takeSign_6 rfl ?_
    refine x_iconst dX4_takeSign_7 ?_
    refine s_putz dX4_takeSign_8 fX4_31 (Or.inr rfl) hP rfl (fun h hP hF => ?_)
    refine x_iconst dX4_takeSign_11 ?_
    refine x_zreturn dX4_takeSign_12 rfl (by decide) ?_
    rw [if_pos (by omega)]
    exact ⟨_, rfl, Or.inl ⟨_, rfl, rfl, ⟨a, b, u, 1, y, hP.st, hu, rfl, fun q => absurd rfl q, ha, hb⟩, rfl⟩, hP.fr⟩
theorem c_X4_takeLetter (sz : Nat) {h : AH} {p q x : Nat} {s : RS} {pl : List PE} {c : Int} (hRe : ReS h p s) (hSt : StR h q (rdC s pl)) (hd : p + 3 ≤ q ∨ q + 12 ≤ p) (hB : RdB x s) (hx : x < 60) (hst : s.2.2.1 = 0) (hc : 0 ≤ c ∧ c < 65536) : CC mX4_takeLetter 2 0 0 [.ref p, .int (zI c), .ref q] sz h (QI (fun z h' => ((∃ s' pl', rdS s c = some s' ∧ z = 1 ∧ ReS h' p s' ∧ StR h' q (rdC s' pl')) ∨ (rdS s c = none ∧ z = 0 ∧ ReR h' p ∧ ∃ Dq, StR h' q Dq)) ∧ F2 h h' p q)) := by
  refine CC.intro [some (.ref p), some (.int (zI c)), some (.ref q), none, none, none] pfX4_takeLetter rfl rfl ?_
  have hB0 := hB
  have hRe0 := hRe
  have hSt0 := hSt
  obtain ⟨op, nb, st, d, tl, L⟩ := s
  obtain ⟨a, b, u, v, y, hP, hu, hv, hy, ha, hb⟩ := hRe
  obtain ⟨hB1, hB2, hB3, hB4, hB5, hB6, hB7, hB8⟩ := hB
  obtain ⟨hS, hN, hLi, hPl⟩ := hSt
  dsimp only [rdC] at hN hLi hPl
  obtain ⟨_, _, _, hNs, -, -⟩ := id hN
  obtain ⟨_, _, hLs, -, -⟩ := id hLi
  dsimp only at *
  have htp := rtp_le hB1.1 hB2
  have htp2 : a u.toNat = rtp op := by
    unfold rtp
    rw [ha _ (by omega), show u.toNat = op.length - 1 by omega]
  unfold rdS
  dsimp only
  rw [if_pos hst]
  refine x_iload_n dX4_takeLetter_0 rfl ?_
  refine x_bipush dX4_takeLetter_1 (by decide) ?_
  refine x_isub dX4_takeLetter_3 ?_
  refine x_istore_n dX4_takeLetter_4 rfl rfl rfl ?_
  refine x_iload_n dX4_takeLetter_5 rfl ?_
  refine x_if_lt dX4_takeLetter_6 ⟨by omega, by omega⟩ (fun qc6q => ?_) (fun qc6q => ?_)
  · refine x_iconst dX4_takeLetter_31 ?_
    refine x_zreturn dX4_takeLetter_32 rfl (by decide) ?_
    first
      | omega
      | (rw [if_neg (by omega)]
         exact ⟨_, rfl, Or.inr ⟨rfl, rfl, hRe0.R, _, hSt0⟩, F2.rf⟩)
  · refine x_iload_n dX4_takeLetter_9 rfl ?_
    refine x_bipush dX4_takeLetter_10 (by decide) ?_
    refine x_icmp_ge dX4_takeLetter_12 ⟨by omega, by omega⟩ ⟨by omega, by omega⟩ (fun qc12q => ?_) (fun qc12q => ?_)
    · refine x_iconst dX4_takeLetter_31 ?_
      refine x_zreturn dX4_takeLetter_32 rfl (by decide) ?_
      first
        | omega
        | (rw [if_neg (by omega)]
           exact ⟨_, rfl, Or.inr ⟨rfl, rfl, hRe0.R, _, hSt0⟩, F2.rf⟩)
    · refine x_aload_n dX4_takeLetter_15 rfl ?_
      refine s_get dX4_takeLetter_16 fX4_43 hP rfl ?_
      refine x_if_lt dX4_takeLetter_19 ⟨by omega, by omega⟩ (fun qc19q => ?_) (fun qc19q => ?_)
      · refine x_iconst dX4_takeLetter_31 ?_
        refine x_zreturn dX4_takeLetter_32 rfl (by decide) ?_
        first
          | omega
          | (rw [if_neg (by omega)]
             exact ⟨_, rfl, Or.inr ⟨rfl, rfl, hRe0.R, _, hSt0⟩, F2.rf⟩)
      · refine x_aload_n dX4_takeLetter_22 rfl ?_
        refine s_get dX4_takeLetter_23 fX4_43 hP rfl ?_
        refine x_bipush dX4_takeLetter_26 (by decide) ?_
        refine x_icmp_le dX4_takeLetter_28 ⟨by omega, by omega⟩ ⟨by omega, by omega⟩ (fun qc28q => ?_) (fun qc28q => ?_)
        · refine x_aload_n dX4_takeLetter_33 rfl ?_
          refine s_get dX4_takeLetter_34 fX4_9 hP rfl ?_
          refine x_aload_n dX4_takeLetter_37 rfl ?_
          refine s_get dX4_takeLetter_38 fX4_43 hP rfl ?_
          refine s_iald dX4_takeLetter_41 hP rfl rfl ⟨by omega, by omega⟩ ?_
          refine x_istore dX4_takeLetter_42 rfl rfl rfl ?_
          refine x_aload_n dX4_takeLetter_44 rfl ?_
          refine s_get dX4_takeLetter_45 fX4_15 hP rfl ?_
          refine x_iload_n dX4_takeLetter_48 rfl ?_
          have hbi := hb (c - 97).toNat (by omega)
          have hb4 := hB4 (c - 97).toNat (by omega)
          rw [htp2]
          rw [if_pos (show 97 ≤ c ∧ c < 123 by omega)]
          have hb5 : b (c - 97).toNat = -1 ∧ nb (c - 97).toNat = 0 ∨ b (c - 97).toNat = nb (c - 97).toNat ∧ nb (c - 97).toNat ≠ 0 := by
            split at hbi
            · exact Or.inl ⟨hbi, by assumption⟩
            · exact Or.inr ⟨hbi, by assumption⟩
          refine s_iald dX4_takeLetter_49 hP rfl rfl ⟨by omega, by omega⟩ ?_
          refine x_istore dX4_takeLetter_50 rfl rfl rfl ?_
          refine x_aload_n dX4_takeLetter_52 rfl ?_
          refine x_iconst dX4_takeLetter_53 ?_
          refine s_puti dX4_takeLetter_54 fX4_46 hP rfl (fun h0 hP hF => ?_)
          have hG0 : F2 h h0 p q := F2.l hF (by omega) (by omega)
          have hS := hS.mv hF (by omega)
          have hN := hN.mv hF (by omega)
          have hLi := hLi.mv hF (by omega)
          have hPl := hPl.mv hF (by omega)
          have hNs := hNs.mv hF (by omega)
          have hLs := hLs.mv hF (by omega)
          have hP := hP.st
          refine x_iload dX4_takeLetter_57 rfl ?_
          refine x_iconst dX4_takeLetter_59 ?_
          refine x_icmp_ne dX4_takeLetter_60 ⟨by omega, by omega⟩ ⟨by omega, by omega⟩ (fun qc60q => ?_) (fun qc60q => ?_)
          · have qe1q : nb (c - 97).toNat ≠ 0 := by
              rcases hb5 with q1 | q1
              · omega
              · exact q1.2
            have qe2q : b (c - 97).toNat = nb (c - 97).toNat := by
              rcases hb5 with q1 | q1
              · omega
              · exact q1.1
            rw [if_neg qe1q, qe2q]
            have hRe1 : ReS h0 p (op, nb, st, d, tl, L) := ⟨a, b, u, v, -1, hP, hu, hv, fun q1 => absurd hst q1, ha, hb⟩
            refine x_aload_n dX4_takeLetter_99 rfl ?_
            refine x_iload dX4_takeLetter_100 rfl ?_
            refine p_V dX4_takeLetter_102 lX4_65 (c_X4_isOpen sz hRe1 hB0 (by omega) (n := nb (c - 97).toNat) (by omega)) hP.1 rfl rfl rfl rfl (by decide) ?_
            refine x_ifB_ne dX4_takeLetter_105 (fun qc105q => ?_) (fun qc105q => ?_)
            · refine x_iconst dX4_takeLetter_123 ?_
              refine x_zreturn dX4_takeLetter_124 rfl (by decide) ?_
              first
                | (rw [if_pos (Or.inl qc105q)]
                   exact ⟨_, rfl, Or.inr ⟨rfl, rfl, hRe1.R, (d, fun i => [tl i], fun _ => 0, L, pl), ⟨hS, hN, hLi, hPl⟩⟩, hG0⟩)
                | (have qe5q : (rtp op, nb (c - 97).toNat) ∈ L := Classical.byContradiction fun q1 => by
                     have := (lfi_iff L (rtp op, nb (c - 97).toNat)).mpr q1
                     omega
                   rw [if_pos (Or.inr qe5q)]
                   exact ⟨_, rfl, Or.inr ⟨rfl, rfl, hRe1.R, (d, fun i => [tl i], fun _ => 0, L, pl), ⟨hS, hN, hLi, hPl⟩⟩, hG0⟩)
            · refine x_aload_n dX4_takeLetter_108 rfl ?_
              refine s_get dX4_takeLetter_109 fX4_68 hS rfl ?_
              refine x_iload dX4_takeLetter_112 rfl ?_
              refine x_iload dX4_takeLetter_114 rfl ?_
              refine p_V dX4_takeLetter_116 lX4_72 (c_X1_indexOf sz hLi (x := rtp op) (y := nb (c - 97).toNat) (by omega) (by omega)) hLs.1 rfl rfl rfl rfl (by decide) ?_
              refine x_iconst dX4_takeLetter_119 ?_
              refine x_icmp_eq dX4_takeLetter_120 ⟨by have := lfi_r L (rtp op, nb (c - 97).toNat); omega, by have := lfi_r L (rtp op, nb (c - 97).toNat); omega⟩ ⟨by omega, by omega⟩ (fun qc120q => ?_) (fun qc120q => ?_)
              · have qe5q : (rtp op, nb (c - 97).toNat) ∉ L := (lfi_iff L (rtp op, nb (c - 97).toNat)).mp (by omega)
                rw [if_neg (fun q1 => by rcases q1 with q1 | q1; exact qc105q q1; exact qe5q q1)]
                refine x_aload_n dX4_takeLetter_125 rfl ?_
                refine x_iconst dX4_takeLetter_126 ?_
                refine s_putz dX4_takeLetter_127 fX4_31 (Or.inl rfl) hP rfl (fun h5 hP hF => ?_)
                have hFn := hF
                have hS := hS.mv hFn (by omega)
                have hN := hN.mv hFn (by omega)
                have hLi := hLi.mv hFn (by omega)
                have hPl := hPl.mv hFn (by omega)
                obtain ⟨_, _, hLs, -, -⟩ := id hLi
                have hP := hP.st
                refine x_aload_n dX4_takeLetter_130 rfl ?_
                refine s_get dX4_takeLetter_131 fX4_68 hS rfl ?_
                refine x_iload dX4_takeLetter_134 rfl ?_
                refine x_iload dX4_takeLetter_136 rfl ?_
                first
                  | (have hG5 : F2 h h5 p q := hG4.tr (F2.l hFn (by omega) (by omega))
                     refine i_V dX4_takeLetter_138 lX4_78 (c_X1_append sz hLi (x := rtp op) (y := d + 1) (by omega) (by omega)) hLs.1 rfl rfl rfl rfl (by decide) (fun r6 h6 hr6 => ?_)
                     obtain ⟨q1, rfl, hLi, hFn⟩ : L.length < 120 ∧ r6 = 1 ∧ LiR h6 (q + 5) (L ++ [(rtp op, d + 1)]) ∧ Fr h5 h6 (q + 5) (q + 5 + 3) := by
                       rcases hr6 with q1 | q1
                       · exact q1
                       · omega
                     refine x_zreturn dX4_takeLetter_141 rfl (by decide) ?_
                     refine ⟨_, rfl, Or.inl ⟨_, pl, rfl, rfl, ⟨a, _, u, 0, ((d + 1 : Nat) : Int), (hP.mv hFn (by omega)).st, hu, rfl, fun _ => rfl, ha, fun i hi => ?_⟩, ⟨hS.mv hFn (by omega), (hN.mv hFn (by omega)).cg (fun i i1 i2 => ?_), hLi, hPl.mv hFn (by omega)⟩⟩, hG5.tr (F2.r hFn (by omega) (by omega))⟩
                     · show zU b (c - 97).toNat ((d + 1 : Nat) : Int) i = if fU nb (c - 97).toNat (d + 1) i = 0 then -1 else ((fU nb (c - 97).toNat (d + 1) i : Nat) : Int)
                       by_cases q2 : i = (c - 97).toNat
                       · rw [q2, zU_s, fU_s, if_neg (by omega)]
                       · rw [zU_n q2, fU_n q2]
                         exact hb i hi
                     · dsimp only [rdC]
                       by_cases q2 : i = d + 1
                       · rw [q2, fU_s, fU_s, fU_s]
                         exact ⟨rfl, rfl⟩
                       · rw [fU_n q2, fU_n q2, fU_n q2]
                         exact ⟨rfl, rfl⟩)
                  | (have hG5 : F2 h h5 p q := hG0.tr (F2.l hFn (by omega) (by omega))
                     refine i_V dX4_takeLetter_138 lX4_78 (c_X1_append sz hLi (x := rtp op) (y := nb (c - 97).toNat) (by omega) (by omega)) hLs.1 rfl rfl rfl rfl (by decide) (fun r6 h6 hr6 => ?_)
                     obtain ⟨q1, rfl, hLi, hFn⟩ : L.length < 120 ∧ r6 = 1 ∧ LiR h6 (q + 5) (L ++ [(rtp op, nb (c - 97).toNat)]) ∧ Fr h5 h6 (q + 5) (q + 5 + 3) := by
                       rcases hr6 with q1 | q1
                       · exact q1
                       · omega
                     refine x_zreturn dX4_takeLetter_141 rfl (by decide) ?_
                     exact ⟨_, rfl, Or.inl ⟨_, pl, rfl, rfl, ⟨a, b, u, 0, -1, (hP.mv hFn (by omega)).st, hu, rfl, fun _ => rfl, ha, hb⟩, ⟨hS.mv hFn (by omega), hN.mv hFn (by omega), hLi, hPl.mv hFn (by omega)⟩⟩, hG5.tr (F2.r hFn (by omega) (by omega))⟩)
              · refine x_iconst dX4_takeLetter_123 ?_
                refine x_zreturn dX4_takeLetter_124 rfl (by decide) ?_
                first
                  | (rw [if_pos (Or.inl qc105q)]
                     exact ⟨_, rfl, Or.inr ⟨rfl, rfl, hRe1.R, (d, fun i => [tl i], fun _ => 0, L, pl), ⟨hS, hN, hLi, hPl⟩⟩, hG0⟩)
                  | (have qe5q : (rtp op, nb (c - 97).toNat) ∈ L := Classical.byContradiction fun q1 => by
                       have := (lfi_iff L (rtp op, nb (c - 97).toNat)).mpr q1
                       omega
                     rw [if_pos (Or.inr qe5q)]
                     exact ⟨_, rfl, Or.inr ⟨rfl, rfl, hRe1.R, (d, fun i => [tl i], fun _ => 0, L, pl), ⟨hS, hN, hLi, hPl⟩⟩, hG0⟩)
          · have qe1q : nb (c - 97).toNat = 0 := by
              rcases hb5 with q1 | q1
              · exact q1.2
              · omega
            have hroom := hB0.room (i := (c - 97).toNat) (by omega) qe1q
            dsimp only at hroom
            rw [if_pos qe1q]
            refine x_aload_n dX4_takeLetter_63 rfl ?_
            refine s_get dX4_takeLetter_64 fX4_49 hS rfl ?_
            refine i_V dX4_takeLetter_67 lX4_55 (c_X2_makeNode sz hN (by show d < 40; omega)) hNs.1 rfl rfl rfl rfl (by decide) (fun r1 h1 ⟨hr1, hN, hFn⟩ => ?_)
            have hr2 : r1 = ((d + 1 : Nat) : Int) := by rw [hr1]; rfl
            subst hr2
            have hS := hS.mv hFn (by omega)
            have hLi := hLi.mv hFn (by omega)
            have hPl := hPl.mv hFn (by omega)
            have hP := hP.mv hFn (by omega)
            have hG1 : F2 h h1 p q := hG0.tr (F2.r hFn (by omega) (by omega))
            obtain ⟨_, _, _, hNs, -, -⟩ := id hN
            refine x_istore dX4_takeLetter_70 rfl rfl rfl ?_
            refine x_aload_n dX4_takeLetter_72 rfl ?_
            refine s_get dX4_takeLetter_73 fX4_49 hS rfl ?_
            refine x_iload dX4_takeLetter_76 rfl ?_
            refine x_iload_n dX4_takeLetter_78 rfl ?_
            refine v_V dX4_takeLetter_79 lX4_61 (c_X2_setLetter sz hN (i := ((d + 1 : Nat) : Int)) (x := c) (by omega) (by show ((d + 1 : Nat) : Int) ≤ ((d + 1 : Nat) : Int); omega) hc) hNs.1 rfl rfl rfl rfl (by decide) (fun h2 ⟨hN, hFn⟩ => ?_)
            have hS := hS.mv hFn (by omega)
            have hLi := hLi.mv hFn (by omega)
            have hPl := hPl.mv hFn (by omega)
            have hP := hP.mv hFn (by omega)
            have hG2 : F2 h h2 p q := hG1.tr (F2.r hFn (by omega) (by omega))
            rw [Int.toNat_natCast, fU_fU] at hN
            refine x_aload_n dX4_takeLetter_82 rfl ?_
            refine s_get dX4_takeLetter_83 fX4_15 hP rfl ?_
            refine x_iload_n dX4_takeLetter_86 rfl ?_
            refine x_iload dX4_takeLetter_87 rfl ?_
            refine s_iast dX4_takeLetter_89 hP rfl rfl ⟨by omega, by omega⟩ (fun h3 hP hF => ?_)
            refine x_aload_n dX4_takeLetter_90 rfl ?_
            refine x_iload dX4_takeLetter_91 rfl ?_
            refine s_puti dX4_takeLetter_93 fX4_46 hP rfl (fun h4 hP hF => ?_)
            have hFn := hP.fr
            have hG4 : F2 h h4 p q := hG2.tr (F2.l hFn (by omega) (by omega))
            have hS := hS.mv hFn (by omega)
            have hN := hN.mv hFn (by omega)
            have hLi := hLi.mv hFn (by omega)
            have hPl := hPl.mv hFn (by omega)
            obtain ⟨_, _, hLs, -, -⟩ := id hLi
            have hP := hP.st
            refine x_goto dX4_takeLetter_96 ?_
            refine x_aload_n dX4_takeLetter_125 rfl ?_
            refine x_iconst dX4_takeLetter_126 ?_
            refine s_putz dX4_takeLetter_127 fX4_31 (Or.inl rfl) hP rfl (fun h5 hP hF => ?_)
            have hFn := hF
            have hS := hS.mv hFn (by omega)
            have hN := hN.mv hFn (by omega)
            have hLi := hLi.mv hFn (by omega)
            have hPl := hPl.mv hFn (by omega)
            obtain ⟨_, _, hLs, -, -⟩ := id hLi
            have hP := hP.st
            refine x_aload_n dX4_takeLetter_130 rfl ?_
            refine s_get dX4_takeLetter_131 fX4_68 hS rfl ?_
            refine x_iload dX4_takeLetter_134 rfl ?_
            refine x_iload dX4_takeLetter_136 rfl ?_
            first
              | (have hG5 : F2 h h5 p q := hG4.tr (F2.l hFn (by omega) (by omega))
                 refine i_V dX4_takeLetter_138 lX4_78 (c_X1_append sz hLi (x := rtp op) (y := d + 1) (by omega) (by omega)) hLs.1 rfl rfl rfl rfl (by decide) (fun r6 h6 hr6 => ?_)
                 obtain ⟨q1, rfl, hLi, hFn⟩ : L.length < 120 ∧ r6 = 1 ∧ LiR h6 (q + 5) (L ++ [(rtp op, d + 1)]) ∧ Fr h5 h6 (q + 5) (q + 5 + 3) := by
                   rcases hr6 with q1 | q1
                   · exact q1
                   · omega
                 refine x_zreturn dX4_takeLetter_141 rfl (by decide) ?_
                 refine ⟨_, rfl, Or.inl ⟨_, pl, rfl, rfl, ⟨a, _, u, 0, ((d + 1 : Nat) : Int), (hP.mv hFn (by omega)).st, hu, rfl, fun _ => rfl, ha, fun i hi => ?_⟩, ⟨hS.mv hFn (by omega), (hN.mv hFn (by omega)).cg (fun i i1 i2 => ?_), hLi, hPl.mv hFn (by omega)⟩⟩, hG5.tr (F2.r hFn (by omega) (by omega))⟩
                 · show zU b (c - 97).toNat ((d + 1 : Nat) : Int) i = if fU nb (c - 97).toNat (d + 1) i = 0 then -1 else ((fU nb (c - 97).toNat (d + 1) i : Nat) : Int)
                   by_cases q2 : i = (c - 97).toNat
                   · rw [q2, zU_s, fU_s, if_neg (by omega)]
                   · rw [zU_n q2, fU_n q2]
                     exact hb i hi
                 · dsimp only [rdC]
                   by_cases q2 : i = d + 1
                   · rw [q2, fU_s, fU_s, fU_s]
                     exact ⟨rfl, rfl⟩
                   · rw [fU_n q2, fU_n q2, fU_n q2]
                     exact ⟨rfl, rfl⟩)
              | (have hG5 : F2 h h5 p q := hG0.tr (F2.l hFn (by omega) (by omega))
                 refine i_V dX4_takeLetter_138 lX4_78 (c_X1_append sz hLi (x := rtp op) (y := nb (c - 97).toNat) (by omega) (by omega)) hLs.1 rfl rfl rfl rfl (by decide) (fun r6 h6 hr6 => ?_)
                 obtain ⟨q1, rfl, hLi, hFn⟩ : L.length < 120 ∧ r6 = 1 ∧ LiR h6 (q + 5) (L ++ [(rtp op, nb (c - 97).toNat)]) ∧ Fr h5 h6 (q + 5) (q + 5 + 3) := by
                   rcases hr6 with q1 | q1
                   · exact q1
                   · omega
                 refine x_zreturn dX4_takeLetter_141 rfl (by decide) ?_
                 exact ⟨_, rfl, Or.inl ⟨_, pl, rfl, rfl, ⟨a, b, u, 0, -1, (hP.mv hFn (by omega)).st, hu, rfl, fun _ => rfl, ha, hb⟩, ⟨hS.mv hFn (by omega), hN.mv hFn (by omega), hLi, hPl.mv hFn (by omega)⟩⟩, hG5.tr (F2.r hFn (by omega) (by omega))⟩)
        · refine x_iconst dX4_takeLetter_31 ?_
          refine x_zreturn dX4_takeLetter_32 rfl (by decide) ?_
          first
            | omega
            | (rw [if_neg (by omega)]
               exact ⟨_, rfl, Or.inr ⟨rfl, rfl, hRe0.R, _, hSt0⟩, F2.rf⟩)
