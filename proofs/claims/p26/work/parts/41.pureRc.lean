/-! PURE: reaching, ranks, and what an edge more or less changes -/
theorem Rc.tr {K : Nat → List Nat} {a b e : Nat} (h : Rc K a b) (h2 : Rc K b e) : Rc K a e := by
  obtain ⟨n, hn⟩ := h2
  induction n generalizing e with
  | zero =>
    have q : e = b := hn
    rw [q]
    exact h
  | succ n ihq =>
    obtain ⟨z, h1, h3⟩ := hn
    exact (ihq h1).st h3
theorem Rc.hd {K : Nat → List Nat} {a b e : Nat} (h : b ∈ K a) (h2 : Rc K b e) : Rc K a e := ((Rc.rf K a).st h).tr h2
theorem Rc.un {K : Nat → List Nat} {a b : Nat} (h : Rc K a b) : a = b ∨ ∃ y, y ∈ K a ∧ Rc K y b := by
  obtain ⟨n, hn⟩ := h
  induction n generalizing b with
  | zero =>
    have q : b = a := hn
    exact Or.inl q.symm
  | succ n ihq =>
    obtain ⟨z, h1, h3⟩ := hn
    rcases ihq h1 with q | ⟨y, h4, h5⟩
    · subst q
      exact Or.inr ⟨b, h3, Rc.rf K b⟩
    · exact Or.inr ⟨y, h4, h5.st h3⟩
theorem Rc.sub {K K' : Nat → List Nat} (hs : ∀ u y, y ∈ K' u → y ∈ K u) {a b : Nat} (h : Rc K' a b) : Rc K a b := by
  obtain ⟨n, hn⟩ := h
  induction n generalizing b with
  | zero =>
    have q : b = a := hn
    rw [q]
    exact Rc.rf K a
  | succ n ihq =>
    obtain ⟨z, h1, h3⟩ := hn
    exact (ihq h1).st (hs _ _ h3)
/-- an edge more -/
def AdE (K K' : Nat → List Nat) (p x : Nat) : Prop := ∀ u y, y ∈ K' u ↔ y ∈ K u ∨ (u = p ∧ y = x)
theorem AdE.of (K : Nat → List Nat) (p x : Nat) : AdE K (fU K p (K p ++ [x])) p x := by
  intro u y
  by_cases q : u = p
  · subst q
    rw [fU_s, List.mem_append, List.mem_singleton]
    exact ⟨fun z => z.elim Or.inl (fun z => Or.inr ⟨rfl, z⟩), fun z => z.elim Or.inl (fun z => Or.inr z.2)⟩
  · rw [fU_n q]
    exact ⟨Or.inl, fun z => z.elim id (fun z => absurd z.1 q)⟩
theorem AdE.rc {K K' : Nat → List Nat} {p x : Nat} (hA : AdE K K' p x) {y u : Nat} (h : Rc K' y u) : Rc K y u ∨ (Rc K y p ∧ Rc K x u) := by
  obtain ⟨n, hn⟩ := h
  induction n generalizing u with
  | zero =>
    have q : u = y := hn
    rw [q]
    exact Or.inl (Rc.rf K y)
  | succ n ihq =>
    obtain ⟨z, h1, h3⟩ := hn
    rcases (hA z u).mp h3 with q | ⟨q1, q2⟩
    · rcases ihq h1 with a | ⟨a1, a2⟩
      · exact Or.inl (a.st q)
      · exact Or.inr ⟨a1, a2.st q⟩
    · subst q1
      subst q2
      rcases ihq h1 with a | ⟨a1, a2⟩
      · exact Or.inr ⟨a, Rc.rf K u⟩
      · exact Or.inr ⟨a1, Rc.rf K u⟩
theorem AdE.up {K K' : Nat → List Nat} {p x : Nat} (hA : AdE K K' p x) {y u : Nat} (h : Rc K y u) : Rc K' y u := Rc.sub (fun a b q => (hA a b).mpr (Or.inl q)) h
/-- nothing stands within itself -/
def Rnk (K : Nat → List Nat) : Prop := ∃ g : Nat → Nat, ∀ x, ∀ y ∈ K x, g y < g x
theorem Rnk.rc {K : Nat → List Nat} {g : Nat → Nat} (hg : ∀ x, ∀ y ∈ K x, g y < g x) {a b : Nat} (h : Rc K a b) : a = b ∨ g b < g a := by
  obtain ⟨n, hn⟩ := h
  induction n generalizing b with
  | zero =>
    have q : b = a := hn
    exact Or.inl q.symm
  | succ n ihq =>
    obtain ⟨z, h1, h3⟩ := hn
    have h4 := hg _ _ h3
    rcases ihq h1 with q | q
    · rw [q]
      exact Or.inr h4
    · exact Or.inr (Nat.lt_trans h4 q)
theorem Rnk.no {K : Nat → List Nat} (h : Rnk K) {a b : Nat} (h1 : b ∈ K a) : ¬ Rc K b a := by
  obtain ⟨g, hg⟩ := h
  intro h2
  have h3 := hg _ _ h1
  rcases Rnk.rc hg h2 with q | q
  · rw [q] at h3
    omega
  · omega
theorem Rnk.sub {K K' : Nat → List Nat} (h : Rnk K) (hs : ∀ u y, y ∈ K' u → y ∈ K u) : Rnk K' := by
  obtain ⟨g, hg⟩ := h
  exact ⟨g, fun x y hy => hg _ _ (hs _ _ hy)⟩
theorem Rnk.add {K K' : Nat → List Nat} {p x : Nat} (h : Rnk K) (hA : AdE K K' p x) (hn : ¬ Rc K x p) : Rnk K' := by
  obtain ⟨g, hg⟩ := h
  classical
  refine ⟨fun y => if Rc K y p then g y + (g x + 1) else g y, fun u y hy => ?_⟩
  dsimp only
  rcases (hA u y).mp hy with q | ⟨q1, q2⟩
  · have h3 := hg _ _ q
    by_cases a : Rc K y p
    · rw [if_pos a, if_pos (Rc.hd q a)]
      omega
    · rw [if_neg a]
      split <;> omega
  · subst q1
    subst q2
    rw [if_neg hn, if_pos (Rc.rf K u)]
    omega
theorem cB_lex {p q : Nat → Bool} (h : ∀ k, p k = true → q k = true) : ∀ n, cB p n ≤ cB q n
  | 0 => Nat.le_refl _
  | n + 1 => by
    have h1 := cB_lex h n
    rw [cB_s, cB_s]
    by_cases a : p n = true
    · rw [if_pos a, if_pos (h n a)]
      omega
    · rw [if_neg a]
      omega
theorem cB_less {p q : Nat → Bool} (h : ∀ k, p k = true → q k = true) {j : Nat} (h1 : p j = false) (h2 : q j = true) : ∀ n, j < n → cB p n < cB q n
  | 0, h3 => by omega
  | n + 1, h3 => by
    rw [cB_s, cB_s]
    by_cases e : j = n
    · subst e
      have h4 := cB_lex h j
      rw [h1, h2]
      simp
      omega
    · have h4 := cB_less h h1 h2 n (by omega)
      by_cases a : p n = true
      · rw [if_pos a, if_pos (h n a)]
        omega
      · rw [if_neg a]
        omega
/-- one place more is counted -/
theorem cB_one {p q : Nat → Bool} {j : Nat} (h : ∀ k, k ≠ j → p k = q k) (h1 : p j = true) (h2 : q j = false) : ∀ n, cB p n = cB q n + if j < n then 1 else 0
  | 0 => by rw [if_neg (by omega)]; rfl
  | n + 1 => by
    rw [cB_s, cB_s, cB_one h h1 h2 n]
    by_cases e : n = j
    · subst e
      rw [h1, h2, if_neg (show ¬ n < n by omega), if_pos (show n < n + 1 by omega)]
      rfl
    · rw [h n e]
      by_cases qe2q : j < n
      · rw [if_pos qe2q, if_pos (show j < n + 1 by omega)]
        omega
      · rw [if_neg qe2q, if_neg (show ¬ j < n + 1 by omega)]
        omega
theorem cB_cut {p : Nat → Bool} {n : Nat} (h : ∀ k, n ≤ k → p k = false) : ∀ m, cB p (n + m) = cB p n
  | 0 => rfl
  | m + 1 => by
    rw [← Nat.add_assoc, cB_s, cB_cut h m, h (n + m) (by omega)]
    rfl
theorem cB_cut' {p : Nat → Bool} {n k : Nat} (h : ∀ k, n ≤ k → p k = false) (hk : n ≤ k) : cB p k = cB p n := by
  obtain ⟨m, rfl⟩ : ∃ m, k = n + m := ⟨k - n, by omega⟩
  exact cB_cut h m
theorem cB_sh (p : Nat → Bool) : ∀ n, cB p (n + 1) = (if p 0 then 1 else 0) + cB (fun k => p (k + 1)) n
  | 0 => by rw [cB_s]; show 0 + _ = _ + 0; omega
  | n + 1 => by
    rw [cB_s, cB_sh p n, cB_s]
    omega
/-- how many different ones a row without repeats holds -/
theorem nd_cB : ∀ {l : List Nat} {n : Nat}, l.Nodup → (∀ y ∈ l, y < n) → l.length = cB (fun k => decide (k ∈ l)) n
  | [], n, _, _ => by
    have : ∀ m, cB (fun k => decide (k ∈ ([] : List Nat))) m = 0 := by
      intro m
      induction m with
      | zero => rfl
      | succ m ihq => rw [cB_s, ihq]; simp
    rw [this]
    rfl
  | a :: l, n, h1, h2 => by
    have h3 := List.nodup_cons.mp h1
    have h4 := nd_cB (l := l) (n := n) h3.2 (fun y hy => h2 y (List.mem_cons_of_mem _ hy))
    have h5 := cB_one (p := fun k => decide (k ∈ a :: l)) (q := fun k => decide (k ∈ l)) (j := a) (fun k hk => by simp [List.mem_cons, hk]) (by simp) (by simpa using h3.1) n
    rw [if_pos (h2 a List.mem_cons_self)] at h5
    rw [List.length_cons, h4, h5]
theorem nd_len {l : List Nat} {n : Nat} (h1 : l.Nodup) (h2 : ∀ y ∈ l, 1 ≤ y ∧ y ≤ n) : l.length ≤ n := by
  have h3 := nd_cB (n := n + 1) h1 (fun y hy => by have := h2 y hy; omega)
  have h4 : decide (0 ∈ l) = false := by
    have : 0 ∉ l := fun q => by have := h2 0 q; omega
    simpa using this
  have h5 := cB_sh (fun k => decide (k ∈ l)) n
  rw [h4] at h5
  have h6 := cB_le (fun k => decide (k + 1 ∈ l)) n
  rw [h3, h5, if_neg (by decide)]
  omega
theorem nd_sub {α : Type} [BEq α] [LawfulBEq α] : ∀ {l m : List α}, l.Nodup → (∀ y ∈ l, y ∈ m) → l.length ≤ m.length
  | [], m, _, _ => Nat.zero_le _
  | a :: l, m, h1, h2 => by
    have h3 := List.nodup_cons.mp h1
    have ha : a ∈ m := h2 a List.mem_cons_self
    have h4 := nd_sub (l := l) (m := m.erase a) h3.2 (fun y hy => (List.mem_erase_of_ne (fun q : y = a => h3.1 (by rw [← q]; exact hy))).mpr (h2 y (List.mem_cons_of_mem _ hy)))
    rw [List.length_erase_of_mem ha] at h4
    have h5 := List.length_pos_of_mem ha
    rw [List.length_cons]
    omega
theorem Dp_up {K : Nat → List Nat} : ∀ {n x : Nat}, Dp K n x → Dp K (n + 1) x
  | 0, x, h => fun y hy => by
    have : K x = [] := h
    rw [this] at hy
    cases hy
  | n + 1, x, h => fun y hy => Dp_up (h y hy)
theorem Dp_le {K : Nat → List Nat} {n m x : Nat} (h : Dp K n x) (hm : n ≤ m) : Dp K m x := by
  obtain ⟨k, rfl⟩ : ∃ k, m = n + k := ⟨m - n, by omega⟩
  clear hm
  induction k with
  | zero => exact h
  | succ k ihq => exact Dp_up ihq
theorem Rnk.dp {K : Nat → List Nat} (h : Rnk K) (hb : ∀ x, ∀ y ∈ K x, y ≤ 40) : Dp K 40 0 := by
  obtain ⟨g, hg⟩ := h
  have h1 : ∀ x, ∀ y ∈ K x, cB (fun k => decide (g k < g y)) 41 < cB (fun k => decide (g k < g x)) 41 := by
    intro x y hy
    have h2 := hg _ _ hy
    have h3 := hb _ _ hy
    refine cB_less (j := y) (fun k hk => ?_) (by simp) (by simpa using h2) 41 (by omega)
    simp only [decide_eq_true_eq] at hk ⊢
    omega
  have h4 : ∀ n x, cB (fun k => decide (g k < g x)) 41 ≤ n → Dp K n x := by
    intro n
    induction n with
    | zero =>
      intro x hx
      cases e : K x with
      | nil => exact e
      | cons y l =>
        have := h1 x y (by rw [e]; exact List.mem_cons_self)
        omega
    | succ n ihq =>
      intro x hx y hy
      have := h1 x y hy
      exact ihq y (by omega)
  refine h4 40 0 ?_
  have h5 := cB_less (p := fun k => decide (g k < g 0)) (q := fun _ => true) (j := 0) (fun _ _ => rfl) (by simp) rfl 41 (by omega)
  have h6 := cB_le (fun _ => true) 41
  omega
