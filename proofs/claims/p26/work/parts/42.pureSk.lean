/-! PURE: the places of a graph, as pairs of a node and its level -/
def skF (K : Nat → List Nat) : Nat → Nat → List Nat → List (Nat × Nat)
  | 0, _, _ => []
  | n + 1, lev, cs => cs.flatMap fun y => (y, lev) :: skF K n (lev + 1) (K y)
def skL (pl : List PE) : List (Nat × Nat) := pl.map fun q => (q.1, q.2.1)
theorem lyF_sk (K : Nat → List Nat) (bef : List PE) : ∀ (n lev : Nat) (o : Int) (cs : List Nat), skL (lyF K bef n lev o cs) = skF K n lev cs
  | 0, _, _, _ => rfl
  | n + 1, lev, o, cs => by
    rw [lyF, skF, skL, List.map_flatMap]
    congr 1
    funext y
    rw [List.map_cons]
    exact congrArg _ (lyF_sk K bef n (lev + 1) _ _)
theorem skL_len (pl : List PE) : (skL pl).length = pl.length := List.length_map _
theorem skL_get {pl : List PE} {i : Nat} (h : i < pl.length) : (skL pl)[i]? = some (pn pl i, pv pl i) := by
  unfold skL pn pv
  rw [List.getElem?_map, List.getD_eq_getElem?_getD, List.getElem?_eq_getElem h]
  rfl
theorem skL_ext {a b : List PE} (hl : a.length = b.length) (h : ∀ i, pn a i = pn b i ∧ pv a i = pv b i) : skL a = skL b := by
  apply List.ext_getElem?
  intro i
  by_cases hi : i < a.length
  · rw [skL_get hi, skL_get (by omega), (h i).1, (h i).2]
  · rw [List.getElem?_eq_none (by rw [skL_len]; omega), List.getElem?_eq_none (by rw [skL_len]; omega)]
theorem skL_at {pl : List PE} {A R : List (Nat × Nat)} {q : Nat × Nat} (h : skL pl = A ++ q :: R) : A.length < pl.length ∧ pn pl A.length = q.1 ∧ pv pl A.length = q.2 := by
  have h1 : A.length < pl.length := by
    rw [← skL_len, h, List.length_append, List.length_cons]
    omega
  have h2 := skL_get h1
  rw [h, List.getElem?_append_right (Nat.le_refl _), Nat.sub_self, List.getElem?_cons_zero] at h2
  have h3 := Option.some.inj h2
  rw [h3]
  exact ⟨h1, rfl, rfl⟩
theorem skF_app (K : Nat → List Nat) (n lev : Nat) (a b : List Nat) : skF K n lev (a ++ b) = skF K n lev a ++ skF K n lev b := by
  cases n with
  | zero => rfl
  | succ n => rw [skF, skF, skF, List.flatMap_append]
theorem skF_cons (K : Nat → List Nat) (n lev y : Nat) (cs : List Nat) : skF K (n + 1) lev (y :: cs) = (y, lev) :: (skF K n (lev + 1) (K y) ++ skF K (n + 1) lev cs) := by
  rw [skF, List.flatMap_cons, List.cons_append]
  rfl
theorem skF_nil (K : Nat → List Nat) (n lev : Nat) : skF K n lev [] = [] := by
  cases n <;> rfl
theorem skF_lev (K : Nat → List Nat) : ∀ (n lev : Nat) (cs : List Nat), ∀ q ∈ skF K n lev cs, lev ≤ q.2
  | 0, _, _ => fun q hq => by cases hq
  | n + 1, lev, cs => fun q hq => by
    rw [skF] at hq
    obtain ⟨y, hy, h1⟩ := List.mem_flatMap.mp hq
    rcases List.mem_cons.mp h1 with h2 | h2
    · rw [h2]
      exact Nat.le_refl _
    · have := skF_lev K n (lev + 1) (K y) q h2
      omega
theorem skF_head (K : Nat → List Nat) (n lev : Nat) (cs : List Nat) (q : Nat × Nat) (R : List (Nat × Nat)) (h : skF K n lev cs = q :: R) : q.2 = lev := by
  cases n with
  | zero => cases h
  | succ n =>
    cases cs with
    | nil => cases h
    | cons y cs =>
      rw [skF_cons] at h
      injection h with h1 h2
      rw [← h1]
theorem Dp_kid {K : Nat → List Nat} {n x y : Nat} (h : Dp K n x) (hy : y ∈ K x) : 1 ≤ n ∧ Dp K (n - 1) y := Dp_kids h hy
/-- what stands at a place: what is within it follows, and its parent stands ahead -/
theorem sk_block (K : Nat → List Nat) : ∀ (n lev : Nat) (cs : List Nat), (∀ y ∈ cs, Dp K (n - 1) y) → ∀ (A : List (Nat × Nat)) (x v : Nat) (R : List (Nat × Nat)), skF K n lev cs = A ++ (x, v) :: R →
    ∃ (k : Nat) (B : List (Nat × Nat)), v = lev + k ∧ k + 1 ≤ n ∧ R = skF K (n - 1 - k) (v + 1) (K x) ++ B ∧ (∀ q T, B = q :: T → q.2 ≤ v) ∧ Dp K (n - 1 - k) x ∧
      ((k = 0 ∧ x ∈ cs ∧ ∀ q ∈ A, lev ≤ q.2) ∨ (1 ≤ k ∧ ∃ A0 y A1, A = A0 ++ (y, v - 1) :: A1 ∧ (∀ q ∈ A1, v ≤ q.2) ∧ x ∈ K y))
  | 0, _, _ => by
    intro _ A x v R h
    have h1 : ([] : List (Nat × Nat)) = A ++ (x, v) :: R := h
    have h2 := congrArg List.length h1
    rw [List.length_append, List.length_cons] at h2
    simp at h2
  | n + 1, lev, cs => by
    induction cs with
    | nil =>
      intro _ A x v R h
      have h1 : ([] : List (Nat × Nat)) = A ++ (x, v) :: R := h
      have h2 := congrArg List.length h1
      rw [List.length_append, List.length_cons] at h2
      simp at h2
    | cons w cs ihq =>
      intro hD A x v R h
      rw [skF_cons] at h
      have hDw : Dp K n w := hD w List.mem_cons_self
      have hin : ∀ (A' R' : List (Nat × Nat)), skF K n (lev + 1) (K w) = A' ++ (x, v) :: R' → A = (w, lev) :: A' → R = R' ++ skF K (n + 1) lev cs →
          ∃ (k : Nat) (B : List (Nat × Nat)), v = lev + k ∧ k + 1 ≤ n + 1 ∧ R = skF K (n + 1 - 1 - k) (v + 1) (K x) ++ B ∧ (∀ q T, B = q :: T → q.2 ≤ v) ∧ Dp K (n + 1 - 1 - k) x ∧
            ((k = 0 ∧ x ∈ w :: cs ∧ ∀ q ∈ A, lev ≤ q.2) ∨ (1 ≤ k ∧ ∃ A0 y A1, A = A0 ++ (y, v - 1) :: A1 ∧ (∀ q ∈ A1, v ≤ q.2) ∧ x ∈ K y)) := by
        intro A' R' h1 h2 h3
        obtain ⟨k, B, g1, g2, g3, g4, g5, g6⟩ := sk_block K n (lev + 1) (K w) (fun y hy => (Dp_kid hDw hy).2) A' x v R' h1
        refine ⟨k + 1, B ++ skF K (n + 1) lev cs, by omega, by omega, ?_, ?_, ?_, Or.inr ⟨by omega, ?_⟩⟩
        · rw [h3, g3, List.append_assoc, show n + 1 - 1 - (k + 1) = n - 1 - k by omega]
        · intro q T hq
          cases B with
          | nil =>
            have := skF_head K _ _ _ _ _ hq
            omega
          | cons b B =>
            rw [List.cons_append] at hq
            injection hq with q1 q2
            rw [← q1]
            exact g4 b B rfl
        · rw [show n + 1 - 1 - (k + 1) = n - 1 - k by omega]
          exact g5
        · rcases g6 with ⟨j1, j2, j3⟩ | ⟨j1, A0, y, A1, j2, j3, j4⟩
          · refine ⟨[], w, A', ?_, fun q hq => ?_, j2⟩
            · rw [h2, show v - 1 = lev by omega]
              rfl
            · have := j3 q hq
              omega
          · refine ⟨(w, lev) :: A0, y, A1, ?_, j3, j4⟩
            rw [h2, j2]
            rfl
      have hout : ∀ A' : List (Nat × Nat), skF K (n + 1) lev cs = A' ++ (x, v) :: R → A = (w, lev) :: (skF K n (lev + 1) (K w) ++ A') →
          ∃ (k : Nat) (B : List (Nat × Nat)), v = lev + k ∧ k + 1 ≤ n + 1 ∧ R = skF K (n + 1 - 1 - k) (v + 1) (K x) ++ B ∧ (∀ q T, B = q :: T → q.2 ≤ v) ∧ Dp K (n + 1 - 1 - k) x ∧
            ((k = 0 ∧ x ∈ w :: cs ∧ ∀ q ∈ A, lev ≤ q.2) ∨ (1 ≤ k ∧ ∃ A0 y A1, A = A0 ++ (y, v - 1) :: A1 ∧ (∀ q ∈ A1, v ≤ q.2) ∧ x ∈ K y)) := by
        intro A' h1 h2
        obtain ⟨k, B, g1, g2, g3, g4, g5, g6⟩ := ihq (fun y hy => hD y (List.mem_cons_of_mem _ hy)) A' x v R h1
        refine ⟨k, B, g1, g2, g3, g4, g5, ?_⟩
        rcases g6 with ⟨j1, j2, j3⟩ | ⟨j1, A0, y, A1, j2, j3, j4⟩
        · refine Or.inl ⟨j1, List.mem_cons_of_mem _ j2, fun q hq => ?_⟩
          rw [h2] at hq
          rcases List.mem_cons.mp hq with q1 | q1
          · rw [q1]
            exact Nat.le_refl _
          · rcases List.mem_append.mp q1 with q2 | q2
            · have := skF_lev K _ _ _ q q2
              omega
            · exact j3 q q2
        · refine Or.inr ⟨j1, (w, lev) :: (skF K n (lev + 1) (K w) ++ A0), y, A1, ?_, j3, j4⟩
          rw [h2, j2, List.cons_append, List.append_assoc]
      cases A with
      | nil =>
        rw [List.nil_append] at h
        injection h with h1 h2
        injection h1 with h3 h4
        subst h3
        subst h4
        refine ⟨0, skF K (n + 1) lev cs, rfl, by omega, h2.symm, fun q T hq => by rw [skF_head K _ _ _ _ _ hq]; exact Nat.le_refl _, hDw, Or.inl ⟨rfl, List.mem_cons_self, fun q hq => by cases hq⟩⟩
      | cons a A =>
        rw [List.cons_append] at h
        injection h with h1 h2
        subst h1
        rcases List.append_eq_append_iff.mp h2 with ⟨as, q1, q2⟩ | ⟨bs, q1, q2⟩
        · exact hout as q2 (by rw [q1])
        · cases bs with
          | nil =>
            rw [List.nil_append] at q2
            rw [List.append_nil] at q1
            exact hout [] q2.symm (by rw [q1, List.append_nil])
          | cons b bs =>
            rw [List.cons_append] at q2
            injection q2 with q3 q4
            subst q3
            exact hin A bs q1 rfl q4
/-- the same, of a row of places -/
theorem sk_at {pl : List PE} {K : Nat → List Nat} (hS : skL pl = skF K 40 1 (K 0)) (hD : Dp K 40 0) {i : Nat} (hi : i < pl.length) :
    ∃ A B, A.length = i ∧ skL pl = A ++ (pn pl i, pv pl i) :: (skF K (40 - pv pl i) (pv pl i + 1) (K (pn pl i)) ++ B) ∧ (1 ≤ pv pl i ∧ pv pl i ≤ 40) ∧ (∀ q T, B = q :: T → q.2 ≤ pv pl i) ∧ Dp K (40 - pv pl i) (pn pl i) ∧
      ((pv pl i = 1 ∧ pn pl i ∈ K 0) ∨ (2 ≤ pv pl i ∧ ∃ A0 y A1, A = A0 ++ (y, pv pl i - 1) :: A1 ∧ (∀ q ∈ A1, pv pl i ≤ q.2) ∧ pn pl i ∈ K y)) := by
  have hi' : i < (skL pl).length := by rw [skL_len]; exact hi
  have h1 : skL pl = (skL pl).take i ++ (pn pl i, pv pl i) :: (skL pl).drop (i + 1) := by
    have h2 := skL_get hi
    have h3 : (skL pl)[i]? = some (skL pl)[i] := List.getElem?_eq_getElem hi'
    rw [h3] at h2
    have h4 := Option.some.inj h2
    rw [← h4, ← List.drop_eq_getElem_cons hi', List.take_append_drop]
  have h2 := h1
  rw [hS] at h2
  rw [← hS] at h2
  obtain ⟨k, B, g1, g2, g3, g4, g5, g6⟩ := sk_block K 40 1 (K 0) (fun y hy => (Dp_kid hD hy).2) ((skL pl).take i) (pn pl i) (pv pl i) ((skL pl).drop (i + 1)) (hS.symm.trans h1)
  refine ⟨(skL pl).take i, B, by rw [List.length_take]; omega, ?_, ⟨by omega, by omega⟩, g4, ?_, ?_⟩
  · rw [show 40 - pv pl i = 40 - 1 - k by omega, ← g3]
    exact h1
  · rw [show 40 - pv pl i = 40 - 1 - k by omega]
    exact g5
  · rcases g6 with ⟨j1, j2, j3⟩ | ⟨j1, A0, y, A1, j2, j3, j4⟩
    · exact Or.inl ⟨by omega, j2⟩
    · exact Or.inr ⟨by omega, A0, y, A1, j2, j3, j4⟩
/-- the place ahead that a place is within -/
theorem sk_par {pl : List PE} {K : Nat → List Nat} (hS : skL pl = skF K 40 1 (K 0)) (hD : Dp K 40 0) {i : Nat} (hi : i < pl.length) :
    (pv pl i = 1 ∧ pn pl i ∈ K 0) ∨ ∃ j, j < i ∧ pv pl j + 1 = pv pl i ∧ (∀ m, j < m → m < i → pv pl i ≤ pv pl m) ∧ pn pl i ∈ K (pn pl j) := by
  obtain ⟨A, B, g1, g2, g3, g4, g5, g6⟩ := sk_at hS hD hi
  rcases g6 with q | ⟨j0, A0, y, A1, j1, j2, j3⟩
  · exact Or.inl q
  · refine Or.inr ⟨A0.length, ?_, ?_, ?_, ?_⟩
    · rw [← g1, j1, List.length_append, List.length_cons]
      omega
    · rw [j1, List.append_assoc, List.cons_append] at g2
      have h1 := (skL_at g2).2.2
      rw [h1]
      show pv pl i - 1 + 1 = _
      omega
    · intro m hm1 hm2
      have hm3 : m < pl.length := by omega
      have h1 := skL_get hm3
      rw [g2, List.getElem?_append_left (by omega), j1, List.getElem?_append_right (by omega)] at h1
      obtain ⟨t, ht⟩ : ∃ t, m - A0.length = t + 1 := ⟨m - A0.length - 1, by omega⟩
      rw [ht, List.getElem?_cons_succ] at h1
      exact j2 _ (List.mem_of_getElem? h1)
    · rw [j1, List.append_assoc, List.cons_append] at g2
      have h1 := (skL_at g2).2.1
      rw [h1]
      exact j3
theorem sk_lv {pl : List PE} {K : Nat → List Nat} (hS : skL pl = skF K 40 1 (K 0)) (hD : Dp K 40 0) : LvP pl := by
  intro i hi
  rcases sk_par hS hD hi with q | ⟨j, j1, j2, j3, j4⟩
  · exact Or.inl q.1
  · exact Or.inr ⟨j, j1, j2, j3⟩
/-- the nodes of a stretch of places -/
theorem nds_sk {pl : List PE} {A M B : List (Nat × Nat)} (h : skL pl = A ++ (M ++ B)) : nds pl A.length (A.length + M.length) = M.map (·.1) := by
  unfold nds
  rw [Nat.add_sub_cancel_left]
  apply List.ext_getElem?
  intro k
  by_cases hk : k < M.length
  · have h1 : A.length + k < pl.length := by
      rw [← skL_len, h, List.length_append, List.length_append]
      omega
    have h2 := skL_get h1
    rw [h, List.getElem?_append_right (by omega), Nat.add_sub_cancel_left, List.getElem?_append_left hk] at h2
    rw [List.getElem?_map, List.getElem?_map, h2, List.getElem?_range hk]
    rfl
  · rw [List.getElem?_eq_none (by rw [List.length_map, List.length_range]; omega), List.getElem?_eq_none (by rw [List.length_map]; omega)]
theorem sk_blk {pl : List PE} {K : Nat → List Nat} (hS : skL pl = skF K 40 1 (K 0)) (hD : Dp K 40 0) {i : Nat} (hi : i < pl.length) :
    pEnd pl (pv pl i) ((i : Int) + 1) = ((i + 1 + (skF K (40 - pv pl i) (pv pl i + 1) (K (pn pl i))).length : Nat) : Int) ∧ pWit pl i = (skF K (40 - pv pl i) (pv pl i + 1) (K (pn pl i))).map (·.1) := by
  obtain ⟨A, B, g1, g2, g3, g4, g5, g6⟩ := sk_at hS hD hi
  generalize hM : skF K (40 - pv pl i) (pv pl i + 1) (K (pn pl i)) = M at *
  have hlen : pl.length = i + 1 + M.length + B.length := by
    have h1 := congrArg List.length g2
    rw [skL_len, List.length_append, List.length_cons, List.length_append] at h1
    omega
  have he : pEnd pl (pv pl i) ((i : Int) + 1) = ((i + 1 + M.length : Nat) : Int) := by
    unfold pEnd
    refine fZ_eq (by omega) (by omega) (by omega) (fun j hj1 hj2 => ?_) (fun hj => ?_)
    · have hj3 : j < pl.length := by omega
      have h1 := skL_get hj3
      rw [g2, List.getElem?_append_right (by omega)] at h1
      obtain ⟨t, ht⟩ : ∃ t, j - A.length = t + 1 := ⟨j - A.length - 1, by omega⟩
      rw [ht, List.getElem?_cons_succ, List.getElem?_append_left (by omega)] at h1
      have h2 := List.mem_of_getElem? h1
      rw [← hM] at h2
      have h3 := skF_lev K _ _ _ _ h2
      dsimp only at h3
      simp
      omega
    · cases B with
      | nil =>
        simp at hlen
        omega
      | cons b B =>
        have h0 : i + 1 + M.length < pl.length := by omega
        have h1 := skL_get h0
        rw [g2, List.getElem?_append_right (by omega), show i + 1 + M.length - A.length = M.length + 1 by omega, List.getElem?_cons_succ, List.getElem?_append_right (by omega), Nat.sub_self, List.getElem?_cons_zero] at h1
        have h2 := g4 b B rfl
        rw [Option.some.inj h1] at h2
        dsimp only at h2
        rw [Int.toNat_natCast]
        simp
        omega
  refine ⟨he, ?_⟩
  unfold pWit
  have hg : gV pl (i : Int) = (pv pl i : Int) := by
    unfold gV
    rw [if_pos (by omega), Int.toNat_natCast]
  rw [hg, he, Int.toNat_natCast, show ((i : Int) + 1).toNat = i + 1 by omega]
  have h1 : skL pl = (A ++ [(pn pl i, pv pl i)]) ++ (M ++ B) := by rw [g2, List.append_assoc]; rfl
  have h2 := nds_sk h1
  rw [List.length_append, List.length_singleton, g1] at h2
  exact h2
theorem sk_all {pl : List PE} {K : Nat → List Nat} (hS : skL pl = skF K 40 1 (K 0)) : pWit pl (-1) = (skF K 40 1 (K 0)).map (·.1) := by
  have h0 : ∀ j, j < pl.length → 1 ≤ pv pl j := fun j hj => by
    have h1 := skL_get hj
    rw [hS] at h1
    exact skF_lev K _ _ _ _ (List.mem_of_getElem? h1)
  unfold pWit
  have hg : gV pl (-1) = 0 := by
    unfold gV
    rw [if_neg (by omega)]
  have he : pEnd pl 0 (-1 + 1) = (pl.length : Int) := by
    unfold pEnd
    refine fZ_eq (by omega) (by omega) (by omega) (fun j hj1 hj2 => ?_) (fun hj => ?_)
    · have := h0 j (by omega)
      simp
      omega
    · omega
  rw [hg, he]
  have h1 : skL pl = [] ++ (skF K 40 1 (K 0) ++ []) := by rw [hS, List.append_nil, List.nil_append]
  have h2 := nds_sk h1
  rw [List.length_nil, ← hS, skL_len] at h2
  rw [← hS]
  rw [← h2]
  congr 1
  omega
/-- which nodes they are -/
theorem sk_mem {K : Nat → List Nat} : ∀ (n lev : Nat) (cs : List Nat), (∀ y ∈ cs, 1 ≤ n ∧ Dp K (n - 1) y) → ∀ x, x ∈ (skF K n lev cs).map (·.1) ↔ ∃ y, y ∈ cs ∧ Rc K y x
  | 0, lev, cs, h, x => by
    constructor
    · intro h1
      cases h1
    · rintro ⟨y, h1, h2⟩
      have := (h y h1).1
      omega
  | n + 1, lev, cs, h, x => by
    have hr : ∀ y ∈ cs, (x ∈ (skF K n (lev + 1) (K y)).map (·.1) ↔ ∃ w, w ∈ K y ∧ Rc K w x) := fun y hy => sk_mem n (lev + 1) (K y) (fun w hw => Dp_kid (h y hy).2 hw) x
    constructor
    · intro h1
      obtain ⟨q, h2, h3⟩ := List.mem_map.mp h1
      rw [skF] at h2
      obtain ⟨y, hy, h4⟩ := List.mem_flatMap.mp h2
      rcases List.mem_cons.mp h4 with h5 | h5
      · rw [h5] at h3
        refine ⟨y, hy, ?_⟩
        rw [show x = y from h3.symm]
        exact Rc.rf K y
      · obtain ⟨w, w1, w2⟩ := (hr y hy).mp (List.mem_map.mpr ⟨q, h5, h3⟩)
        exact ⟨y, hy, Rc.hd w1 w2⟩
    · rintro ⟨y, hy, h1⟩
      rcases h1.un with h2 | h2
      · subst h2
        refine List.mem_map.mpr ⟨(y, lev), ?_, rfl⟩
        rw [skF]
        exact List.mem_flatMap.mpr ⟨y, hy, List.mem_cons_self⟩
      · obtain ⟨q, q1, q2⟩ := List.mem_map.mp ((hr y hy).mpr h2)
        refine List.mem_map.mpr ⟨q, ?_, q2⟩
        rw [skF]
        exact List.mem_flatMap.mpr ⟨y, hy, List.mem_cons_of_mem _ q1⟩
/-- graphs that are alike where one comes lay alike places -/
theorem sk_cg {K K' : Nat → List Nat} : ∀ (n lev : Nat) (cs : List Nat), (∀ y ∈ cs, ∀ x, Rc K y x → K' x = K x) → skF K' n lev cs = skF K n lev cs
  | 0, _, _, _ => rfl
  | n + 1, lev, cs, h => by
    induction cs with
    | nil => rfl
    | cons y cs ihq =>
      rw [skF_cons, skF_cons, ihq (fun w hw => h w (List.mem_cons_of_mem _ hw)), h y List.mem_cons_self y (Rc.rf K y), sk_cg n (lev + 1) (K y) (fun w hw x hx => h y List.mem_cons_self x (Rc.hd hw hx))]
theorem sk_perm {K K' : Nat → List Nat} (h : ∀ x, (K' x).Perm (K x)) : ∀ (n lev : Nat) (cs cs' : List Nat), cs'.Perm cs → (skF K' n lev cs').length = (skF K n lev cs).length
  | 0, _, _, _, _ => rfl
  | n + 1, lev, cs, cs', hc => by
    have h1 : (fun y => ((y, lev) :: skF K' n (lev + 1) (K' y)).length) = fun y => ((y, lev) :: skF K n (lev + 1) (K y)).length := by
      funext y
      rw [List.length_cons, List.length_cons, sk_perm h n (lev + 1) (K y) (K' y) (h y)]
    rw [skF, skF, (hc.flatMap_right (fun y => (y, lev) :: skF K' n (lev + 1) (K' y))).length_eq, List.length_flatMap, List.length_flatMap, h1]
theorem sk_le {K K' : Nat → List Nat} (h : ∀ x, (K' x).Sublist (K x)) : ∀ (n lev : Nat) (cs cs' : List Nat), cs'.Sublist cs → (skF K' n lev cs').length ≤ (skF K n lev cs).length
  | 0, _, _, _, _ => Nat.le_refl _
  | n + 1, lev, cs, cs', hc => by
    induction hc with
    | slnil => exact Nat.le_refl _
    | cons a _ ihq =>
      rw [skF_cons, List.length_cons, List.length_append]
      omega
    | cons_cons a _ ihq =>
      have h1 := sk_le h n (lev + 1) (K a) (K' a) (h a)
      rw [skF_cons, skF_cons, List.length_cons, List.length_append, List.length_cons, List.length_append]
      omega
/-- the pairs of the places: a parent and its child -/
def seF (K : Nat → List Nat) : Nat → Nat → List Nat → List (Nat × Nat)
  | 0, _, _ => []
  | n + 1, p, cs => cs.flatMap fun y => (p, y) :: seF K n y (K y)
theorem seF_len (K : Nat → List Nat) : ∀ (n lev p : Nat) (cs : List Nat), (seF K n p cs).length = (skF K n lev cs).length
  | 0, _, _, _ => rfl
  | n + 1, lev, p, cs => by
    rw [seF, skF, List.length_flatMap, List.length_flatMap]
    congr 2
    funext y
    rw [List.length_cons, List.length_cons, seF_len K n (lev + 1) y (K y)]
theorem seF_in {K : Nat → List Nat} {a b : Nat} (hb : b ∈ K a) : ∀ (n p : Nat) (cs : List Nat), (∀ y ∈ cs, 1 ≤ n ∧ Dp K (n - 1) y) → (∃ y, y ∈ cs ∧ Rc K y a) → (a, b) ∈ seF K n p cs
  | 0, _, _, h, ⟨y, h1, _⟩ => by
    have := (h y h1).1
    omega
  | n + 1, p, cs, h, ⟨y, h1, h2⟩ => by
    rw [seF]
    refine List.mem_flatMap.mpr ⟨y, h1, List.mem_cons_of_mem _ ?_⟩
    have hd : Dp K n y := (h y h1).2
    rcases h2.un with q | ⟨w, w1, w2⟩
    · subst q
      obtain ⟨k, rfl⟩ : ∃ k, n = k + 1 := ⟨n - 1, by have := (Dp_kid hd hb).1; omega⟩
      rw [seF]
      exact List.mem_flatMap.mpr ⟨b, hb, List.mem_cons_self⟩
    · exact seF_in hb n y (K y) (fun z hz => Dp_kid hd hz) ⟨w, w1, w2⟩
theorem seF_top {K : Nat → List Nat} {n p b : Nat} {cs : List Nat} (hn : 1 ≤ n) (hb : b ∈ cs) : (p, b) ∈ seF K n p cs := by
  obtain ⟨k, rfl⟩ : ∃ k, n = k + 1 := ⟨n - 1, by omega⟩
  rw [seF]
  exact List.mem_flatMap.mpr ⟨b, hb, List.mem_cons_self⟩
