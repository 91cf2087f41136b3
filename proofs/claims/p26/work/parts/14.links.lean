-- the pairs of a parent and its child
abbrev LK : Type := Nat × Nat
def lp (L : List LK) (i : Nat) : LK := L.getD i (0, 0)
def LiB (L : List LK) : Prop := L.length ≤ 120 ∧ ∀ q ∈ L, q.1 ≤ 40 ∧ 1 ≤ q.2 ∧ q.2 ≤ 40
def LiH (L : List LK) (a b : Nat → Int) : Prop := ∀ i, i < L.length → a i = (lp L i).1 ∧ b i = (lp L i).2
abbrev liF (p : Nat) (s : Int) : List Value := [.ref (p + 1 + 0), .ref (p + 1 + 1), .int (zI s)]
abbrev liA (a b : Nat → Int) : List (Nat × Nat × (Nat → Int)) := [(0, 120, a), (0, 120, b)]
def LiR (h : AH) (p : Nat) (L : List LK) : Prop := ∃ a b, SO h h p 3 1 (liF p L.length) (liA a b) ∧ LiB L ∧ LiH L a b
theorem lp_mem {L : List LK} {i : Nat} (h : i < L.length) : lp L i ∈ L := by
  unfold lp
  rw [List.getD_eq_getElem?_getD, List.getElem?_eq_getElem h]
  exact List.getElem_mem h
theorem lp_take {L : List LK} {i : Int} (h0 : 0 ≤ i) (h : i < L.length) : L.take (i + 1).toNat = L.take i.toNat ++ [lp L i.toNat] := by
  rw [show (i + 1).toNat = i.toNat + 1 by omega, List.take_add_one]
  unfold lp
  rw [List.getD_eq_getElem?_getD, List.getElem?_eq_getElem (by omega)]
  rfl
theorem lp_r {L : List LK} (hB : LiB L) {i : Nat} (h : i < L.length) : (lp L i).1 ≤ 40 ∧ 1 ≤ (lp L i).2 ∧ (lp L i).2 ≤ 40 := hB.2 _ (lp_mem h)
def kid (L : List LK) (x : Nat) : List Nat := (L.filter (fun q => decide (q.1 = x))).map (·.2)
theorem kid_app (L M : List LK) (x : Nat) : kid (L ++ M) x = kid L x ++ kid M x := by
  unfold kid
  rw [List.filter_append, List.map_append]
theorem kid_nil (x : Nat) : kid [] x = [] := rfl
theorem kid_hit (L : List LK) (x y : Nat) : kid ((x, y) :: L) x = y :: kid L x := by
  unfold kid
  rw [List.filter_cons_of_pos (by simp)]
  rfl
theorem kid_miss (L : List LK) {q : LK} {x : Nat} (h : q.1 ≠ x) : kid (q :: L) x = kid L x := by
  unfold kid
  rw [List.filter_cons_of_neg (by simpa using h)]
/-- the first place of a thing in a list, or -1 -/
def lfi {α : Type} [DecidableEq α] : List α → α → Int
  | [], _ => -1
  | x :: l, y => if x = y then 0 else if lfi l y < 0 then -1 else lfi l y + 1
theorem lfi_no {α : Type} [DecidableEq α] : ∀ (l : List α) (y : α), y ∉ l → lfi l y = -1
  | [], _, _ => rfl
  | x :: l, y, h => by
    rw [lfi, if_neg (fun q => h (by rw [q]; exact List.mem_cons_self)), lfi_no l y (fun q => h (List.mem_cons_of_mem _ q))]
    rfl
theorem lfi_at {α : Type} [DecidableEq α] : ∀ (l m : List α) (y : α), y ∉ l → lfi (l ++ y :: m) y = l.length
  | [], m, y, _ => by rw [List.nil_append, lfi, if_pos rfl]; rfl
  | x :: l, m, y, h => by
    rw [List.cons_append, lfi, if_neg (fun q => h (by rw [q]; exact List.mem_cons_self)), lfi_at l m y (fun q => h (List.mem_cons_of_mem _ q)), if_neg (by omega), List.length_cons]
    omega
theorem lfi_split {α : Type} [DecidableEq α] {L : List α} {i : Nat} (h : i < L.length) : L = L.take i ++ L[i] :: L.drop (i + 1) := by
  rw [List.getElem_cons_drop, List.take_append_drop]
theorem lp_split {L : List LK} {i : Nat} (h : i < L.length) : L = L.take i ++ lp L i :: L.drop (i + 1) := by
  have h1 := lfi_split h
  unfold lp
  rw [List.getD_eq_getElem?_getD, List.getElem?_eq_getElem h]
  exact h1
theorem LiH.app {L : List LK} {a b : Nat → Int} (h : LiH L a b) (x y : Nat) : LiH (L ++ [(x, y)]) (zU a L.length x) (zU b L.length y) := by
  intro i hi
  rw [List.length_append] at hi
  simp at hi
  unfold lp
  by_cases e : i = L.length
  · subst e
    rw [zU_s, zU_s, List.getD_eq_getElem?_getD, List.getElem?_append_right (Nat.le_refl _), Nat.sub_self]
    exact ⟨rfl, rfl⟩
  · rw [zU_n e, zU_n e, List.getD_eq_getElem?_getD, List.getElem?_append_left (by omega), ← List.getD_eq_getElem?_getD]
    exact h i (by omega)
theorem LiB.app {L : List LK} (h : LiB L) {x y : Nat} (hl : L.length < 120) (hx : x ≤ 40) (hy : 1 ≤ y ∧ y ≤ 40) : LiB (L ++ [(x, y)]) := by
  refine ⟨by rw [List.length_append]; simp; omega, fun q hq => ?_⟩
  rcases List.mem_append.mp hq with q1 | q1
  · exact h.2 q q1
  · rw [List.mem_singleton.mp q1]
    exact ⟨hx, hy⟩
theorem LiB.sub {L M : List LK} (h : LiB L) (hl : M.length ≤ L.length) (hs : ∀ q ∈ M, q ∈ L) : LiB M := ⟨Nat.le_trans hl h.1, fun q hq => h.2 q (hs q hq)⟩

theorem ct_1 (L : List LK) (z : Int) {i : Int} (h0 : 0 ≤ i) (h : i < L.length) : (((L.take (i + 1).toNat).filter (fun q : LK => decide ((q.1 : Int) = z))).length : Int) = ((L.take i.toNat).filter (fun q : LK => decide ((q.1 : Int) = z))).length + if ((lp L i.toNat).1 : Int) = z then 1 else 0 := by
  rw [lp_take h0 h, List.filter_append, List.length_append]
  by_cases q : ((lp L i.toNat).1 : Int) = z
  · rw [if_pos q, List.filter_cons_of_pos (by simpa using q)]
    simp
  · rw [if_neg q, List.filter_cons_of_neg (by simpa using q)]
    simp
theorem c_X1_childCount (sz : Nat) {h : AH} {p : Nat} {L : List LK} (hLi : LiR h p L) {z : Int} (hz : inR z) : CC mX1_childCount 0 0 0 [.ref p, .int (zI z)] sz h (QR ((L.filter (fun q : LK => decide ((q.1 : Int) = z))).length : Int) h) := by
  refine CC.intro [some (.ref p), some (.int (zI z)), none, none] pfX1_childCount rfl rfl ?_
  have hLi0 := hLi
  obtain ⟨a, b, hP, hB, hH⟩ := hLi
  have hL := hB.1
  refine x_iconst dX1_childCount_0 ?_
  refine x_istore_n dX1_childCount_1 rfl rfl rfl ?_
  refine x_iconst dX1_childCount_2 ?_
  refine x_istore_n dX1_childCount_3 rfl rfl rfl ?_
  refine x_loop (fun _ => h) (fun s : Int × Int => [some (.ref p), some (.int (zI z)), some (.int (zI s.2)), some (.int (zI s.1))]) (fun s => 0 ≤ s.1 ∧ s.1 ≤ L.length ∧ s.2 = ((L.take s.1.toNat).filter (fun q : LK => decide ((q.1 : Int) = z))).length) (fun s => (L.length - s.1).toNat) (0, 0) rfl rfl ⟨by dsimp only; omega, by dsimp only; omega, rfl⟩ ?_
  rintro ⟨i, c⟩ ⟨hi0, hi1, hI⟩ ihq
  try dsimp only at *
  have hpre : i < L.length → a i.toNat = (lp L i.toNat).1 ∧ b i.toNat = (lp L i.toNat).2 ∧ (lp L i.toNat).1 ≤ 40 ∧ (lp L i.toNat).2 ≤ 40 := fun hlt => ⟨(hH i.toNat (by omega)).1, (hH i.toNat (by omega)).2, (lp_r hB (by omega)).1, (lp_r hB (by omega)).2.2⟩
  have hlen : ((L.take i.toNat).filter (fun q : LK => decide ((q.1 : Int) = z))).length ≤ 120 := Nat.le_trans (List.length_filter_le _ _) (by rw [List.length_take]; omega)
  refine x_iload_n dX1_childCount_4 rfl ?_
  refine x_aload_n dX1_childCount_5 rfl ?_
  refine s_get dX1_childCount_6 fX1_18 hP rfl ?_
  refine x_icmp_ge dX1_childCount_9 ⟨by omega, by omega⟩ ⟨by omega, by omega⟩ (fun qc9q => ?_) (fun qc9q => ?_)
  · refine x_iload_n dX1_childCount_31 rfl ?_
    refine x_ireturn dX1_childCount_32 rfl ?_
    exact ⟨by rw [hI, List.take_of_length_le (by omega)], rfl⟩
  · obtain ⟨qe1q, qe2q, qe3q, qe4q⟩ := hpre (by omega)
    have qe5q := ct_1 L z hi0 (by omega)
    refine x_aload_n dX1_childCount_12 rfl ?_
    refine s_get dX1_childCount_13 fX1_9 hP rfl ?_
    refine x_iload_n dX1_childCount_16 rfl ?_
    refine s_iald dX1_childCount_17 hP rfl rfl ⟨by omega, by omega⟩ ?_
    refine x_iload_n dX1_childCount_18 rfl ?_
    refine x_icmp_ne dX1_childCount_19 ⟨by omega, by omega⟩ ⟨by omega, by omega⟩ (fun qc19q => ?_) (fun qc19q => ?_)
    · refine x_iinc dX1_childCount_25 rfl rfl rfl ?_
      refine x_goto dX1_childCount_28 ?_
      first | (refine ihq (i + 1, c + 1) ⟨by dsimp only; omega, by dsimp only; omega, ?_⟩ (by dsimp only; omega); dsimp only; rw [qe5q, if_pos (by omega), hI]; done) | (refine ihq (i + 1, c) ⟨by dsimp only; omega, by dsimp only; omega, ?_⟩ (by dsimp only; omega); dsimp only; rw [qe5q, if_neg (by omega), hI]; omega)
    · refine x_iinc dX1_childCount_22 rfl rfl rfl ?_
      refine x_iinc dX1_childCount_25 rfl rfl rfl ?_
      refine x_goto dX1_childCount_28 ?_
      first | (refine ihq (i + 1, c + 1) ⟨by dsimp only; omega, by dsimp only; omega, ?_⟩ (by dsimp only; omega); dsimp only; rw [qe5q, if_pos (by omega), hI]; done) | (refine ihq (i + 1, c) ⟨by dsimp only; omega, by dsimp only; omega, ?_⟩ (by dsimp only; omega); dsimp only; rw [qe5q, if_neg (by omega), hI]; omega)
theorem ct_2 (L : List LK) (z : Int) {i : Int} (h0 : 0 ≤ i) (h : i < L.length) : (((L.take (i + 1).toNat).filter (fun q : LK => decide ((q.2 : Int) = z))).length : Int) = ((L.take i.toNat).filter (fun q : LK => decide ((q.2 : Int) = z))).length + if ((lp L i.toNat).2 : Int) = z then 1 else 0 := by
  rw [lp_take h0 h, List.filter_append, List.length_append]
  by_cases q : ((lp L i.toNat).2 : Int) = z
  · rw [if_pos q, List.filter_cons_of_pos (by simpa using q)]
    simp
  · rw [if_neg q, List.filter_cons_of_neg (by simpa using q)]
    simp
theorem c_X1_parentCount (sz : Nat) {h : AH} {p : Nat} {L : List LK} (hLi : LiR h p L) {z : Int} (hz : inR z) : CC mX1_parentCount 0 0 0 [.ref p, .int (zI z)] sz h (QR ((L.filter (fun q : LK => decide ((q.2 : Int) = z))).length : Int) h) := by
  refine CC.intro [some (.ref p), some (.int (zI z)), none, none] pfX1_parentCount rfl rfl ?_
  have hLi0 := hLi
  obtain ⟨a, b, hP, hB, hH⟩ := hLi
  have hL := hB.1
  refine x_iconst dX1_parentCount_0 ?_
  refine x_istore_n dX1_parentCount_1 rfl rfl rfl ?_
  refine x_iconst dX1_parentCount_2 ?_
  refine x_istore_n dX1_parentCount_3 rfl rfl rfl ?_
  refine x_loop (fun _ => h) (fun s : Int × Int => [some (.ref p), some (.int (zI z)), some (.int (zI s.2)), some (.int (zI s.1))]) (fun s => 0 ≤ s.1 ∧ s.1 ≤ L.length ∧ s.2 = ((L.take s.1.toNat).filter (fun q : LK => decide ((q.2 : Int) = z))).length) (fun s => (L.length - s.1).toNat) (0, 0) rfl rfl ⟨by dsimp only; omega, by dsimp only; omega, rfl⟩ ?_
  rintro ⟨i, c⟩ ⟨hi0, hi1, hI⟩ ihq
  try dsimp only at *
  have hpre : i < L.length → a i.toNat = (lp L i.toNat).1 ∧ b i.toNat = (lp L i.toNat).2 ∧ (lp L i.toNat).1 ≤ 40 ∧ (lp L i.toNat).2 ≤ 40 := fun hlt => ⟨(hH i.toNat (by omega)).1, (hH i.toNat (by omega)).2, (lp_r hB (by omega)).1, (lp_r hB (by omega)).2.2⟩
  have hlen : ((L.take i.toNat).filter (fun q : LK => decide ((q.2 : Int) = z))).length ≤ 120 := Nat.le_trans (List.length_filter_le _ _) (by rw [List.length_take]; omega)
  refine x_iload_n dX1_parentCount_4 rfl ?_
  refine x_aload_n dX1_parentCount_5 rfl ?_
  refine s_get dX1_parentCount_6 fX1_18 hP rfl ?_
  refine x_icmp_ge dX1_parentCount_9 ⟨by omega, by omega⟩ ⟨by omega, by omega⟩ (fun qc9q => ?_) (fun qc9q => ?_)
  · refine x_iload_n dX1_parentCount_31 rfl ?_
    refine x_ireturn dX1_parentCount_32 rfl ?_
    exact ⟨by rw [hI, List.take_of_length_le (by omega)], rfl⟩
  · obtain ⟨qe1q, qe2q, qe3q, qe4q⟩ := hpre (by omega)
    have qe5q := ct_2 L z hi0 (by omega)
    refine x_aload_n dX1_parentCount_12 rfl ?_
    refine s_get dX1_parentCount_13 fX1_15 hP rfl ?_
    refine x_iload_n dX1_parentCount_16 rfl ?_
    refine s_iald dX1_parentCount_17 hP rfl rfl ⟨by omega, by omega⟩ ?_
    refine x_iload_n dX1_parentCount_18 rfl ?_
    refine x_icmp_ne dX1_parentCount_19 ⟨by omega, by omega⟩ ⟨by omega, by omega⟩ (fun qc19q => ?_) (fun qc19q => ?_)
    · refine x_iinc dX1_parentCount_25 rfl rfl rfl ?_
      refine x_goto dX1_parentCount_28 ?_
      first | (refine ihq (i + 1, c + 1) ⟨by dsimp only; omega, by dsimp only; omega, ?_⟩ (by dsimp only; omega); dsimp only; rw [qe5q, if_pos (by omega), hI]; done) | (refine ihq (i + 1, c) ⟨by dsimp only; omega, by dsimp only; omega, ?_⟩ (by dsimp only; omega); dsimp only; rw [qe5q, if_neg (by omega), hI]; omega)
    · refine x_iinc dX1_parentCount_22 rfl rfl rfl ?_
      refine x_iinc dX1_parentCount_25 rfl rfl rfl ?_
      refine x_goto dX1_parentCount_28 ?_
      first | (refine ihq (i + 1, c + 1) ⟨by dsimp only; omega, by dsimp only; omega, ?_⟩ (by dsimp only; omega); dsimp only; rw [qe5q, if_pos (by omega), hI]; done) | (refine ihq (i + 1, c) ⟨by dsimp only; omega, by dsimp only; omega, ?_⟩ (by dsimp only; omega); dsimp only; rw [qe5q, if_neg (by omega), hI]; omega)
def shC (L : List LK) : Nat → Bool := fun k => decide (1 < (L.filter (fun q : LK => decide ((q.2 : Int) = (k : Int) + 1))).length)
theorem c_X1_sharedCount (sz : Nat) {h : AH} {p : Nat} {L : List LK} (hLi : LiR h p L) : CC mX1_sharedCount 1 0 0 [.ref p] sz h (QR (cZ (shC L) 40) h) := by
  refine CC.intro [some (.ref p), none, none] pfX1_sharedCount rfl rfl ?_
  have hLi0 := hLi
  obtain ⟨a, b, hP, hB, hH⟩ := hLi
  have hL := hB.1
  refine x_iconst dX1_sharedCount_0 ?_
  refine x_istore_n dX1_sharedCount_1 rfl rfl rfl ?_
  refine x_iconst dX1_sharedCount_2 ?_
  refine x_istore_n dX1_sharedCount_3 rfl rfl rfl ?_
  refine x_loop (fun _ => h) (fun s : Int × Int => [some (.ref p), some (.int (zI s.2)), some (.int (zI s.1))]) (fun s => 1 ≤ s.1 ∧ s.1 ≤ 41 ∧ s.2 = cZ (shC L) (s.1 - 1)) (fun s => (41 - s.1).toNat) (1, 0) rfl rfl ⟨by dsimp only; omega, by dsimp only; omega, rfl⟩ ?_
  rintro ⟨i, c⟩ ⟨hi0, hi1, hI⟩ ihq
  try dsimp only at *
  have hr := cZ_r (shC L) (i := i - 1) (by omega)
  have hf : (L.filter (fun q : LK => decide ((q.2 : Int) = i))).length ≤ 120 := Nat.le_trans (List.length_filter_le _ _) hL
  have hs : shC L (i - 1).toNat = decide (1 < (L.filter (fun q : LK => decide ((q.2 : Int) = i))).length) := by
    unfold shC
    rw [show (((i - 1).toNat : Nat) : Int) + 1 = i by omega]
  refine x_iload_n dX1_sharedCount_4 rfl ?_
  refine x_bipush dX1_sharedCount_5 (by decide) ?_
  refine x_icmp_gt dX1_sharedCount_7 ⟨by omega, by omega⟩ ⟨by omega, by omega⟩ (fun qc7q => ?_) (fun qc7q => ?_)
  · refine x_iload_n dX1_sharedCount_28 rfl ?_
    refine x_ireturn dX1_sharedCount_29 rfl ?_
    exact ⟨by rw [hI, show i - 1 = 40 by omega], rfl⟩
  · refine x_aload_n dX1_sharedCount_10 rfl ?_
    refine x_iload_n dX1_sharedCount_11 rfl ?_
    refine p_V dX1_sharedCount_12 lX1_32 (c_X1_parentCount sz hLi0 (z := i) ⟨by omega, by omega⟩) hP.1 rfl rfl rfl rfl (by decide) ?_
    refine x_iconst dX1_sharedCount_15 ?_
    refine x_icmp_le dX1_sharedCount_16 ⟨by omega, by omega⟩ ⟨by omega, by omega⟩ (fun qc16q => ?_) (fun qc16q => ?_)
    · refine x_iinc dX1_sharedCount_22 rfl rfl rfl ?_
      refine x_goto dX1_sharedCount_25 ?_
      first | (refine ihq (i + 1, c + 1) ⟨by dsimp only; omega, by dsimp only; omega, ?_⟩ (by dsimp only; omega); dsimp only; rw [show i + 1 - 1 = (i - 1) + 1 by omega, cZ_t (by omega) (by rw [hs]; simp; omega), hI]; done) | (refine ihq (i + 1, c) ⟨by dsimp only; omega, by dsimp only; omega, ?_⟩ (by dsimp only; omega); dsimp only; rw [show i + 1 - 1 = (i - 1) + 1 by omega, cZ_f (by omega) (by rw [hs]; simp; omega), hI]; done)
    · refine x_iinc dX1_sharedCount_19 rfl rfl rfl ?_
      refine x_iinc dX1_sharedCount_22 rfl rfl rfl ?_
      refine x_goto dX1_sharedCount_25 ?_
      first | (refine ihq (i + 1, c + 1) ⟨by dsimp only; omega, by dsimp only; omega, ?_⟩ (by dsimp only; omega); dsimp only; rw [show i + 1 - 1 = (i - 1) + 1 by omega, cZ_t (by omega) (by rw [hs]; simp; omega), hI]; done) | (refine ihq (i + 1, c) ⟨by dsimp only; omega, by dsimp only; omega, ?_⟩ (by dsimp only; omega); dsimp only; rw [show i + 1 - 1 = (i - 1) + 1 by omega, cZ_f (by omega) (by rw [hs]; simp; omega), hI]; done)
theorem c_X1_append (sz : Nat) {h : AH} {p : Nat} {L : List LK} (hLi : LiR h p L) {x y : Nat} (hx : x ≤ 40) (hy : 1 ≤ y ∧ y ≤ 40) : CC mX1_append 0 0 0 [.ref p, .int (zI x), .int (zI y)] sz h (QI (fun z h' => (L.length < 120 ∧ z = 1 ∧ LiR h' p (L ++ [(x, y)]) ∧ Fr h h' p (p + 3)) ∨ (120 ≤ L.length ∧ z = 0 ∧ h' = h))) := by
  refine CC.intro [some (.ref p), some (.int (zI x)), some (.int (zI y))] pfX1_append rfl rfl ?_
  have hLi0 := hLi
  obtain ⟨a, b, hP, hB, hH⟩ := hLi
  have hL := hB.1
  refine x_aload_n dX1_append_0 rfl ?_
  refine s_get dX1_append_1 fX1_18 hP rfl ?_
  refine x_if_lt dX1_append_4 ⟨by omega, by omega⟩ (fun qc4q => ?_) (fun qc4q => ?_)
  · exact absurd qc4q (by omega)
  · refine x_aload_n dX1_append_7 rfl ?_
    refine s_get dX1_append_8 fX1_18 hP rfl ?_
    refine x_bipush dX1_append_11 (by decide) ?_
    refine x_icmp_lt dX1_append_13 ⟨by omega, by omega⟩ ⟨by omega, by omega⟩ (fun qc13q => ?_) (fun qc13q => ?_)
    · refine x_aload_n dX1_append_18 rfl ?_
      refine s_get dX1_append_19 fX1_9 hP rfl ?_
      refine x_aload_n dX1_append_22 rfl ?_
      refine s_get dX1_append_23 fX1_18 hP rfl ?_
      refine x_iload_n dX1_append_26 rfl ?_
      refine s_iast dX1_append_27 hP rfl rfl ⟨by omega, by omega⟩ (fun h hP hF => ?_)
      refine x_aload_n dX1_append_28 rfl ?_
      refine s_get dX1_append_29 fX1_15 hP rfl ?_
      refine x_aload_n dX1_append_32 rfl ?_
      refine s_get dX1_append_33 fX1_18 hP rfl ?_
      refine x_iload_n dX1_append_36 rfl ?_
      refine s_iast dX1_append_37 hP rfl rfl ⟨by omega, by omega⟩ (fun h hP hF => ?_)
      refine x_aload_n dX1_append_38 rfl ?_
      refine x_dup dX1_append_39 rfl ?_
      refine s_get dX1_append_40 fX1_18 hP rfl ?_
      refine x_iconst dX1_append_43 ?_
      refine x_iadd dX1_append_44 ?_
      refine s_puti dX1_append_45 fX1_18 hP rfl (fun h hP hF => ?_)
      refine x_iconst dX1_append_48 ?_
      refine x_zreturn dX1_append_49 rfl (by decide) ?_
      refine ⟨_, rfl, Or.inl ⟨by omega, rfl, ⟨_, _, ?_, hB.app (by omega) hx hy, hH.app x y⟩, hP.fr⟩⟩
      rw [List.length_append]
      exact hP.st
    · refine x_iconst dX1_append_16 ?_
      refine x_zreturn dX1_append_17 rfl (by decide) ?_
      exact ⟨_, rfl, Or.inr ⟨by omega, rfl, rfl⟩⟩
theorem c_X1_copyFrom (sz : Nat) {h : AH} {p q : Nat} {L L0 : List LK} (hLi : LiR h p L0) (hQ0 : LiR h q L) (hd : p + 3 ≤ q ∨ q + 3 ≤ p) : CC mX1_copyFrom 1 0 0 [.ref p, .ref q] sz h (QV (fun h' => LiR h' p L ∧ Fr h h' p (p + 3))) := by
  refine CC.intro [some (.ref p), some (.ref q)] pfX1_copyFrom rfl rfl ?_
  obtain ⟨a0, b0, hP, -, -⟩ := hLi
  obtain ⟨a, b, hQ, hB, hH⟩ := hQ0
  refine x_aload_n dX1_copyFrom_0 rfl ?_
  refine x_aload_n dX1_copyFrom_1 rfl ?_
  refine s_get dX1_copyFrom_2 fX1_18 hQ rfl ?_
  refine s_puti dX1_copyFrom_5 fX1_18 hP rfl (fun h hP hF => ?_)
  have hQ := hQ.mv hF (by omega)
  refine x_aload_n dX1_copyFrom_8 rfl ?_
  refine s_get dX1_copyFrom_9 fX1_9 hQ rfl ?_
  refine x_iconst dX1_copyFrom_12 ?_
  refine x_aload_n dX1_copyFrom_13 rfl ?_
  refine s_get dX1_copyFrom_14 fX1_9 hP rfl ?_
  refine x_iconst dX1_copyFrom_17 ?_
  refine x_bipush dX1_copyFrom_18 (by decide) ?_
  refine s_copy dX1_copyFrom_20 acX1 hP (j := 0) rfl (hQ.2.1 0 _ rfl) rfl ⟨by omega, by omega, by omega⟩ ⟨by decide, by decide⟩ (fun h hP hF => ?_)
  have hQ := hQ.mv hF (by omega)
  refine x_aload_n dX1_copyFrom_23 rfl ?_
  refine s_get dX1_copyFrom_24 fX1_15 hQ rfl ?_
  refine x_iconst dX1_copyFrom_27 ?_
  refine x_aload_n dX1_copyFrom_28 rfl ?_
  refine s_get dX1_copyFrom_29 fX1_15 hP rfl ?_
  refine x_iconst dX1_copyFrom_32 ?_
  refine x_bipush dX1_copyFrom_33 (by decide) ?_
  refine s_copy dX1_copyFrom_35 acX1 hP (j := 1) rfl (hQ.2.1 1 _ rfl) rfl ⟨by omega, by omega, by omega⟩ ⟨by decide, by decide⟩ (fun h hP hF => ?_)
  refine x_vreturn dX1_copyFrom_38 rfl ?_
  refine ⟨rfl, ⟨_, _, hP.st, hB, fun i hi => ?_⟩, hP.fr⟩
  have hb := hB.1
  rw [zC_in (by omega), zC_in (by omega)]
  exact hH i hi
theorem c_X1_indexOf (sz : Nat) {h : AH} {p : Nat} {L : List LK} (hLi : LiR h p L) {x y : Nat} (hx : x ≤ 40) (hy : y ≤ 40) : CC mX1_indexOf 0 0 0 [.ref p, .int (zI x), .int (zI y)] sz h (QR (lfi L (x, y)) h) := by
  refine CC.intro [some (.ref p), some (.int (zI x)), some (.int (zI y)), none] pfX1_indexOf rfl rfl ?_
  have hLi0 := hLi
  obtain ⟨a, b, hP, hB, hH⟩ := hLi
  have hL := hB.1
  refine x_iconst dX1_indexOf_0 ?_
  refine x_istore_n dX1_indexOf_1 rfl rfl rfl ?_
  refine x_loop (fun _ => h) (fun i : Int => [some (.ref p), some (.int (zI x)), some (.int (zI y)), some (.int (zI i))]) (fun i => 0 ≤ i ∧ i ≤ L.length ∧ (x, y) ∉ L.take i.toNat) (fun i => (L.length - i).toNat) 0 rfl rfl ⟨by omega, by omega, by simp⟩ ?_
  rintro i ⟨hi0, hi1, hI⟩ ihq
  try dsimp only at *
  have hpre : i < L.length → a i.toNat = (lp L i.toNat).1 ∧ b i.toNat = (lp L i.toNat).2 ∧ (lp L i.toNat).1 ≤ 40 ∧ (lp L i.toNat).2 ≤ 40 := fun hlt => ⟨(hH i.toNat (by omega)).1, (hH i.toNat (by omega)).2, (lp_r hB (by omega)).1, (lp_r hB (by omega)).2.2⟩
  refine x_iload_n dX1_indexOf_2 rfl ?_
  refine x_aload_n dX1_indexOf_3 rfl ?_
  refine s_get dX1_indexOf_4 fX1_18 hP rfl ?_
  refine x_icmp_ge dX1_indexOf_7 ⟨by omega, by omega⟩ ⟨by omega, by omega⟩ (fun qc7q => ?_) (fun qc7q => ?_)
  · refine x_iconst dX1_indexOf_38 ?_
    refine x_ireturn dX1_indexOf_39 rfl ?_
    rw [List.take_of_length_le (by omega)] at hI
    exact ⟨by rw [lfi_no _ _ hI], rfl⟩
  · obtain ⟨qe1q, qe2q, qe3q, qe4q⟩ := hpre (by omega)
    refine x_aload_n dX1_indexOf_10 rfl ?_
    refine s_get dX1_indexOf_11 fX1_9 hP rfl ?_
    refine x_iload_n dX1_indexOf_14 rfl ?_
    refine s_iald dX1_indexOf_15 hP rfl rfl ⟨by omega, by omega⟩ ?_
    refine x_iload_n dX1_indexOf_16 rfl ?_
    refine x_icmp_ne dX1_indexOf_17 ⟨by omega, by omega⟩ ⟨by omega, by omega⟩ (fun qc17q => ?_) (fun qc17q => ?_)
    · refine x_iinc dX1_indexOf_32 rfl rfl rfl ?_
      refine x_goto dX1_indexOf_35 ?_
      refine ihq (i + 1) ⟨by omega, by omega, ?_⟩ (by omega)
      rw [lp_take hi0 (by omega)]
      intro hm
      rcases List.mem_append.mp hm with q | q
      · exact hI q
      · have q2 := List.mem_singleton.mp q
        rw [← q2] at qe1q qe2q
        dsimp only at qe1q qe2q
        omega
    · refine x_aload_n dX1_indexOf_20 rfl ?_
      refine s_get dX1_indexOf_21 fX1_15 hP rfl ?_
      refine x_iload_n dX1_indexOf_24 rfl ?_
      refine s_iald dX1_indexOf_25 hP rfl rfl ⟨by omega, by omega⟩ ?_
      refine x_iload_n dX1_indexOf_26 rfl ?_
      refine x_icmp_ne dX1_indexOf_27 ⟨by omega, by omega⟩ ⟨by omega, by omega⟩ (fun qc27q => ?_) (fun qc27q => ?_)
      · refine x_iinc dX1_indexOf_32 rfl rfl rfl ?_
        refine x_goto dX1_indexOf_35 ?_
        refine ihq (i + 1) ⟨by omega, by omega, ?_⟩ (by omega)
        rw [lp_take hi0 (by omega)]
        intro hm
        rcases List.mem_append.mp hm with q | q
        · exact hI q
        · have q2 := List.mem_singleton.mp q
          rw [← q2] at qe1q qe2q
          dsimp only at qe1q qe2q
          omega
      · refine x_iload_n dX1_indexOf_30 rfl ?_
        refine x_ireturn dX1_indexOf_31 rfl ?_
        refine ⟨?_, rfl⟩
        have q1 : lp L i.toNat = (x, y) := Prod.ext (by dsimp only; omega) (by dsimp only; omega)
        have q2 := lp_split (L := L) (i := i.toNat) (by omega)
        rw [q1] at q2
        have q3 : lfi L (x, y) = i := by
          rw [q2, lfi_at _ _ _ hI, List.length_take]
          omega
        rw [q3]
theorem c_X1_position (sz : Nat) {h : AH} {p : Nat} {L : List LK} (hLi : LiR h p L) {x y : Nat} (hx : x ≤ 40) (hy : y ≤ 40) : CC mX1_position 0 0 0 [.ref p, .int (zI x), .int (zI y)] sz h (QR (lfi (kid L x) y) h) := by
  refine CC.intro [some (.ref p), some (.int (zI x)), some (.int (zI y)), none, none] pfX1_position rfl rfl ?_
  have hLi0 := hLi
  obtain ⟨a, b, hP, hB, hH⟩ := hLi
  have hL := hB.1
  refine x_iconst dX1_position_0 ?_
  refine x_istore_n dX1_position_1 rfl rfl rfl ?_
  refine x_iconst dX1_position_2 ?_
  refine x_istore dX1_position_3 rfl rfl rfl ?_
  refine x_loop (fun _ => h) (fun s : Int × Int => [some (.ref p), some (.int (zI x)), some (.int (zI y)), some (.int (zI s.2)), some (.int (zI s.1))]) (fun s => 0 ≤ s.1 ∧ s.1 ≤ L.length ∧ s.2 = (kid (L.take s.1.toNat) x).length ∧ y ∉ kid (L.take s.1.toNat) x) (fun s => (L.length - s.1).toNat) (0, 0) rfl rfl ⟨by dsimp only; omega, by dsimp only; omega, rfl, by simp [kid]⟩ ?_
  rintro ⟨i, c⟩ ⟨hi0, hi1, hI, hJ⟩ ihq
  try dsimp only at *
  have hpre : i < L.length → a i.toNat = (lp L i.toNat).1 ∧ b i.toNat = (lp L i.toNat).2 ∧ (lp L i.toNat).1 ≤ 40 ∧ (lp L i.toNat).2 ≤ 40 := fun hlt => ⟨(hH i.toNat (by omega)).1, (hH i.toNat (by omega)).2, (lp_r hB (by omega)).1, (lp_r hB (by omega)).2.2⟩
  have hlen : (kid (L.take i.toNat) x).length ≤ 120 := by
    unfold kid
    rw [List.length_map]
    exact Nat.le_trans (List.length_filter_le _ _) (by rw [List.length_take]; omega)
  refine x_iload dX1_position_5 rfl ?_
  refine x_aload_n dX1_position_7 rfl ?_
  refine s_get dX1_position_8 fX1_18 hP rfl ?_
  refine x_icmp_ge dX1_position_11 ⟨by omega, by omega⟩ ⟨by omega, by omega⟩ (fun qc11q => ?_) (fun qc11q => ?_)
  · refine x_iconst dX1_position_47 ?_
    refine x_ireturn dX1_position_48 rfl ?_
    rw [List.take_of_length_le (by omega)] at hJ
    exact ⟨by rw [lfi_no _ _ hJ], rfl⟩
  · obtain ⟨qe1q, qe2q, qe3q, qe4q⟩ := hpre (by omega)
    have qe5q : kid (L.take (i + 1).toNat) x = kid (L.take i.toNat) x ++ kid [lp L i.toNat] x := by rw [lp_take hi0 (by omega), kid_app]
    refine x_aload_n dX1_position_14 rfl ?_
    refine s_get dX1_position_15 fX1_9 hP rfl ?_
    refine x_iload dX1_position_18 rfl ?_
    refine s_iald dX1_position_20 hP rfl rfl ⟨by omega, by omega⟩ ?_
    refine x_iload_n dX1_position_21 rfl ?_
    refine x_icmp_ne dX1_position_22 ⟨by omega, by omega⟩ ⟨by omega, by omega⟩ (fun qc22q => ?_) (fun qc22q => ?_)
    · refine x_iinc dX1_position_41 rfl rfl rfl ?_
      refine x_goto dX1_position_44 ?_
      first
        | (have q1 : (lp L i.toNat).1 ≠ x := by omega
           rw [kid_miss _ q1, kid_nil, List.append_nil] at qe5q
           exact ihq (i + 1, c) ⟨by dsimp only; omega, by dsimp only; omega, by dsimp only; rw [qe5q]; exact hI, by dsimp only; rw [qe5q]; exact hJ⟩ (by dsimp only; omega))
        | (have q1 : lp L i.toNat = (x, (lp L i.toNat).2) := Prod.ext (by dsimp only; omega) rfl
           rw [q1, kid_hit, kid_nil] at qe5q
           exact ihq (i + 1, c + 1) ⟨by dsimp only; omega, by dsimp only; omega, by dsimp only; rw [qe5q, List.length_append, List.length_singleton]; omega, by dsimp only; rw [qe5q]; exact fun q2 => (List.mem_append.mp q2).elim hJ (fun q3 => by have q4 := List.mem_singleton.mp q3; omega)⟩ (by dsimp only; omega))
    · refine x_aload_n dX1_position_25 rfl ?_
      refine s_get dX1_position_26 fX1_15 hP rfl ?_
      refine x_iload dX1_position_29 rfl ?_
      refine s_iald dX1_position_31 hP rfl rfl ⟨by omega, by omega⟩ ?_
      refine x_iload_n dX1_position_32 rfl ?_
      refine x_icmp_ne dX1_position_33 ⟨by omega, by omega⟩ ⟨by omega, by omega⟩ (fun qc33q => ?_) (fun qc33q => ?_)
      · refine x_iinc dX1_position_38 rfl rfl rfl ?_
        refine x_iinc dX1_position_41 rfl rfl rfl ?_
        refine x_goto dX1_position_44 ?_
        first
          | (have q1 : (lp L i.toNat).1 ≠ x := by omega
             rw [kid_miss _ q1, kid_nil, List.append_nil] at qe5q
             exact ihq (i + 1, c) ⟨by dsimp only; omega, by dsimp only; omega, by dsimp only; rw [qe5q]; exact hI, by dsimp only; rw [qe5q]; exact hJ⟩ (by dsimp only; omega))
          | (have q1 : lp L i.toNat = (x, (lp L i.toNat).2) := Prod.ext (by dsimp only; omega) rfl
             rw [q1, kid_hit, kid_nil] at qe5q
             exact ihq (i + 1, c + 1) ⟨by dsimp only; omega, by dsimp only; omega, by dsimp only; rw [qe5q, List.length_append, List.length_singleton]; omega, by dsimp only; rw [qe5q]; exact fun q2 => (List.mem_append.mp q2).elim hJ (fun q3 => by have q4 := List.mem_singleton.mp q3; omega)⟩ (by dsimp only; omega))
      · refine x_iload_n dX1_position_36 rfl ?_
        refine x_ireturn dX1_position_37 rfl ?_
        refine ⟨?_, rfl⟩
        have q1 : lp L i.toNat = (x, y) := Prod.ext (by dsimp only; omega) (by dsimp only; omega)
        have q2 := lp_split (L := L) (i := i.toNat) (by omega)
        rw [q1] at q2
        have q3 : lfi (kid L x) y = c := by
          rw [q2, kid_app, kid_hit, lfi_at _ _ _ hJ]
          omega
        rw [q3]
theorem c_X1_drop (sz : Nat) {h : AH} {p : Nat} {L1 L2 : List LK} {x y : Nat} (hLi : LiR h p (L1 ++ (x, y) :: L2)) (hno : (x, y) ∉ L1) : CC mX1_drop 1 0 0 [.ref p, .int (zI x), .int (zI y)] sz h (QV (fun h' => LiR h' p (L1 ++ L2) ∧ Fr h h' p (p + 3))) := by
  refine CC.intro [some (.ref p), some (.int (zI x)), some (.int (zI y)), none, none] pfX1_drop rfl rfl ?_
  have hLi0 := hLi
  obtain ⟨a, b, hP, hB, hH⟩ := hLi
  have hL := hB.1
  have hxy := hB.2 (x, y) (List.mem_append_right _ List.mem_cons_self)
  have hi : lfi (L1 ++ (x, y) :: L2) (x, y) = L1.length := lfi_at _ _ _ hno
  have hl : (L1 ++ (x, y) :: L2).length = L1.length + L2.length + 1 := by rw [List.length_append, List.length_cons]; omega
  refine x_aload_n dX1_drop_0 rfl ?_
  refine x_iload_n dX1_drop_1 rfl ?_
  refine x_iload_n dX1_drop_2 rfl ?_
  refine p_V dX1_drop_3 lX1_28 (c_X1_indexOf sz hLi0 (x := x) (y := y) hxy.1 hxy.2.2) hP.1 rfl rfl rfl rfl (by decide) ?_
  rw [hi]
  refine x_istore_n dX1_drop_6 rfl rfl rfl ?_
  refine x_iload_n dX1_drop_7 rfl ?_
  refine x_iconst dX1_drop_8 ?_
  refine x_icmp_ne dX1_drop_9 ⟨by omega, by omega⟩ ⟨by omega, by omega⟩ (fun qc9q => ?_) (fun qc9q => ?_)
  · refine x_iload_n dX1_drop_13 rfl ?_
    refine x_iconst dX1_drop_14 ?_
    refine x_iadd dX1_drop_15 ?_
    refine x_istore dX1_drop_16 rfl rfl rfl ?_
    rw [hl] at hP hL
    refine x_loop (fun s : AH × Int => s.1) (fun s => [some (.ref p), some (.int (zI x)), some (.int (zI y)), some (.int (zI L1.length)), some (.int (zI s.2))]) (fun s => (L1.length : Int) + 1 ≤ s.2 ∧ s.2 ≤ (L1.length + L2.length + 1 : Nat) ∧ ∃ a1 b1, SO h s.1 p 3 1 (liF p (L1.length + L2.length + 1 : Nat)) (liA a1 b1) ∧ ∀ k : Nat, a1 k = (if L1.length ≤ k ∧ (k : Int) + 1 < s.2 then a (k + 1) else a k) ∧ b1 k = (if L1.length ≤ k ∧ (k : Int) + 1 < s.2 then b (k + 1) else b k)) (fun s => ((L1.length + L2.length + 1 : Nat) - s.2).toNat) (h, L1.length + 1) rfl rfl ⟨by dsimp only; omega, by dsimp only; omega, a, b, hP, fun k => by dsimp only; rw [if_neg (by omega), if_neg (by omega)]; exact ⟨rfl, rfl⟩⟩ ?_
    rintro ⟨h2, i⟩ ⟨hi0, hi1, a1, b1, hP, hI⟩ ihq
    try dsimp only at *
    refine x_iload dX1_drop_18 rfl ?_
    refine x_aload_n dX1_drop_20 rfl ?_
    refine s_get dX1_drop_21 fX1_18 hP rfl ?_
    refine x_icmp_ge dX1_drop_24 ⟨by omega, by omega⟩ ⟨by omega, by omega⟩ (fun qc24q => ?_) (fun qc24q => ?_)
    · refine x_aload_n dX1_drop_65 rfl ?_
      refine x_dup dX1_drop_66 rfl ?_
      refine s_get dX1_drop_67 fX1_18 hP rfl ?_
      refine x_iconst dX1_drop_70 ?_
      refine x_isub dX1_drop_71 ?_
      refine s_puti dX1_drop_72 fX1_18 hP rfl (fun h hP hF => ?_)
      refine x_vreturn dX1_drop_75 rfl ?_
      have q5 : (L1 ++ L2).length = L1.length + L2.length := List.length_append
      refine ⟨rfl, ⟨a1, b1, ?_, hB.sub (by rw [q5, hl]; omega) (fun q hq => ?_), fun k hk => ?_⟩, hP.fr⟩
      · have q6 : ((L1.length + L2.length + 1 : Nat) : Int) - 1 = ((L1 ++ L2).length : Int) := by rw [q5]; omega
        rw [q6] at hP
        exact hP.st
      · rcases List.mem_append.mp hq with q6 | q6
        · exact List.mem_append_left _ q6
        · exact List.mem_append_right _ (List.mem_cons_of_mem _ q6)
      · rw [q5] at hk
        have q1 := hI k
        rw [q1.1, q1.2]
        unfold lp
        by_cases q6 : L1.length ≤ k
        · rw [if_pos (by omega), if_pos (by omega)]
          have q7 := hH (k + 1) (by rw [hl]; omega)
          unfold lp at q7
          rw [q7.1, q7.2, List.getD_eq_getElem?_getD, List.getD_eq_getElem?_getD, List.getElem?_append_right (by omega), List.getElem?_append_right q6, show k + 1 - L1.length = (k - L1.length) + 1 by omega, List.getElem?_cons_succ]
          exact ⟨rfl, rfl⟩
        · rw [if_neg (by omega), if_neg (by omega)]
          have q7 := hH k (by rw [hl]; omega)
          unfold lp at q7
          rw [q7.1, q7.2, List.getD_eq_getElem?_getD, List.getD_eq_getElem?_getD, List.getElem?_append_left (by omega), List.getElem?_append_left (by omega)]
          exact ⟨rfl, rfl⟩
    · refine x_aload_n dX1_drop_27 rfl ?_
      refine s_get dX1_drop_28 fX1_9 hP rfl ?_
      refine x_iload dX1_drop_31 rfl ?_
      refine x_iconst dX1_drop_33 ?_
      refine x_isub dX1_drop_34 ?_
      refine x_aload_n dX1_drop_35 rfl ?_
      refine s_get dX1_drop_36 fX1_9 hP rfl ?_
      refine x_iload dX1_drop_39 rfl ?_
      refine s_iald dX1_drop_41 hP rfl rfl ⟨by omega, by omega⟩ ?_
      refine s_iast dX1_drop_42 hP rfl rfl ⟨by omega, by omega⟩ (fun h hP hF => ?_)
      refine x_aload_n dX1_drop_43 rfl ?_
      refine s_get dX1_drop_44 fX1_15 hP rfl ?_
      refine x_iload dX1_drop_47 rfl ?_
      refine x_iconst dX1_drop_49 ?_
      refine x_isub dX1_drop_50 ?_
      refine x_aload_n dX1_drop_51 rfl ?_
      refine s_get dX1_drop_52 fX1_15 hP rfl ?_
      refine x_iload dX1_drop_55 rfl ?_
      refine s_iald dX1_drop_57 hP rfl rfl ⟨by omega, by omega⟩ ?_
      refine s_iast dX1_drop_58 hP rfl rfl ⟨by omega, by omega⟩ (fun h hP hF => ?_)
      refine x_iinc dX1_drop_59 rfl rfl rfl ?_
      refine x_goto dX1_drop_62 ?_
      refine ihq (_, i + 1) ⟨by dsimp only; omega, by dsimp only; omega, _, _, hP, fun k => ?_⟩ (by dsimp only; omega)
      dsimp only
      have q1 := hI k
      have q2 := hI i.toNat
      rw [if_neg (by omega), if_neg (by omega)] at q2
      by_cases q : k = (i - 1).toNat
      · rw [q, zU_s, zU_s, q2.1, q2.2, if_pos (by omega), if_pos (by omega), show (i - 1).toNat + 1 = i.toNat by omega]
        exact ⟨rfl, rfl⟩
      · rw [zU_n q, zU_n q, q1.1, q1.2]
        by_cases q3 : L1.length ≤ k ∧ (k : Int) + 1 < i
        · rw [if_pos q3, if_pos q3, if_pos (by omega), if_pos (by omega)]
          exact ⟨rfl, rfl⟩
        · rw [if_neg q3, if_neg q3, if_neg (by omega), if_neg (by omega)]
          exact ⟨rfl, rfl⟩
  · exact absurd qc9q (by omega)
theorem pf_lI {a : Nat} (h : a < 2 ^ 63) : (lN a).toInt = (a : Int) := lg_ofNat_toInt h
theorem pf_shr {a d : Nat} {D : Int64} (hD : (D.toBitVec.smod 64).toNat = d) (h : a < 2 ^ 62) : lN a >>> D = lN (a / 2 ^ d) := by
  have hd : a / 2 ^ d ≤ a := Nat.div_le_self _ _
  apply Int64.toInt_inj.mp
  have e : (lN a >>> D).toInt = (lN a).toInt >>> d := by
    rw [← hD]
    exact BitVec.toInt_sshiftRight ..
  rw [e, Int.shiftRight_eq_div_pow, pf_lI (by omega), pf_lI (by omega)]
  rfl
theorem lN_and (a b : Nat) : lN a &&& lN b = lN (a &&& b) := by
  apply Int64.toBitVec_inj.mp
  simp [lN, Int64.toBitVec_and, BitVec.ofNat_and]
theorem shD : ∀ x : Nat, x ≤ 40 → ((((zI (x : Int)).toInt64 &&& 63)).toBitVec.smod 64).toNat = x := by decide +kernel
theorem nbs_shr (l : List Nat) (hl : ∀ x ∈ l, x ≤ 40) {x : Nat} (hx : x ≤ 40) : lN (nbs l) >>> ((zI (x : Int)).toInt64 &&& 63) = lN (nbs l / 2 ^ x) := pf_shr (shD x hx) (Nat.lt_of_lt_of_le (nbs_lt l hl) (by decide))
theorem nbs_and (l : List Nat) {x : Nat} : lN (nbs l / 2 ^ x) &&& Int64.ofNat 1 = lN (if x ∈ l then 1 else 0) := by
  rw [show Int64.ofNat 1 = lN 1 from rfl, lN_and, Nat.and_one_is_mod]
  have h := nbs_bit l x
  rw [Nat.testBit_eq_decide_div_mod_eq] at h
  congr 1
  by_cases q : x ∈ l
  · rw [if_pos q]
    simpa [q] using h
  · rw [if_neg q]
    have : ¬ nbs l / 2 ^ x % 2 = 1 := by simpa [q] using h
    omega
theorem cmp1 (P : Prop) [Decidable P] : lg_cmp (lN (if P then 1 else 0)) (Int64.ofNat 1) = zI (if P then 0 else -1) := by
  by_cases q : P
  · rw [if_pos q, if_pos q]; decide
  · rw [if_neg q, if_neg q]; decide

theorem c_X1_keepParents (sz : Nat) {h : AH} {p : Nat} {L : List LK} (hLi : LiR h p L) {l : List Nat} (hl : ∀ x ∈ l, x ≤ 40) : CC mX1_keepParents 0 0 0 [.ref p, .long (lN (nbs l))] sz h (QV (fun h' => LiR h' p (L.filter (fun q => decide (q.1 ∈ l))) ∧ Fr h h' p (p + 3))) := by
  refine CC.intro [some (.ref p), some (.long (lN (nbs l))), none, none, none] pfX1_keepParents rfl rfl ?_
  have hLi0 := hLi
  obtain ⟨a, b, hP, hB, hH⟩ := hLi
  have hL := hB.1
  refine x_iconst dX1_keepParents_0 ?_
  refine x_istore_n dX1_keepParents_1 rfl rfl rfl ?_
  refine x_iconst dX1_keepParents_2 ?_
  refine x_istore dX1_keepParents_3 rfl rfl rfl ?_
  refine x_loop (fun s : AH × Int × Int => s.1) (fun s => [some (.ref p), some (.long (lN (nbs l))), none, some (.int (zI s.2.2)), some (.int (zI s.2.1))]) (fun s => 0 ≤ s.2.1 ∧ s.2.1 ≤ L.length ∧ s.2.2 = ((L.take s.2.1.toNat).filter (fun q => decide (q.1 ∈ l))).length ∧ ∃ a1 b1, SO h s.1 p 3 1 (liF p L.length) (liA a1 b1) ∧ LiH ((L.take s.2.1.toNat).filter (fun q => decide (q.1 ∈ l))) a1 b1 ∧ ∀ k : Nat, s.2.1 ≤ k → a1 k = a k ∧ b1 k = b k) (fun s => (L.length - s.2.1).toNat) (h, 0, 0) rfl rfl ⟨by dsimp only; omega, by dsimp only; omega, rfl, a, b, hP, fun k hk => by simp at hk, fun k _ => ⟨rfl, rfl⟩⟩ ?_
  rintro ⟨h2, i, c⟩ ⟨hi0, hi1, hI, a1, b1, hP, hJ, hK⟩ ihq
  try dsimp only at *
  have hpre : i < L.length → a1 i.toNat = (lp L i.toNat).1 ∧ b1 i.toNat = (lp L i.toNat).2 ∧ (lp L i.toNat).1 ≤ 40 ∧ (lp L i.toNat).2 ≤ 40 := fun hlt => ⟨(hK i.toNat (by omega)).1.trans (hH i.toNat (by omega)).1, (hK i.toNat (by omega)).2.trans (hH i.toNat (by omega)).2, (lp_r hB (by omega)).1, (lp_r hB (by omega)).2.2⟩
  have hlen : (((L.take i.toNat).filter (fun q => decide (q.1 ∈ l))).length : Int) ≤ i := by
    have q1 := List.length_filter_le (fun q : LK => decide (q.1 ∈ l)) (L.take i.toNat)
    rw [List.length_take] at q1
    omega
  refine x_iload dX1_keepParents_5 rfl ?_
  refine x_aload_n dX1_keepParents_7 rfl ?_
  refine s_get dX1_keepParents_8 fX1_18 hP rfl ?_
  refine x_icmp_ge dX1_keepParents_11 ⟨by omega, by omega⟩ ⟨by omega, by omega⟩ (fun qc11q => ?_) (fun qc11q => ?_)
  · refine x_aload_n dX1_keepParents_65 rfl ?_
    refine x_iload_n dX1_keepParents_66 rfl ?_
    refine s_puti dX1_keepParents_67 fX1_18 hP rfl (fun h hP hF => ?_)
    refine x_vreturn dX1_keepParents_70 rfl ?_
    rw [List.take_of_length_le (by omega)] at hI hJ
    refine ⟨rfl, ⟨a1, b1, ?_, hB.sub (List.length_filter_le _ _) (fun q hq => (List.mem_filter.mp hq).1), hJ⟩, hP.fr⟩
    rw [← hI]
    exact hP.st
  · obtain ⟨qe1q, qe2q, qe3q, qe4q⟩ := hpre (by omega)
    refine x_lload_n dX1_keepParents_14 rfl ?_
    refine x_aload_n dX1_keepParents_15 rfl ?_
    refine s_get dX1_keepParents_16 fX1_9 hP rfl ?_
    refine x_iload dX1_keepParents_19 rfl ?_
    refine s_iald dX1_keepParents_21 hP rfl rfl ⟨by omega, by omega⟩ ?_
    refine x_lshr dX1_keepParents_22 (v := lN (nbs l / 2 ^ (lp L i.toNat).1)) (by rw [qe1q]; exact nbs_shr l hl qe3q) ?_
    refine x_lconst dX1_keepParents_23 rfl ?_
    refine x_land dX1_keepParents_24 (v := lN (if (lp L i.toNat).1 ∈ l then 1 else 0)) (nbs_and l) ?_
    refine x_lconst dX1_keepParents_25 rfl ?_
    refine x_lcmp dX1_keepParents_26 (cmp1 _) ?_
    refine x_if_ne dX1_keepParents_27 ⟨by split <;> omega, by split <;> omega⟩ (fun qc27q => ?_) (fun qc27q => ?_)
    · have qe7q : (lp L i.toNat).1 ∉ l := fun q => qc27q (by rw [if_pos q])
      have qe6q : (L.take (i + 1).toNat).filter (fun q => decide (q.1 ∈ l)) = (L.take i.toNat).filter (fun q => decide (q.1 ∈ l)) := by rw [lp_take hi0 (by omega), List.filter_append, List.filter_cons_of_neg (by simpa using qe7q)]; simp
      refine x_iinc dX1_keepParents_59 rfl rfl rfl ?_
      refine x_goto dX1_keepParents_62 ?_
      first
        | (refine ihq (_, i + 1, c) ⟨by dsimp only; omega, by dsimp only; omega, by dsimp only; rw [qe6q]; exact hI, a1, b1, hP, by dsimp only; rw [qe6q]; exact hJ, fun k hk => hK k (by dsimp only at hk; omega)⟩ (by dsimp only; omega); done)
        | (refine ihq (_, i + 1, c + 1) ⟨by dsimp only; omega, by dsimp only; omega, by dsimp only; rw [qe6q, List.length_append]; simp; omega, _, _, hP, ?_, fun k hk => ?_⟩ (by dsimp only; omega)
           · dsimp only
             rw [qe6q, show lp L i.toNat = ((lp L i.toNat).1, (lp L i.toNat).2) from rfl, show c.toNat = ((L.take i.toNat).filter (fun q => decide (q.1 ∈ l))).length by omega, qe1q, qe2q]
             exact hJ.app _ _
           · dsimp only at hk
             rw [zU_n (by omega), zU_n (by omega)]
             exact hK k (by omega))
    · have qe7q : (lp L i.toNat).1 ∈ l := Classical.byContradiction fun q => by rw [if_neg q] at qc27q; omega
      have qe6q : (L.take (i + 1).toNat).filter (fun q => decide (q.1 ∈ l)) = (L.take i.toNat).filter (fun q => decide (q.1 ∈ l)) ++ [lp L i.toNat] := by rw [lp_take hi0 (by omega), List.filter_append, List.filter_cons_of_pos (by simpa using qe7q)]; simp
      refine x_aload_n dX1_keepParents_30 rfl ?_
      refine s_get dX1_keepParents_31 fX1_9 hP rfl ?_
      refine x_iload_n dX1_keepParents_34 rfl ?_
      refine x_aload_n dX1_keepParents_35 rfl ?_
      refine s_get dX1_keepParents_36 fX1_9 hP rfl ?_
      refine x_iload dX1_keepParents_39 rfl ?_
      refine s_iald dX1_keepParents_41 hP rfl rfl ⟨by omega, by omega⟩ ?_
      refine s_iast dX1_keepParents_42 hP rfl rfl ⟨by omega, by omega⟩ (fun h hP hF => ?_)
      refine x_aload_n dX1_keepParents_43 rfl ?_
      refine s_get dX1_keepParents_44 fX1_15 hP rfl ?_
      refine x_iload_n dX1_keepParents_47 rfl ?_
      refine x_aload_n dX1_keepParents_48 rfl ?_
      refine s_get dX1_keepParents_49 fX1_15 hP rfl ?_
      refine x_iload dX1_keepParents_52 rfl ?_
      refine s_iald dX1_keepParents_54 hP rfl rfl ⟨by omega, by omega⟩ ?_
      refine s_iast dX1_keepParents_55 hP rfl rfl ⟨by omega, by omega⟩ (fun h hP hF => ?_)
      refine x_iinc dX1_keepParents_56 rfl rfl rfl ?_
      refine x_iinc dX1_keepParents_59 rfl rfl rfl ?_
      refine x_goto dX1_keepParents_62 ?_
      first
        | (refine ihq (_, i + 1, c) ⟨by dsimp only; omega, by dsimp only; omega, by dsimp only; rw [qe6q]; exact hI, a1, b1, hP, by dsimp only; rw [qe6q]; exact hJ, fun k hk => hK k (by dsimp only at hk; omega)⟩ (by dsimp only; omega); done)
        | (refine ihq (_, i + 1, c + 1) ⟨by dsimp only; omega, by dsimp only; omega, by dsimp only; rw [qe6q, List.length_append]; simp; omega, _, _, hP, ?_, fun k hk => ?_⟩ (by dsimp only; omega)
           · dsimp only
             rw [qe6q, show lp L i.toNat = ((lp L i.toNat).1, (lp L i.toNat).2) from rfl, show c.toNat = ((L.take i.toNat).filter (fun q => decide (q.1 ∈ l))).length by omega, qe1q, qe2q]
             exact hJ.app _ _
           · dsimp only at hk
             rw [zU_n (by omega), zU_n (by omega)]
             exact hK k (by omega))
