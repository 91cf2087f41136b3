/-! Rows and places: which places are seen, what is within a place, children by their places. -/
theorem gs_keep {pl : List PE} {i v : Nat} (hv : v ≤ 40) (h0 : v ≤ gs pl i) : ∀ n, (∀ m, i ≤ m → m < i + n → v ≤ pv pl m) → v ≤ gs pl (i + n)
  | 0, _ => h0
  | n + 1, h => by
    have h1 := gs_keep hv h0 n (fun m a b => h m a (by omega))
    have h2 := h (i + n) (by omega) (by omega)
    rw [← Nat.add_assoc, gs]
    split
    · exact h1
    · split <;> omega
theorem gs_hide {pl : List PE} {i v : Nat} (h0 : gs pl i ≤ v) : ∀ n, (∀ m, i ≤ m → m < i + n → v < pv pl m) → gs pl (i + n) = gs pl i
  | 0, _ => rfl
  | n + 1, h => by
    have h1 := gs_hide h0 n (fun m a b => h m a (by omega))
    have h2 := h (i + n) (by omega) (by omega)
    rw [← Nat.add_assoc, gs, if_pos (by omega), h1]
theorem gs_vis {pl : List PE} {i : Nat} (h : sn pl i = true) : gs pl (i + 1) = if pf pl i = 1 then pv pl i else 40 := by
  have := decide_eq_true_iff.mp h
  rw [gs, if_neg (by omega)]
theorem gs_inv {pl : List PE} {i : Nat} (h : sn pl i = false) : gs pl (i + 1) = gs pl i ∧ gs pl i < pv pl i := by
  have := decide_eq_false_iff_not.mp h
  rw [gs, if_pos (by omega)]
  omega
theorem sn_top {pl : List PE} (hB : PlB pl) {i : Nat} (hi : i < pl.length) (h : pv pl i = 1) : sn pl i = true := by
  have h1 := gs_keep (pl := pl) (i := 0) (v := 1) (by decide) (by show 1 ≤ 40; decide) i (fun m a b => (hB.2 m (by omega)).2.2.1)
  rw [Nat.zero_add] at h1
  exact decide_eq_true (by omega)
theorem sn_par {pl : List PE} (hB : PlB pl) {i j : Nat} (hi : i < pl.length) (hj : j < i) (hv : pv pl j + 1 = pv pl i) (hm : ∀ m, j < m → m < i → pv pl i ≤ pv pl m) : sn pl i = true ↔ (sn pl j = true ∧ pf pl j ≠ 1) := by
  have h40 := (hB.2 i hi).2.2.2.1
  constructor
  · intro h
    have h1 := decide_eq_true_iff.mp h
    cases hs : sn pl j with
    | false =>
      exfalso
      have h2 := gs_inv hs
      have h3 := gs_hide (pl := pl) (i := j + 1) (v := pv pl j) (by omega) (i - (j + 1)) (fun m a b => by have := hm m (by omega) (by omega); omega)
      rw [show j + 1 + (i - (j + 1)) = i by omega] at h3
      omega
    | true =>
      refine ⟨rfl, fun hf => ?_⟩
      have h2 := gs_vis hs
      rw [if_pos hf] at h2
      have h3 := gs_hide (pl := pl) (i := j + 1) (v := pv pl j) (by omega) (i - (j + 1)) (fun m a b => by have := hm m (by omega) (by omega); omega)
      rw [show j + 1 + (i - (j + 1)) = i by omega] at h3
      omega
  · rintro ⟨h1, h2⟩
    have h3 := gs_vis h1
    rw [if_neg h2] at h3
    have h4 := gs_keep (pl := pl) (i := j + 1) (v := pv pl i) h40 (by omega) (i - (j + 1)) (fun m a b => hm m (by omega) (by omega))
    rw [show j + 1 + (i - (j + 1)) = i by omega] at h4
    exact decide_eq_true h4
theorem sn_fold {pl : List PE} {i e : Nat} (h : sn pl i = true) (hf : pf pl i = 1) (hm : ∀ m, i < m → m < e → pv pl i < pv pl m) {q : Nat} (h1 : i < q) (h2 : q < e) : sn pl q = false := by
  have h3 := gs_vis h
  rw [if_pos hf] at h3
  have h4 := gs_hide (pl := pl) (i := i + 1) (v := pv pl i) (by omega) (q - (i + 1)) (fun m a b => hm m (by omega) (by omega))
  rw [show i + 1 + (q - (i + 1)) = q by omega] at h4
  have := hm q h1 h2
  exact decide_eq_false (by omega)
theorem sn_end {pl : List PE} (hB : PlB pl) {i e : Nat} (h : sn pl i = true) (hi : i < e) (hl : e < pl.length) (hm : ∀ m, i < m → m < e → pv pl i < pv pl m) (he : pv pl e ≤ pv pl i) : sn pl e = true := by
  have h40 := (hB.2 i (by omega)).2.2.2.1
  have h3 := gs_vis h
  have h4 := gs_keep (pl := pl) (i := i + 1) (v := pv pl i) h40 (by rw [h3]; split <;> omega) (e - (i + 1)) (fun m a b => Nat.le_of_lt (hm m (by omega) (by omega)))
  rw [show i + 1 + (e - (i + 1)) = e by omega] at h4
  exact decide_eq_true (by omega)
/-- a row and its place -/
theorem row_ex {pl : List PE} {r : Int} (h0 : 0 ≤ r) (h1 : r < (cB (sn pl) pl.length : Int)) : ∃ p : Nat, p < pl.length ∧ sn pl p = true ∧ (cB (sn pl) p : Int) = r ∧ plZ pl r = p := by
  obtain ⟨k, h2, h3, h4⟩ := cB_kth (sn pl) pl.length r.toNat (by omega)
  have h5 : (cB (sn pl) k : Int) = r := by omega
  exact ⟨k, h2, h3, h5, plZ_hit h2 h3 h5⟩
theorem rwZ_sn {pl : List PE} {p : Nat} (hs : sn pl p = true) : rwZ pl (p : Int) = (cB (sn pl) p : Int) := by
  unfold rwZ
  rw [Int.toNat_natCast, if_pos hs]
theorem cB_mn (p : Nat → Bool) {a b : Nat} (h : a ≤ b) : cB p a ≤ cB p b := by
  have := cB_mono p a (b - a)
  rwa [show a + (b - a) = b by omega] at this
theorem cB_cl {p : Nat → Bool} {a b : Nat} (ha : p a = true) (h : cB p a < cB p b) : a < b := by
  rcases Nat.lt_or_ge a b with q | q
  · exact q
  · have := cB_mn p q
    omega
/-- counting by rows is counting by seen places -/
theorem rows_cnt {pl : List PE} (P : Nat → Bool) : ∀ i, i ≤ pl.length → cB (fun k => P (plZ pl (k : Int)).toNat) (cB (sn pl) i) = cB (fun m => sn pl m && P m) i
  | 0, _ => rfl
  | i + 1, h => by
    have h1 := rows_cnt (pl := pl) P i (by omega)
    rw [cB_s, cB_s]
    by_cases hs : sn pl i = true
    · rw [if_pos hs, cB_s, h1, plZ_hit (by omega) hs rfl, Int.toNat_natCast, hs, Bool.true_and]
    · rw [if_neg hs, Nat.add_zero, h1, if_neg (by rw [show sn pl i = false by simpa using hs]; simp)]
      rfl
theorem rows_sum {pl : List PE} (g : Nat → Nat) : ∀ i, i ≤ pl.length → sZ (fun k => g (plZ pl (k : Int)).toNat) (cB (sn pl) i : Nat) = sZ (fun m => if sn pl m = true then g m else 0) (i : Nat)
  | 0, _ => rfl
  | i + 1, h => by
    have h1 := rows_sum (pl := pl) g i (by omega)
    rw [cB_s, show ((i + 1 : Nat) : Int) = (i : Int) + 1 by omega, sZ_s _ (by omega), Int.toNat_natCast]
    by_cases hs : sn pl i = true
    · rw [if_pos hs, show ((cB (sn pl) i + 1 : Nat) : Int) = (cB (sn pl) i : Int) + 1 by omega, sZ_s _ (by omega), Int.toNat_natCast, h1, plZ_hit (by omega) hs rfl, Int.toNat_natCast, if_pos hs]
    · rw [if_neg hs, Nat.add_zero, h1, if_neg hs]
      simp
/-- the end of what is within a place -/
theorem pEnd_p {pl : List PE} {p : Nat} (hp : p < pl.length) : ∃ e : Nat, pEnd pl (gV pl p) ((p : Int) + 1) = e ∧ p + 1 ≤ e ∧ e ≤ pl.length ∧ (∀ m, p < m → m < e → pv pl p < pv pl m) ∧ (e < pl.length → pv pl e ≤ pv pl p) := by
  have hg : gV pl p = pv pl p := by
    unfold gV
    rw [if_pos (by omega), Int.toNat_natCast]
  obtain ⟨h1, h2, h3, h4⟩ := fZ_spec (fun k => decide ((pv pl k : Int) ≤ gV pl p)) pl.length (i := (p : Int) + 1) (by omega) (by omega)
  unfold pEnd
  rw [hg] at *
  generalize fZ (fun k => decide ((pv pl k : Int) ≤ (pv pl p : Int))) pl.length ((p : Int) + 1) = f at *
  refine ⟨f.toNat, by omega, by omega, by omega, fun m a b => ?_, fun a => ?_⟩
  · have := decide_eq_false_iff_not.mp (h3 m (by omega) (by omega))
    omega
  · have := decide_eq_true_iff.mp (h4 (by omega))
    omega
/-- children of a list of skeletons, by their level -/
theorem sk_dir (K : Nat → List Nat) (lev : Nat) : ∀ (n : Nat) (cs : List Nat), 1 ≤ n → ((skF K n lev cs).filter (fun q => decide (q.2 = lev))).map (·.1) = cs
  | n + 1, cs, _ => by
    have hn : ∀ x, (skF K n (lev + 1) x).filter (fun q => decide (q.2 = lev)) = [] := fun x => by
      rw [List.filter_eq_nil_iff]
      intro q hq
      have := skF_lev K n (lev + 1) x q hq
      simp
      omega
    induction cs with
    | nil => rw [skF_nil]; rfl
    | cons y cs ihq =>
      rw [skF_cons, List.filter_cons_of_pos (by simp), List.filter_append, hn, List.nil_append, List.map_cons, ihq]
theorem flt_cB {α : Type} (P : α → Bool) (d : α) : ∀ l : List α, (l.filter P).length = cB (fun i => P (l.getD i d)) l.length
  | [] => rfl
  | x :: l => by
    rw [List.length_cons, cB_sh, List.filter_cons]
    have h1 := flt_cB P d l
    have e1 : (x :: l).getD 0 d = x := rfl
    have e2 : (fun k => P ((x :: l).getD (k + 1) d)) = fun k => P (l.getD k d) := rfl
    rw [e1, e2]
    split <;> rename_i q
    · rw [List.length_cons, h1]
      omega
    · rw [h1]
      omega
/-- the children of a stretch, which stands from place b on -/
theorem dir_at {pl : List PE} {K : Nat → List Nat} {A F B : List (Nat × Nat)} {n lev : Nat} {cs : List Nat} (hS : skL pl = A ++ (F ++ B)) (hF : F = skF K n lev cs) (hn : cs = [] ∨ 1 ≤ n) (hnd : cs.Nodup) :
    cs.length = cB (fun m => decide (pv pl (A.length + m) = lev)) F.length ∧ ∀ j, j < F.length → pv pl (A.length + j) = lev → pn pl (A.length + j) ∈ cs ∧ lfi cs (pn pl (A.length + j)) = (cB (fun m => decide (pv pl (A.length + m) = lev)) j : Int) := by
  have hat : ∀ j, j < F.length → F.getD j (0, 0) = (pn pl (A.length + j), pv pl (A.length + j)) := fun j hj => by
    have hl : A.length + j < pl.length := by
      rw [← skL_len, hS, List.length_append, List.length_append]
      omega
    have h1 := skL_get hl
    rw [hS, List.getElem?_append_right (by omega), List.getElem?_append_left (by omega), show A.length + j - A.length = j by omega] at h1
    rw [List.getD_eq_getElem?_getD, h1]
    rfl
  have hcnt : ∀ j, j ≤ F.length → ((F.take j).filter (fun q => decide (q.2 = lev))).length = cB (fun m => decide (pv pl (A.length + m) = lev)) j := fun j hj => by
    rw [flt_cB _ (0, 0), List.length_take, Nat.min_eq_left hj]
    refine cB_cong (fun k hk => ?_)
    rw [List.getD_eq_getElem?_getD, List.getElem?_take_of_lt hk, ← List.getD_eq_getElem?_getD, hat k (by omega)]
  have hdir : (F.filter (fun q => decide (q.2 = lev))).map (·.1) = cs := by
    rcases hn with e | e
    · rw [hF, e, skF_nil]; rfl
    · rw [hF]; exact sk_dir K lev n cs e
  refine ⟨?_, fun j hj hl => ?_⟩
  · have h1 := hcnt F.length (Nat.le_refl _)
    rw [List.take_length] at h1
    rw [← h1, ← hdir, List.length_map]
  · have h2 : F = F.take j ++ (pn pl (A.length + j), pv pl (A.length + j)) :: F.drop (j + 1) := by
      have h3 := lfi_split (L := F) hj
      rw [show F[j] = (pn pl (A.length + j), pv pl (A.length + j)) by
        rw [← hat j hj, List.getD_eq_getElem?_getD, List.getElem?_eq_getElem hj]; rfl] at h3
      exact h3
    have h4 : cs = ((F.take j).filter (fun q => decide (q.2 = lev))).map (·.1) ++ pn pl (A.length + j) :: ((F.drop (j + 1)).filter (fun q => decide (q.2 = lev))).map (·.1) := by
      rw [← hdir]
      conv => lhs; rw [h2]
      rw [List.filter_append, List.filter_cons_of_pos (by simpa using hl), List.map_append, List.map_cons]
    refine ⟨?_, ?_⟩
    · rw [h4]
      exact List.mem_append_right _ List.mem_cons_self
    · rw [h4] at hnd ⊢
      rw [lfi_at, List.length_map, hcnt j (by omega)]
      intro q
      have := (List.nodup_append.mp hnd).2.2 _ q _ List.mem_cons_self
      exact this rfl
/-- the children of a place, by their places -/
theorem kids_at {d : Nat} {pl : List PE} {K : Nat → List Nat} (hK : InvK d K) (hS : skL pl = skF K 40 1 (K 0)) {p e : Nat} (hp : p < pl.length) (he : pEnd pl (gV pl p) ((p : Int) + 1) = e) :
    ((K (pn pl p)).length + cB (fun m => decide (pv pl m = pv pl p + 1)) (p + 1) = cB (fun m => decide (pv pl m = pv pl p + 1)) e) ∧ ∀ q, p < q → q < e → pv pl q = pv pl p + 1 → pn pl q ∈ K (pn pl p) ∧ lfi (K (pn pl p)) (pn pl q) + (cB (fun m => decide (pv pl m = pv pl p + 1)) (p + 1) : Int) = cB (fun m => decide (pv pl m = pv pl p + 1)) q := by
  have hg : gV pl p = pv pl p := by
    unfold gV
    rw [if_pos (by omega), Int.toNat_natCast]
  obtain ⟨A, B, g1, g2, g3, g4, g5, g6⟩ := sk_at hS hK.dp hp
  have hb := (sk_blk hS hK.dp hp).1
  rw [hg] at he
  rw [he] at hb
  have he2 : e = p + 1 + (skF K (40 - pv pl p) (pv pl p + 1) (K (pn pl p))).length := by omega
  have hn : K (pn pl p) = [] ∨ 1 ≤ 40 - pv pl p := by
    cases q : K (pn pl p) with
    | nil => exact Or.inl rfl
    | cons y l => exact Or.inr (Dp_kid g5 (y := y) (by rw [q]; exact List.mem_cons_self)).1
  have hA : (A ++ [(pn pl p, pv pl p)]).length = p + 1 := by rw [List.length_append, g1]; rfl
  have h1 := dir_at (pl := pl) (A := A ++ [(pn pl p, pv pl p)]) (F := skF K (40 - pv pl p) (pv pl p + 1) (K (pn pl p))) (B := B) (n := 40 - pv pl p) (lev := pv pl p + 1) (cs := K (pn pl p)) (by rw [g2]; simp) rfl hn (hK.2.2.1 _)
  rw [hA] at h1
  generalize skF K (40 - pv pl p) (pv pl p + 1) (K (pn pl p)) = F at *
  refine ⟨?_, fun q q1 q2 q3 => ?_⟩
  · rw [he2, cB_split _ (p + 1) F.length, h1.1]
    omega
  · obtain ⟨j, rfl⟩ : ∃ j, q = p + 1 + j := ⟨q - (p + 1), by omega⟩
    have h2 := h1.2 j (by omega) q3
    refine ⟨h2.1, ?_⟩
    rw [h2.2, cB_split _ (p + 1) j]
    omega
theorem kids_top {d : Nat} {pl : List PE} {K : Nat → List Nat} (hK : InvK d K) (hS : skL pl = skF K 40 1 (K 0)) :
    (K 0).length = cB (fun m => decide (pv pl m = 1)) pl.length := by
  have h1 := (dir_at (pl := pl) (A := []) (F := skF K 40 1 (K 0)) (B := []) (n := 40) (lev := 1) (cs := K 0) (by rw [hS]; simp) rfl (Or.inr (by decide)) (hK.2.2.1 _)).1
  rw [← hS, skL_len] at h1
  simpa using h1
