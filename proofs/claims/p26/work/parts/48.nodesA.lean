/-! What the tells say of all nodes: how many there are, their places and rows. -/
theorem cB_or {p q r : Nat → Bool} (h : ∀ k, r k = (p k || q k)) (hd : ∀ k, p k = true → q k = false) : ∀ n, cB r n = cB p n + cB q n
  | 0 => rfl
  | n + 1 => by
    rw [cB_s, cB_s, cB_s, cB_or h hd n, h n]
    cases e : p n with
    | true => rw [hd n e]; simp; omega
    | false => cases q n <;> simp <;> omega
theorem cB_zero {p : Nat → Bool} : ∀ n, (∀ k, k < n → p k = false) → cB p n = 0
  | 0, _ => rfl
  | n + 1, h => by
    rw [cB_s, cB_zero n (fun k hk => h k (by omega)), h n (by omega)]
    rfl
theorem cB_pos {p : Nat → Bool} {k n : Nat} (hk : k < n) (hp : p k = true) : 1 ≤ cB p n := by
  have := cB_lt p hk hp
  omega
theorem sZ_le {f g : Nat → Nat} : ∀ n : Nat, (∀ k, k < n → f k ≤ g k) → sZ f (n : Nat) ≤ sZ g (n : Nat)
  | 0, _ => by show sZ f 0 ≤ sZ g 0; rw [sZ_0, sZ_0]; exact Int.le_refl _
  | n + 1, h => by
    have h1 := sZ_le n (fun k hk => h k (by omega))
    have h2 := h n (by omega)
    rw [show ((n + 1 : Nat) : Int) = (n : Int) + 1 by omega, sZ_s _ (by omega), sZ_s _ (by omega), Int.toNat_natCast]
    omega
theorem sZ_cong {f g : Nat → Nat} : ∀ n : Nat, (∀ k, k < n → f k = g k) → sZ f (n : Nat) = sZ g (n : Nat)
  | 0, _ => rfl
  | n + 1, h => by
    have h1 := sZ_cong n (fun k hk => h k (by omega))
    rw [show ((n + 1 : Nat) : Int) = (n : Int) + 1 by omega, sZ_s _ (by omega), sZ_s _ (by omega), Int.toNat_natCast, h1, h n (by omega)]
theorem sZ_nn (f : Nat → Nat) : ∀ n : Nat, 0 ≤ sZ f (n : Nat)
  | 0 => by show 0 ≤ sZ f 0; rw [sZ_0]; exact Int.le_refl _
  | n + 1 => by
    have h1 := sZ_nn f n
    rw [show ((n + 1 : Nat) : Int) = (n : Int) + 1 by omega, sZ_s _ (by omega)]
    omega
/-- the sum over all nodes of the places of each -/
theorem sum_nodes {pl : List PE} (P : Nat → Bool) : ∀ d : Nat, sZ (fun i => cB (fun k => P k && decide (pn pl k = i + 1)) pl.length) (d : Nat) = (cB (fun k => P k && (decide (1 ≤ pn pl k) && decide (pn pl k ≤ d))) pl.length : Nat)
  | 0 => by
    rw [cB_zero _ (fun k _ => by
      by_cases q : 1 ≤ pn pl k
      · rw [decide_eq_false (p := pn pl k ≤ 0) (by omega)]; simp
      · rw [decide_eq_false q]; simp)]
    rfl
  | d + 1 => by
    rw [show ((d + 1 : Nat) : Int) = (d : Int) + 1 by omega, sZ_s _ (by omega), sum_nodes P d, Int.toNat_natCast]
    have := cB_or (r := fun k => P k && (decide (1 ≤ pn pl k) && decide (pn pl k ≤ d + 1))) (p := fun k => P k && (decide (1 ≤ pn pl k) && decide (pn pl k ≤ d))) (q := fun k => P k && decide (pn pl k = d + 1)) (fun k => by
      rw [← Bool.and_or_distrib_left]
      congr 1
      by_cases a : 1 ≤ pn pl k <;> by_cases b : pn pl k ≤ d <;> by_cases c : pn pl k = d + 1 <;> simp [a, b, c] <;> omega) (fun k hk => by
      simp only [Bool.and_eq_true, decide_eq_true_iff] at hk
      rw [decide_eq_false (p := pn pl k = d + 1) (by omega), Bool.and_false]) pl.length
    rw [this]
    omega
theorem sum_all {pl : List PE} {d : Nat} (P : Nat → Bool) (h : ∀ k, k < pl.length → 1 ≤ pn pl k ∧ pn pl k ≤ d) : sZ (fun i => cB (fun k => P k && decide (pn pl k = i + 1)) pl.length) (d : Nat) = (cB P pl.length : Nat) := by
  rw [sum_nodes]
  congr 1
  refine cB_cong (fun k hk => ?_)
  rw [decide_eq_true (h k hk).1, decide_eq_true (h k hk).2, Bool.and_self, Bool.and_true]
theorem seF_sk (K : Nat → List Nat) : ∀ (n lev p : Nat) (cs : List Nat), (seF K n p cs).map (·.2) = (skF K n lev cs).map (·.1)
  | 0, _, _, _ => rfl
  | n + 1, lev, p, cs => by
    rw [seF, skF, List.map_flatMap, List.map_flatMap]
    congr 1
    funext y
    rw [List.map_cons, List.map_cons, seF_sk K n (lev + 1) y (K y)]
theorem pCnt_cB (pl : List PE) (y : Nat) : pCnt pl (y : Int) = (cB (fun k => decide (pn pl k = y)) pl.length : Nat) := by
  unfold pCnt cZ
  rw [Int.toNat_natCast]
  congr 1
  exact cB_cong (fun k _ => decide_eq_decide.mpr (by omega))
theorem pCnt_sk (pl : List PE) (y : Nat) : pCnt pl (y : Int) = (((skL pl).map (·.1)).filter (fun q => decide (q = y))).length := by
  rw [pCnt_cB, skL, List.map_map]
  congr 1
  have h1 := flt_cB (fun q => decide (q = y)) 0 (pl.map ((fun q : Nat × Nat => q.1) ∘ fun q : PE => (q.1, q.2.1)))
  rw [h1, List.length_map]
  refine cB_cong (fun k hk => ?_)
  unfold pn
  rw [List.getD_eq_getElem?_getD, List.getD_eq_getElem?_getD, List.getElem?_map, List.getElem?_eq_getElem hk]
  rfl
/-- a node has a place for each of its parents -/
theorem par_le {S : CS} (hI : InvS S) (y : Nat) : ((S.2.2.2.1.filter (fun q : LK => decide ((q.2 : Int) = (y : Int)))).length : Int) ≤ pCnt S.2.2.2.2 y := by
  have hnd : (S.2.2.2.1.filter (fun q : LK => decide ((q.2 : Int) = (y : Int)))).Nodup := (lk_nd hI.1.2.2.1).sublist List.filter_sublist
  have h1 : (S.2.2.2.1.filter (fun q : LK => decide ((q.2 : Int) = (y : Int)))).length ≤ ((seF (kid S.2.2.2.1) 40 0 (kid S.2.2.2.1 0)).filter (fun q => decide (q.2 = y))).length := by
    refine nd_sub hnd (fun q hq => ?_)
    obtain ⟨hq1, hq2⟩ := List.mem_filter.mp hq
    have hy : q.2 = y := by have := of_decide_eq_true hq2; omega
    refine List.mem_filter.mpr ⟨?_, decide_eq_true hy⟩
    have h1 : q.2 ∈ kid S.2.2.2.1 q.1 := kid_mem.mpr hq1
    rcases (hI.1.2.2.2 _ _ h1).2.un with e | e
    · rw [← e] at h1
      have h2 := seF_top (K := kid S.2.2.2.1) (n := 40) (p := 0) (by omega) h1
      have h3 : q = (0, q.2) := by rw [e]
      rw [h3]
      exact h2
    · exact seF_in h1 40 0 (kid S.2.2.2.1 0) (fun y hy => Dp_kid hI.1.dp hy) e
  have h2 : ((seF (kid S.2.2.2.1) 40 0 (kid S.2.2.2.1 0)).filter (fun q => decide (q.2 = y))).length = (((seF (kid S.2.2.2.1) 40 0 (kid S.2.2.2.1 0)).map (·.2)).filter (fun q => decide (q = y))).length := by
    rw [List.filter_map, List.length_map]
    rfl
  rw [pCnt_sk, hI.2, ← seF_sk (kid S.2.2.2.1) 40 1 0, ← h2]
  omega
theorem alv_of {S : CS} (hI : InvS S) {y : Nat} (hf : pFst S.2.2.2.2 (y : Int) ≠ -2) : ∃ k : Nat, pFst S.2.2.2.2 (y : Int) = k ∧ k < S.2.2.2.2.length ∧ pn S.2.2.2.2 k = y ∧ 1 ≤ y ∧ y ≤ S.1 ∧ Rc (kid S.2.2.2.1) 0 y := by
  rcases pFst_r S.2.2.2.2 (y : Int) with a | ⟨a1, a2, a3⟩
  · exact absurd a.1 hf
  · have h1 := hI.nd a1 a2
    rw [a3, Int.toNat_natCast] at h1
    exact ⟨(pFst S.2.2.2.2 (y : Int)).toNat, by omega, by omega, h1.2.2.2.2.symm, h1.1, h1.2.1, h1.2.2.1⟩
/-- a node that stands has a parent, and who has a parent stands -/
theorem alv_lk {S : CS} (hI : InvS S) (y : Nat) : pFst S.2.2.2.2 (y : Int) ≠ -2 ↔ ∃ x, (x, y) ∈ S.2.2.2.1 := by
  constructor
  · intro hf
    obtain ⟨k, k1, k2, k3, -⟩ := alv_of hI hf
    rcases sk_par hI.2 hI.1.dp k2 with ⟨-, b⟩ | ⟨j, -, -, -, b⟩
    · exact ⟨0, kid_mem.mp (by rwa [k3] at b)⟩
    · exact ⟨_, kid_mem.mp (by rwa [k3] at b)⟩
  · rintro ⟨x, hx⟩
    have h1 : y ∈ kid S.2.2.2.1 x := kid_mem.mpr hx
    have h2 := hI.1.2.2.2 x y h1
    have h3 := (hI.al y).mpr (h2.2.st h1)
    rcases h3 with q | q
    · omega
    · exact q
theorem lk_len {S : CS} (y : Nat) (h : ∃ x, (x, y) ∈ S.2.2.2.1) : 1 ≤ (S.2.2.2.1.filter (fun q : LK => decide ((q.2 : Int) = (y : Int)))).length := by
  obtain ⟨x, hx⟩ := h
  exact List.length_pos_of_mem (List.mem_filter.mpr ⟨hx, by simp⟩)
theorem nod_at {S : CS} (hI : InvS S) (hB : StB S) {y : Nat} (hf : pFst S.2.2.2.2 (y : Int) ≠ -2) :
    (1 ≤ spNod S y 0 ∧ spNod S y 0 ≤ 120) ∧ (spNod S y 0 ≤ spNod S y 1 ∧ spNod S y 1 ≤ 120) ∧ (0 ≤ spNod S y 2 ∧ spNod S y 2 ≤ 120) ∧ (spNod S y 5 = -6 ↔ spNod S y 2 = 0) ∧ (-6 ≤ spNod S y 5 ∧ spNod S y 5 ≤ 120) ∧ (0 ≤ spNod S y 3 ∧ spNod S y 3 ≤ spNod S y 7 ∧ spNod S y 7 ≤ 48) ∧ spNod S y 8 = -3 := by
  obtain ⟨n0, n1, n2, n3, n4, n5, n6, n7, n8⟩ := sp_nod (S := S) hf
  obtain ⟨k, k1, k2, k3, k4, k5, k6⟩ := alv_of hI hf
  have h1 := lk_len y ((alv_lk hI y).mp hf)
  have h2 := par_le hI y
  have h3 := cZ_r (fun k => decide ((pn S.2.2.2.2 k : Int) = (y : Int))) (i := (S.2.2.2.2.length : Int)) (by omega)
  have h4 := cZ_r (snN S.2.2.2.2 y) (i := (S.2.2.2.2.length : Int)) (by omega)
  have hl := hB.2.2.1
  have h5 : (kid S.2.2.2.1 y).length ≤ popN (nbs (pWit S.2.2.2.2 (pFst S.2.2.2.2 y))) := by
    have hsub : ∀ w ∈ kid S.2.2.2.1 y, w ∈ pWit S.2.2.2.2 (k : Int) := fun w hw => (hI.wit (z := (k : Int)) (by omega) (by omega) w).mpr ⟨w, by rw [(gNVF S.2.2.2.2 k).1, Int.toNat_natCast, k3]; exact hw, Rc.rf _ _⟩
    rw [pop_nbs, k1, nd_cB (n := 48) (hI.1.2.2.1 y) (fun w hw => by have := (hI.1.kb.2 y k5).2 w hw; have := hI.1.1; omega)]
    exact cB_lex (fun w hw => decide_eq_true (hsub w (of_decide_eq_true hw))) 48
  have h6 : popN (nbs (pWit S.2.2.2.2 (pFst S.2.2.2.2 y))) ≤ 48 := cB_le _ _
  have h7 : (rwF S.2.2.2.2 y = -6 ↔ cZ (snN S.2.2.2.2 y) S.2.2.2.2.length = 0) ∧ -6 ≤ rwF S.2.2.2.2 y ∧ rwF S.2.2.2.2 y ≤ 120 := by
    obtain ⟨f1, f2, f3, f4⟩ := fZ_spec (snN S.2.2.2.2 y) S.2.2.2.2.length (i := 0) (by omega) (by omega)
    unfold rwF
    generalize fZ (snN S.2.2.2.2 y) S.2.2.2.2.length 0 = f at *
    have h8 := cB_le (sn S.2.2.2.2) f.toNat
    by_cases q : f < S.2.2.2.2.length
    · rw [if_pos q]
      have h9 := cB_pos (p := snN S.2.2.2.2 y) (k := f.toNat) (n := S.2.2.2.2.length) (by omega) (f4 q)
      unfold cZ
      rw [Int.toNat_natCast]
      omega
    · rw [if_neg q]
      have h9 := cB_zero (p := snN S.2.2.2.2 y) S.2.2.2.2.length (fun k hk => f3 k (by omega) (by omega))
      unfold cZ
      rw [Int.toNat_natCast]
      omega
  rw [n0, n1, n2, n3, n5, n7, n8]
  unfold pCnt at h2 ⊢
  refine ⟨by omega, by omega, by omega, h7.1, h7.2, by omega, rfl⟩
/-- the sums over the nodes -/
def alF (S : CS) : Nat → Bool := fun i => decide (spNod S ((i + 1 : Nat) : Int) 0 ≠ -2)
def shF (S : CS) : Nat → Bool := fun i => decide (1 < spNod S ((i + 1 : Nat) : Int) 0)
def nuF (S : CS) (v : Int) : Nat → Nat := fun i => if spNod S ((i + 1 : Nat) : Int) 0 = -2 then 0 else (spNod S ((i + 1 : Nat) : Int) v).toNat
theorem alF_iff {S : CS} (hI : InvS S) (i : Nat) : alF S i = true ↔ pFst S.2.2.2.2 ((i + 1 : Nat) : Int) ≠ -2 := by
  unfold alF
  rw [decide_eq_true_iff]
  constructor
  · intro h q
    exact h (sp_nod0 0 q)
  · intro h
    rw [(sp_nod h).1]
    omega
theorem fst_0 {S : CS} (hI : InvS S) {y : Int} (h : y ≤ 0 ∨ (S.1 : Int) < y) : pFst S.2.2.2.2 y = -2 := by
  rcases pFst_r S.2.2.2.2 y with a | ⟨a1, a2, a3⟩
  · exact a.1
  · have h1 := hI.nd a1 a2
    omega
theorem cnt_all {S : CS} (hI : InvS S) (hB : StB S) (t : List Int) (hs : List CS) :
    spCnt t hs S 0 = cZ (alF S) S.1 ∧ spCnt t hs S 2 = sZ (nuF S 1) S.1 ∧ spCnt t hs S 3 = sZ (nuF S 2) S.1 ∧ spCnt t hs S 5 = cZ (shF S) S.1 ∧ spCnt t hs S 2 ≤ 120 ∧ 0 ≤ spCnt t hs S 2 := by
  have hpn : ∀ k, k < S.2.2.2.2.length → 1 ≤ pn S.2.2.2.2 k ∧ pn S.2.2.2.2 k ≤ S.1 := fun k hk => ⟨(hB.2.2.2 k hk).1, hI.wf.2 k hk⟩
  have hdead : ∀ i : Nat, ¬ pFst S.2.2.2.2 ((i + 1 : Nat) : Int) ≠ -2 → ∀ k, k < S.2.2.2.2.length → pn S.2.2.2.2 k ≠ i + 1 := fun i hi k hk e => hi (by rw [← e]; exact fst_of hk)
  have hl := hB.2.2.1
  refine ⟨?_, ?_, ?_, ?_, ?_, ?_⟩
  · show (popN (nbs (pWit S.2.2.2.2 (-1))) : Int) = _
    rw [hI.n0]
    unfold cZ
    rw [Int.toNat_natCast]
    congr 1
    refine cB_cong (fun k _ => ?_)
    rw [Bool.eq_iff_iff, alF_iff hI]
    unfold noQ
    rw [decide_eq_true_iff]
    exact ⟨fun q => q.1.elim (fun e => by omega) (fun e => e), fun q => ⟨Or.inr q, Or.inl rfl⟩⟩
  · show (S.2.2.2.2.length : Int) = _
    have h1 := sum_all (pl := S.2.2.2.2) (d := S.1) (fun _ => true) hpn
    have h2 : cB (fun _ => true) S.2.2.2.2.length = S.2.2.2.2.length := by
      have : ∀ n, cB (fun _ => true) n = n := fun n => by
        induction n with
        | zero => rfl
        | succ n ihq => rw [cB_s, ihq]; rfl
      exact this _
    rw [h2] at h1
    rw [← h1]
    refine sZ_cong _ (fun i _ => ?_)
    unfold nuF
    by_cases q : pFst S.2.2.2.2 ((i + 1 : Nat) : Int) ≠ -2
    · rw [if_neg (by rw [(sp_nod q).1]; omega), (sp_nod q).2.1, pCnt_cB, Int.toNat_natCast]
      exact cB_cong (fun k _ => Bool.true_and _)
    · rw [if_pos (sp_nod0 0 (by omega))]
      exact cB_zero _ (fun k hk => by rw [decide_eq_false (hdead i q k hk), Bool.and_false])
  · show (cB (sn S.2.2.2.2) S.2.2.2.2.length : Int) = _
    rw [← sum_all (pl := S.2.2.2.2) (d := S.1) (sn S.2.2.2.2) hpn]
    refine sZ_cong _ (fun i _ => ?_)
    unfold nuF
    by_cases q : pFst S.2.2.2.2 ((i + 1 : Nat) : Int) ≠ -2
    · rw [if_neg (by rw [(sp_nod q).1]; omega), (sp_nod q).2.2.1]
      unfold cZ
      rw [Int.toNat_natCast, Int.toNat_natCast]
      refine cB_cong (fun k _ => ?_)
      unfold snN
      congr 1
      exact decide_eq_decide.mpr (by omega)
    · rw [if_pos (sp_nod0 0 (by omega))]
      exact cB_zero _ (fun k hk => by rw [decide_eq_false (hdead i q k hk), Bool.and_false])
  · show cZ (shC S.2.2.2.1) 40 = _
    rw [hI.n1]
    unfold cZ
    rw [Int.toNat_natCast]
    congr 1
    refine cB_cong (fun k _ => ?_)
    unfold noQ shF
    refine decide_eq_decide.mpr ?_
    rw [← hI.pa]
    by_cases q : pFst S.2.2.2.2 ((k + 1 : Nat) : Int) ≠ -2
    · rw [(sp_nod q).1]
      exact ⟨fun a => a.2.elim (fun e => by omega) (fun e => e), fun a => ⟨Or.inr q, Or.inr a⟩⟩
    · rw [sp_nod0 0 (by omega)]
      exact ⟨fun a => absurd a.1 (fun b => b.elim (fun e => by omega) q), fun a => by omega⟩
  · show (S.2.2.2.2.length : Int) ≤ 120
    omega
  · show 0 ≤ (S.2.2.2.2.length : Int)
    omega
theorem cnt_rows {S : CS} (hI : InvS S) (hB : StB S) (t : List Int) (hs : List CS) :
    sZ (fun r => (spRow S (r : Int) 4).toNat) (rwN S) ≤ spCnt t hs S 4 ∧ (cZ (alF S) S.1 = 0 ↔ cZ (fun m => decide (spRow S (m : Int) 1 = 1)) (rwN S) = 0) ∧ rwN S ≤ 120 ∧ 0 ≤ rwN S ∧ spCnt t hs S 4 ≤ 120 ∧ 0 ≤ spCnt t hs S 4 := by
  have hl := hB.2.2.1
  have hr := cB_le (sn S.2.2.2.2) S.2.2.2.2.length
  refine ⟨?_, ?_, by unfold rwN; omega, by unfold rwN; omega, ?_, ?_⟩
  · show _ ≤ pFld S.2.2.2.2
    unfold rwN pFld
    have h1 := rows_sum (pl := S.2.2.2.2) (pf S.2.2.2.2) S.2.2.2.2.length (Nat.le_refl _)
    have h2 : sZ (fun r => (spRow S (r : Int) 4).toNat) (cB (sn S.2.2.2.2) S.2.2.2.2.length : Nat) = sZ (fun k => pf S.2.2.2.2 (plZ S.2.2.2.2 (k : Int)).toNat) (cB (sn S.2.2.2.2) S.2.2.2.2.length : Nat) := sZ_cong _ (fun k hk => by
      obtain ⟨p, p1, p2, p3, p4⟩ := row_ex (pl := S.2.2.2.2) (r := (k : Int)) (by omega) (by omega)
      rw [(sp_row p4).2.2.2.2.1, p4, Int.toNat_natCast, Int.toNat_natCast])
    rw [h2, h1]
    exact sZ_le _ (fun k _ => by split <;> omega)
  · unfold rwN
    rw [lev_cnt _ (Nat.le_refl _)]
    cases e : S.2.2.2.2.length with
    | zero =>
      have h1 : cZ (alF S) S.1 = 0 := by
        unfold cZ
        rw [Int.toNat_natCast, cB_zero _ (fun k _ => ?_)]
        · rfl
        · cases q : alF S k with
          | false => rfl
          | true =>
            obtain ⟨k', -, k2, -⟩ := alv_of hI ((alF_iff hI k).mp q)
            omega
      exact ⟨fun _ => rfl, fun _ => h1⟩
    | succ n =>
      have h0 : 0 < S.2.2.2.2.length := by omega
      have hv : pv S.2.2.2.2 0 = 1 := by
        rcases hI.wf.1 0 h0 with a | ⟨j, a, -⟩
        · exact a
        · omega
      have h1 := cB_pos (p := fun m => sn S.2.2.2.2 m && decide ((pv S.2.2.2.2 m : Int) = 1)) (k := 0) (n := n + 1) (by omega) (by rw [sn_top hB.2.2 h0 hv, hv]; rfl)
      have h2 := hB.2.2.2 0 h0
      have h3 := hI.wf.2 0 h0
      have h4 := cB_pos (p := alF S) (k := pn S.2.2.2.2 0 - 1) (n := S.1) (by omega) ((alF_iff hI _).mpr (by rw [show pn S.2.2.2.2 0 - 1 + 1 = pn S.2.2.2.2 0 by omega]; exact fst_of h0))
      unfold cZ
      rw [Int.toNat_natCast]
      omega
  · show pFld S.2.2.2.2 ≤ 120
    unfold pFld
    have h1 := sZ_le (f := pf S.2.2.2.2) (g := fun _ => 1) S.2.2.2.2.length (fun k hk => (hB.2.2.2 k hk).2.2.2.2)
    have h2 : ∀ n : Nat, sZ (fun _ => 1) (n : Nat) = n := fun n => by
      induction n with
      | zero => rfl
      | succ n ihq => rw [show ((n + 1 : Nat) : Int) = (n : Int) + 1 by omega, sZ_s _ (by omega), ihq]; rfl
    rw [h2] at h1
    omega
  · show 0 ≤ pFld S.2.2.2.2
    unfold pFld
    exact sZ_nn _ _
theorem row_no {S : CS} {r : Int} (h : r < 0 ∨ rwN S ≤ r) (v : Int) : spRow S r v = -2 := by
  unfold spRow
  rw [plZ_no h, if_pos rfl]
