/-! What fold, foldLevel, show, edit and mark do to the tells. -/
theorem gs_cong {pl pl' : List PE} : ∀ i, (∀ m, m < i → pv pl' m = pv pl m ∧ pf pl' m = pf pl m) → gs pl' i = gs pl i
  | 0, _ => rfl
  | i + 1, h => by
    have h1 := gs_cong i (fun m hm => h m (by omega))
    have h2 := h i (by omega)
    rw [gs, gs, h1, h2.1, h2.2]
theorem sn_cong {pl pl' : List PE} {i : Nat} (h : ∀ m, m < i → pv pl' m = pv pl m ∧ pf pl' m = pf pl m) (hi : pv pl' i = pv pl i) : sn pl' i = sn pl i := by
  unfold sn
  rw [gs_cong i h, hi]
theorem cB_pre {p q : Nat → Bool} {n : Nat} (h : ∀ k, k < n → p k = q k) : cB p n = cB q n := cB_cong h
/-- folding a seen place hides what is within it, and nothing else -/
theorem fold_cnt {pl : List PE} (hP : PlB pl) {p e : Nat} (hp : p < pl.length) (hs : sn pl p = true) (he1 : p + 1 ≤ e) (he2 : e ≤ pl.length) (hm : ∀ m, p < m → m < e → pv pl p < pv pl m) (he : e < pl.length → pv pl e ≤ pv pl p) :
    sn (pSet pl p 1) p = true ∧ cB (sn (pSet pl p 1)) p = cB (sn pl) p ∧ (cB (sn (pSet pl p 1)) pl.length : Int) = (cB (sn pl) pl.length : Int) - ((cB (sn pl) e : Int) - (cB (sn pl) (p + 1) : Int)) := by
  have hv : ∀ m, pv (pSet pl p 1) m = pv pl m := fun m => pSet_v pl p 1 m
  have hf : ∀ m, m ≠ p → pf (pSet pl p 1) m = pf pl m := fun m hm => by rw [pSet_f pl p 1 m hp, if_neg hm]
  have hfp : pf (pSet pl p 1) p = 1 := by rw [pSet_f pl p 1 p hp, if_pos rfl]
  have hlo : ∀ i, i ≤ p → sn (pSet pl p 1) i = sn pl i := fun i hi => sn_cong (fun m hm => ⟨hv m, hf m (by omega)⟩) (hv i)
  have hsp : sn (pSet pl p 1) p = true := by rw [hlo p (Nat.le_refl _)]; exact hs
  have hmid : ∀ i, p < i → i < e → sn (pSet pl p 1) i = false := fun i a b => sn_fold hsp hfp (fun m x y => by rw [hv, hv]; exact hm m x y) a b
  have hPs : PlB (pSet pl p 1) := hP.set hp (by decide)
  have hls : (pSet pl p 1).length = pl.length := pSet_len _ _ _
  have hgs : ∀ d, e + 1 + d ≤ pl.length → gs (pSet pl p 1) (e + 1 + d) = gs pl (e + 1 + d) := fun d => by
    induction d with
    | zero =>
      intro hd
      have h1 := sn_end hP hs (by omega : p < e) (by omega) hm (he (by omega))
      have h2 := sn_end hPs hsp (by omega : p < e) (by omega) (fun m x y => by rw [hv, hv]; exact hm m x y) (by rw [hv, hv]; exact he (by omega))
      rw [Nat.add_zero, gs_vis h1, gs_vis h2, hv, hf e (by omega)]
    | succ d ihq =>
      intro hd
      have h3 := ihq (by omega)
      rw [← Nat.add_assoc, gs, gs, h3, hv, hf _ (by omega)]
  have hhi : ∀ i, e ≤ i → i < pl.length → sn (pSet pl p 1) i = sn pl i := fun i a b => by
    rcases Nat.eq_or_lt_of_le a with q | q
    · subst q
      rw [sn_end hP hs (by omega : p < e) b hm (he b), sn_end hPs hsp (by omega : p < e) (by omega) (fun m x y => by rw [hv, hv]; exact hm m x y) (by rw [hv, hv]; exact he b)]
    · obtain ⟨d, rfl⟩ : ∃ d, i = e + 1 + d := ⟨i - (e + 1), by omega⟩
      unfold sn
      rw [hgs d (by omega), hv]
  refine ⟨hsp, cB_pre (fun k hk => hlo k (by omega)), ?_⟩
  obtain ⟨a, rfl⟩ : ∃ a, e = p + 1 + a := ⟨e - (p + 1), by omega⟩
  obtain ⟨b, hb⟩ : ∃ b, pl.length = p + 1 + a + b := ⟨pl.length - (p + 1 + a), by omega⟩
  rw [hb, cB_split (sn (pSet pl p 1)) (p + 1 + a) b, cB_split (sn (pSet pl p 1)) (p + 1) a, cB_split (sn pl) (p + 1 + a) b, cB_zero (p := fun k => sn (pSet pl p 1) (p + 1 + k)) a (fun k hk => hmid _ (by omega) (by omega)), cB_pre (n := p + 1) (p := sn (pSet pl p 1)) (q := sn pl) (fun k hk => hlo k (by omega)), cB_pre (n := b) (p := fun k => sn (pSet pl p 1) (p + 1 + a + k)) (q := fun k => sn pl (p + 1 + a + k)) (fun k hk => hhi _ (by omega) (by omega))]
  omega
theorem pSet2 (pl : List PE) {p f : Nat} (hp : p < pl.length) (hf : pf pl p = f) (g : Nat) : pSet (pSet pl p g) p f = pl := by
  have h1 : pSet (pSet pl p g) p f = pSet pl p f := by
    show List.set (pSet pl p g) p (pn (pSet pl p g) p, pv (pSet pl p g) p, f) = pSet pl p f
    rw [pSet_n, pSet_v]
    show List.set (List.set pl p _) p _ = List.set pl p _
    rw [List.set_set]
  rw [h1, ← hf]
  exact pSet_id pl p hp
theorem stp_fold {A : AS} {r f z : Int} {A' : AS} (h : InvT A) (q : SpFold A r f z A') : InvT A' ∧ Stpd A A' := by
  unfold SpFold at q
  dsimp only at q
  rcases q with q | q | q | q
  · rw [q.2.2]; exact ⟨h, Stpd.no _⟩
  · rw [q.2.2.2]; exact ⟨h, Stpd.no _⟩
  · rw [q.2.2.2.2]; exact ⟨h, Stpd.no _⟩
  · rw [q.2.2.2.1]; exact ⟨h.done h.1, Stpd.done _ _⟩
theorem fold_fact {A : AS} (hB : AsB A) (hI : InvA A) {r z : Int} {f : Nat} {A' : AS} (h : SpFold A r f z A') (hf1 : f ≤ 1) (h0 : 0 ≤ r) (h1 : r < rwN A.2.2.2.2) :
    spRow A'.2.2.2.2 r 3 = spRow A.2.2.2.2 r 3 ∧ (spRow A.2.2.2.2 r 3 = 0 → z = -5) ∧ (spRow A.2.2.2.2 r 3 ≠ 0 → (spRow A.2.2.2.2 r 4 = f → z = -6) ∧ (spRow A.2.2.2.2 r 4 ≠ f → z = rwN A'.2.2.2.2 ∧ spRow A'.2.2.2.2 r 4 = f ∧ (f = 1 → z = rwN A.2.2.2.2 - spRow A.2.2.2.2 r 8) ∧ (f = 0 → rwN A.2.2.2.2 ≤ z))) ∧ (-6 ≤ z ∧ z ≤ 120) := by
  have hP := hB.2.2.1.2.2
  have hS := hI.2.1
  obtain ⟨p, p1, p2, p3, p4⟩ := row_ex h0 h1
  obtain ⟨s0, s1, s2, s3, s4, s5, s6, s7, s8⟩ := sp_row p4
  obtain ⟨e, e1, e2, e3, e4, e5⟩ := pEnd_p p1
  have hhk := hS.hk (p : Int) (by omega) (by omega)
  rw [Int.toNat_natCast] at hhk
  have hpf := (hP.2 p p1).2.2.2.2
  have hl := hP.1
  have hr := cB_le (sn A.2.2.2.2.2.2.2.2) A.2.2.2.2.2.2.2.2.length
  unfold SpFold at h
  dsimp only at h
  rw [p4, (gNVF _ p).2.2] at h
  rcases h with q | q | q | ⟨q1, q2, q3, q4, q5⟩
  · omega
  · rw [q.2.2.2]
    have : ¬ 0 < (kid A.2.2.2.2.2.2.2.1 (pn A.2.2.2.2.2.2.2.2 p)).length := fun w => q.2.1 (hhk.mpr w)
    exact ⟨rfl, fun _ => q.2.2.1, fun w => absurd (by rw [s3]; omega) w, by omega⟩
  · rw [q.2.2.2.2]
    have := hhk.mp q.2.1
    refine ⟨rfl, fun w => by omega, fun _ => ⟨fun _ => q.2.2.2.1, fun w => absurd (s4.trans q.2.2.1) w⟩, by omega⟩
  · have hkid := hhk.mp q2
    rw [Int.toNat_natCast, Int.toNat_natCast] at q4
    have eN : A'.2.2.2.2 = (A.2.2.2.2.1, A.2.2.2.2.2.1, A.2.2.2.2.2.2.1, A.2.2.2.2.2.2.2.1, pSet A.2.2.2.2.2.2.2.2 p f) := by rw [q4]; rfl
    have hls : (pSet A.2.2.2.2.2.2.2.2 p f).length = A.2.2.2.2.2.2.2.2.length := pSet_len _ _ _
    have hrN : rwN A'.2.2.2.2 = (cB (sn (pSet A.2.2.2.2.2.2.2.2 p f)) A.2.2.2.2.2.2.2.2.length : Int) := by
      unfold rwN
      rw [eN]
      dsimp only
      rw [hls]
    have hr' := cB_le (sn (pSet A.2.2.2.2.2.2.2.2 p f)) A.2.2.2.2.2.2.2.2.length
    have hsn : sn (pSet A.2.2.2.2.2.2.2.2 p f) p = true ∧ cB (sn (pSet A.2.2.2.2.2.2.2.2 p f)) p = cB (sn A.2.2.2.2.2.2.2.2) p := by
      have hlo : ∀ i, i ≤ p → sn (pSet A.2.2.2.2.2.2.2.2 p f) i = sn A.2.2.2.2.2.2.2.2 i := fun i hi => sn_cong (fun m hm => ⟨pSet_v _ _ _ m, by rw [pSet_f _ _ _ m p1, if_neg (by omega)]⟩) (pSet_v _ _ _ i)
      exact ⟨by rw [hlo p (Nat.le_refl _)]; exact p2, cB_pre (fun k hk => hlo k (by omega))⟩
    have hz' : plZ A'.2.2.2.2.2.2.2.2 r = p := by
      rw [eN]
      exact plZ_hit (by rw [hls]; exact p1) hsn.1 (by rw [hsn.2]; exact p3)
    have t := sp_row hz'
    have t3 : spRow A'.2.2.2.2 r 3 = spRow A.2.2.2.2 r 3 := by
      rw [t.2.2.2.1, s3, eN]
      dsimp only
      rw [pSet_n]
    have t4 : spRow A'.2.2.2.2 r 4 = f := by
      rw [t.2.2.2.2.1, eN]
      dsimp only
      rw [pSet_f _ _ _ p p1, if_pos rfl]
    have hw : spRow A.2.2.2.2 r 8 = (cB (sn A.2.2.2.2.2.2.2.2) e : Int) - (cB (sn A.2.2.2.2.2.2.2.2) (p + 1) : Int) := by
      rw [s8, e1]
      unfold cZ
      rw [Int.toNat_natCast, show ((p : Int) + 1).toNat = p + 1 by omega]
    refine ⟨t3, fun w => by omega, fun _ => ⟨fun w => absurd (s4.symm.trans w) q3, fun _ => ⟨q5, t4, fun w => ?_, fun w => ?_⟩⟩, by omega⟩
    · subst w
      have h5 := (fold_cnt hP p1 p2 e2 e3 e4 e5).2.2
      have h6 : rwN A.2.2.2.2 = (cB (sn A.2.2.2.2.2.2.2.2) A.2.2.2.2.2.2.2.2.length : Int) := rfl
      omega
    · subst w
      have hf : pf A.2.2.2.2.2.2.2.2 p = 1 := by omega
      have hv : ∀ m, pv (pSet A.2.2.2.2.2.2.2.2 p 0) m = pv A.2.2.2.2.2.2.2.2 m := fun m => pSet_v _ p 0 m
      have h5 := (fold_cnt (pl := pSet A.2.2.2.2.2.2.2.2 p 0) (hP.set p1 (by decide)) (p := p) (e := e) (by omega) hsn.1 e2 (by omega) (fun m a b => by rw [hv, hv]; exact e4 m a b) (fun a => by rw [hv, hv]; exact e5 (by omega))).2.2
      rw [pSet2 _ p1 hf, hls] at h5
      have h6 : rwN A.2.2.2.2 = (cB (sn A.2.2.2.2.2.2.2.2) A.2.2.2.2.2.2.2.2.length : Int) := rfl
      have h7 := cB_mn (sn (pSet A.2.2.2.2.2.2.2.2 p 0)) e2
      omega
theorem stp_flev {A : AS} {v z : Int} {A' : AS} (h : InvT A) (q : SpFLev A v z A') : InvT A' ∧ Stpd A A' := by
  unfold SpFLev at q
  dsimp only at q
  rcases q with q | q | q
  · rw [q.2.2]; exact ⟨h, Stpd.no _⟩
  · rw [q.2.2.2]; exact ⟨h, Stpd.no _⟩
  · rw [q.2.2.1]; exact ⟨h.done h.1, Stpd.done _ _⟩
theorem lev_seen {pl : List PE} (hP : PlB pl) (hLv : LvP pl) {v : Int} (hfx : ∀ k, k < pl.length → pf pl k = fLv pl v k) (hv : 1 ≤ v) : ∀ (n i : Nat), i < n → i < pl.length → sn pl i = true → (pv pl i : Int) ≤ v
  | 0, _, h, _, _ => absurd h (Nat.not_lt_zero _)
  | n + 1, i, hn, hi, hs => by
    rcases hLv i hi with a | ⟨j, a, b, c⟩
    · omega
    · have h1 := (sn_par hP hi a b c).mp hs
      have h2 := lev_seen hP hLv hfx hv n j (by omega) (by omega) h1.1
      by_cases e : (pv pl j : Int) = v
      · exfalso
        have h3 := hfx j (by omega)
        have h4 : pv pl j < pv pl (j + 1) := by
          rcases Nat.eq_or_lt_of_le (show j + 1 ≤ i by omega) with q | q
          · rw [q]; omega
          · have := c (j + 1) (by omega) q
            omega
        unfold fLv at h3
        rw [if_neg (by omega), if_pos ⟨e, h4⟩] at h3
        exact h1.2 h3
      · omega
theorem flev_fact {A : AS} (hB : AsB A) (hI : InvA A) {v z : Int} {A' : AS} (hB' : AsB A') (h : SpFLev A v z A') (hv : 1 ≤ v ∧ v ≤ 40) :
    (z = -6 ∨ z = rwN A'.2.2.2.2) ∧ (∀ k, 0 ≤ k → k < rwN A'.2.2.2.2 → (1 ≤ spRow A'.2.2.2.2 k 1 ∧ spRow A'.2.2.2.2 k 1 ≤ v) ∧ (spRow A'.2.2.2.2 k 4 = 0 ∨ spRow A'.2.2.2.2 k 4 = 1) ∧ (0 ≤ spRow A'.2.2.2.2 k 3 ∧ spRow A'.2.2.2.2 k 3 ≤ 120) ∧ (spRow A'.2.2.2.2 k 1 < v → spRow A'.2.2.2.2 k 4 = 0) ∧ (spRow A'.2.2.2.2 k 1 = v → spRow A'.2.2.2.2 k 4 = 0 → spRow A'.2.2.2.2 k 3 = 0)) ∧ (-6 ≤ z ∧ z ≤ 120) := by
  have hS' := (inv_flev hI h).2.1
  have hP := hB.2.2.1.2.2
  have hP' := hB'.2.2.1.2.2
  have hl' := hP'.1
  have hr' := cB_le (sn A'.2.2.2.2.2.2.2.2) A'.2.2.2.2.2.2.2.2.length
  have hrN : rwN A'.2.2.2.2 = (cB (sn A'.2.2.2.2.2.2.2.2) A'.2.2.2.2.2.2.2.2.length : Int) := rfl
  have key : (∀ k, k < A'.2.2.2.2.2.2.2.2.length → pf A'.2.2.2.2.2.2.2.2 k = fLv A'.2.2.2.2.2.2.2.2 v k) ∧ (z = -6 ∨ z = rwN A'.2.2.2.2) := by
    unfold SpFLev at h
    dsimp only at h
    rcases h with q | q | q
    · exact absurd hv q.1
    · rw [q.2.2.2]
      refine ⟨fun k hk => ?_, Or.inl q.2.2.1⟩
      by_cases e : fLv A.2.2.2.2.2.2.2.2 v k = pf A.2.2.2.2.2.2.2.2 k
      · exact e.symm
      · exact absurd ⟨k, hk, e⟩ q.2.1
    · refine ⟨fun k hk => ?_, Or.inr q.2.2.2⟩
      have eN : A'.2.2.2.2.2.2.2.2 = pFL A.2.2.2.2.2.2.2.2 v A.2.2.2.2.2.2.2.2.length := by rw [q.2.2.1]; rfl
      rw [eN, pFL_len] at hk
      rw [eN]
      have hf := pFL_f A.2.2.2.2.2.2.2.2 v k A.2.2.2.2.2.2.2.2.length (Nat.le_refl _)
      rw [if_pos hk] at hf
      have hv1 := (pFL_nv A.2.2.2.2.2.2.2.2 v k A.2.2.2.2.2.2.2.2.length).2
      have hv2 := (pFL_nv A.2.2.2.2.2.2.2.2 v (k + 1) A.2.2.2.2.2.2.2.2.length).2
      generalize pFL A.2.2.2.2.2.2.2.2 v A.2.2.2.2.2.2.2.2.length = Q at *
      rw [hf]
      unfold fLv
      rw [hv1, hv2]
      split
      · rfl
      · split
        · rfl
        · rename_i a b
          rw [hf]
          unfold fLv
          rw [if_neg a, if_neg b]
  refine ⟨key.2, fun k k0 k1 => ?_, by rcases key.2 with q | q <;> omega⟩
  obtain ⟨p, p1, p2, p3, p4⟩ := row_ex k0 k1
  have t := sp_row p4
  have h2 := lev_seen hP' hS'.wf.1 key.1 hv.1 (p + 1) p (by omega) p1 p2
  have h3 := hP'.2 p p1
  have h4 := key.1 p p1
  have hhk := hS'.hk (p : Int) (by omega) (by omega)
  rw [Int.toNat_natCast, (gNVF _ p).2.1, show ((p : Int) + 1) = ((p + 1 : Nat) : Int) by omega, (gNVF _ (p + 1)).2.1] at hhk
  have hsnd := snd_at hS' hB'.2.2.1 k0 k1
  refine ⟨by rw [t.2.1]; omega, hsnd.2.2.2.1, hsnd.2.2.1, fun q => ?_, fun q1 q2 => ?_⟩
  · rw [t.2.1] at q
    rw [t.2.2.2.2.1, h4]
    unfold fLv
    rw [if_pos q]
    rfl
  · rw [t.2.1] at q1
    rw [t.2.2.2.2.1] at q2
    rw [t.2.2.2.1]
    unfold fLv at h4
    rw [if_neg (by omega)] at h4
    by_cases e : (pv A'.2.2.2.2.2.2.2.2 p : Int) = v ∧ pv A'.2.2.2.2.2.2.2.2 p < pv A'.2.2.2.2.2.2.2.2 (p + 1)
    · rw [if_pos e] at h4
      omega
    · have : ¬ 0 < (kid A'.2.2.2.2.2.2.2.1 (pn A'.2.2.2.2.2.2.2.2 p)).length := fun w => e ⟨q1, by have := hhk.mpr w; omega⟩
      omega
theorem arr_skip {pl : List PE} {lev : Int} (a : Nat) : ∀ d, (∀ m, a ≤ m → m < a + d → lev ≤ (pv pl m : Int)) → arr pl (a + d) lev = arr pl a lev
  | 0, _ => rfl
  | d + 1, h => by
    rw [← Nat.add_assoc, arr, if_neg (by have := h (a + d) (by omega) (by omega); omega)]
    exact arr_skip a d (fun m x y => h m x (by omega))
theorem arr_cong {pl pl' : List PE} (h : ∀ m, pv pl' m = pv pl m) : ∀ n lev, arr pl' n lev = arr pl n lev
  | 0, _ => rfl
  | n + 1, lev => by rw [arr, arr, h, arr_cong h n lev, arr_cong h n (pv pl n)]
/-- a place is seen when none of the places around it is folded -/
theorem vis_arr {pl : List PE} (hP : PlB pl) (hLv : LvP pl) : ∀ (n k : Nat), k < n → k < pl.length → (∀ j ∈ arr pl k (pv pl k : Int), pf pl j ≠ 1) → sn pl k = true
  | 0, _, h, _, _ => absurd h (Nat.not_lt_zero _)
  | n + 1, k, hn, hk, h => by
    rcases hLv k hk with a | ⟨j, a, b, c⟩
    · exact sn_top hP hk a
    · have h1 : arr pl k (pv pl k : Int) = j :: arr pl j (pv pl j : Int) := by
        have h2 := arr_skip (pl := pl) (lev := (pv pl k : Int)) (j + 1) (k - (j + 1)) (fun m x y => by have := c m (by omega) (by omega); omega)
        rw [show j + 1 + (k - (j + 1)) = k by omega] at h2
        rw [h2, arr, if_pos (by omega)]
      rw [h1] at h
      exact (sn_par hP hk a b c).mpr ⟨vis_arr hP hLv n j (by omega) (by omega) (fun m hm => h m (List.mem_cons_of_mem _ hm)), h j List.mem_cons_self⟩
theorem stp_show {A : AS} {y z : Int} {A' : AS} (h : InvT A) (q : SpShow A y z A') : InvT A' ∧ Stpd A A' := by
  unfold SpShow at q
  dsimp only at q
  rcases q with q | q | q
  · rw [q.2.2]; exact ⟨h, Stpd.no _⟩
  · rw [q.2.2.2]; exact ⟨h, Stpd.no _⟩
  · rw [q.2.2.1]; exact ⟨h.done h.1, Stpd.done _ _⟩
theorem rwF_eq {pl : List PE} {k : Nat} (hk : k < pl.length) (hs : sn pl k = true) (hn : ∀ j, j < k → pn pl j ≠ pn pl k) : rwF pl (pn pl k : Int) = (cB (sn pl) k : Int) := by
  have hf : fZ (snN pl (pn pl k : Int)) pl.length 0 = k := fZ_eq (by omega) (by omega) (by omega) (fun j _ b => by
    have := hn j (by omega)
    unfold snN
    rw [decide_eq_false (by omega), Bool.and_false]) (fun _ => by
    rw [Int.toNat_natCast]
    exact (snN_iff pl _ hs).mpr rfl)
  unfold rwF
  rw [hf, if_pos (by omega), Int.toNat_natCast]
theorem show_fact {A : AS} (hB : AsB A) (hI : InvA A) {y z : Int} {A' : AS} (hB' : AsB A') (h : SpShow A y z A') :
    (spNod A.2.2.2.2 y 0 = -2 → z = -2) ∧ spNod A'.2.2.2.2 y 0 = spNod A.2.2.2.2 y 0 ∧ (spNod A.2.2.2.2 y 0 ≠ -2 → (z = -6 ∧ 0 ≤ spNod A.2.2.2.2 y 5) ∨ (0 ≤ z ∧ z < rwN A'.2.2.2.2 ∧ spNod A'.2.2.2.2 y 5 = z ∧ spRow A'.2.2.2.2 z 0 = y)) ∧ (-6 ≤ z ∧ z ≤ 120) := by
  have hS := hI.2.1
  have hS' := (inv_show hI h).2.1
  have hP := hB.2.2.1.2.2
  have hP' := hB'.2.2.1.2.2
  have hl' := hP'.1
  have hr' := cB_le (sn A'.2.2.2.2.2.2.2.2) A'.2.2.2.2.2.2.2.2.length
  unfold SpShow at h
  dsimp only at h
  by_cases hf : pFst A.2.2.2.2.2.2.2.2 y = -2
  · rcases h with q | q | q
    · rw [q.2.2]
      refine ⟨fun _ => q.2.1, rfl, fun w => absurd (sp_nod0 0 hf) w, by omega⟩
    · exact absurd hf q.1
    · exact absurd hf q.1
  · obtain ⟨k, hk1, hk2, hk3, hkf⟩ : ∃ k : Nat, pFst A.2.2.2.2.2.2.2.2 y = k ∧ k < A.2.2.2.2.2.2.2.2.length ∧ (pn A.2.2.2.2.2.2.2.2 k : Int) = y ∧ ∀ j, j < k → pn A.2.2.2.2.2.2.2.2 j ≠ pn A.2.2.2.2.2.2.2.2 k := by
      rcases pFst_r A.2.2.2.2.2.2.2.2 y with a | ⟨a1, a2, a3⟩
      · exact absurd a.1 hf
      · refine ⟨(pFst A.2.2.2.2.2.2.2.2 y).toNat, by omega, by omega, ?_, fun j hj => ?_⟩
        · rw [(gV_p a1).2.1, a3]
        · have h3 : (pn A.2.2.2.2.2.2.2.2 (pFst A.2.2.2.2.2.2.2.2 y).toNat : Int) = y := by rw [(gV_p a1).2.1, a3]
          have h2 := (fZ_spec (fun k => decide ((pn A.2.2.2.2.2.2.2.2 k : Int) = y)) A.2.2.2.2.2.2.2.2.length (i := 0) (by omega) (by omega)).2.2.1 j (by omega) (by
            unfold pFst at hj a1
            split at hj
            · omega
            · omega)
          have := of_decide_eq_false h2
          omega
    subst hk3
    obtain ⟨n0, n1, n2, n3, n4, n5, n6, n7, n8⟩ := sp_nod (S := A.2.2.2.2) hf
    have hlk := lk_len _ ((alv_lk hS _).mp hf)
    rw [hk1, Int.toNat_natCast, (gNVF _ k).2.1] at h
    refine ⟨fun q => by omega, ?_⟩
    rcases h with q | q | ⟨q1, q2, q3, q4⟩
    · omega
    · rw [q.2.2.2]
      have hs : sn A.2.2.2.2.2.2.2.2 k = true := vis_arr hP hS.wf.1 (k + 1) k (by omega) hk2 (fun j hj e => q.2.1 (List.any_eq_true.mpr ⟨j, hj, decide_eq_true e⟩))
      have := rwF_le hk2 hs
      exact ⟨rfl, fun _ => Or.inl ⟨q.2.2.1, by rw [n5]; exact this.1⟩, by omega⟩
    · have eN : A'.2.2.2.2 = (A.2.2.2.2.1, A.2.2.2.2.2.1, A.2.2.2.2.2.2.1, A.2.2.2.2.2.2.2.1, pUn A.2.2.2.2.2.2.2.2 (arr A.2.2.2.2.2.2.2.2 k (pv A.2.2.2.2.2.2.2.2 k : Int))) := by rw [q3]; rfl
      have eL : A'.2.2.2.2.2.2.2.1 = A.2.2.2.2.2.2.2.1 := by rw [eN]
      have eP : A'.2.2.2.2.2.2.2.2 = pUn A.2.2.2.2.2.2.2.2 (arr A.2.2.2.2.2.2.2.2 k (pv A.2.2.2.2.2.2.2.2 k : Int)) := by rw [eN]
      have hlen := pUn_len (arr A.2.2.2.2.2.2.2.2 k (pv A.2.2.2.2.2.2.2.2 k : Int)) A.2.2.2.2.2.2.2.2
      have hnv := pUn_nv (arr A.2.2.2.2.2.2.2.2 k (pv A.2.2.2.2.2.2.2.2 k : Int)) A.2.2.2.2.2.2.2.2
      have hpf := fun i => pUn_f (arr A.2.2.2.2.2.2.2.2 k (pv A.2.2.2.2.2.2.2.2 k : Int)) A.2.2.2.2.2.2.2.2 i (fun j hj => by have := arr_lt _ _ _ j hj; omega)
      rw [← eP] at hlen hnv hpf
      have hk2' : k < A'.2.2.2.2.2.2.2.2.length := by omega
      have hs : sn A'.2.2.2.2.2.2.2.2 k = true := vis_arr hP' hS'.wf.1 (k + 1) k (by omega) hk2' (fun j hj e => by
        rw [arr_cong (fun m => (hnv m).2), (hnv k).2] at hj
        rw [hpf j, if_pos hj] at e
        cases e)
      have hz : z = (cB (sn A'.2.2.2.2.2.2.2.2) k : Int) := by rw [q4, rwZ_sn hs]
      have hf' : pFst A'.2.2.2.2.2.2.2.2 (pn A.2.2.2.2.2.2.2.2 k : Int) ≠ -2 := by rw [← (hnv k).1]; exact fst_of hk2'
      have hrz := plZ_hit hk2' hs hz.symm
      have hlt := cB_lt (sn A'.2.2.2.2.2.2.2.2) hk2' hs
      have hrN : rwN A'.2.2.2.2 = (cB (sn A'.2.2.2.2.2.2.2.2) A'.2.2.2.2.2.2.2.2.length : Int) := rfl
      refine ⟨by rw [(sp_nod hf').1, n0, eL], fun _ => Or.inr ⟨by omega, by omega, ?_, ?_⟩, by omega⟩
      · rw [(sp_nod hf').2.2.2.2.2.1, ← (hnv k).1, rwF_eq hk2' hs (fun j hj => by rw [(hnv j).1, (hnv k).1]; exact hkf j hj), hz]
      · rw [(sp_row hrz).1, (hnv k).1]
theorem stp_edit {A : AS} {r z : Int} {A' : AS} (h : InvT A) (q : SpEdit A r z A') : InvT A' ∧ Stpd A A' := by
  unfold SpEdit at q
  dsimp only at q
  rcases q with q | q | q | q
  · rw [q.2.2]; exact ⟨h, Stpd.no _⟩
  · rw [q.2.2.2]; exact ⟨h, Stpd.no _⟩
  · rw [q.2.2.2.2]; exact ⟨h, Stpd.no _⟩
  · rw [q.2.2.2.1]
    refine ⟨h.done (fun y h1 h2 => ?_), Stpd.done _ _⟩
    show 1 ≤ (fU A.2.2.2.2.2.1 (gN A.2.2.2.2.2.2.2.2 (plZ A.2.2.2.2.2.2.2.2 r)).toNat A.1 y).length
    by_cases e : y = (gN A.2.2.2.2.2.2.2.2 (plZ A.2.2.2.2.2.2.2.2 r)).toNat
    · rw [e, fU_s]; exact q.2.1.1
    · rw [fU_n e]; exact h.1 y h1 h2
theorem fnd_at {t : List Int} {S : CS} {r : Int} {p : Nat} (h0 : 0 ≤ r) (h1 : r < rwN S) (hp : plZ S.2.2.2.2 r = p) (ht : S.2.1 (pn S.2.2.2.2 p) = t) : spFnd t S (r - 1) = r := by
  have hr : plR S.2.2.2.2 (r - 1) ≠ -2 := by
    by_cases e : r = 0
    · rw [e]
      unfold plR
      rw [if_pos (by omega)]
      omega
    · rw [plR_eq (by omega)]
      obtain ⟨q, -, -, -, q4⟩ := row_ex (pl := S.2.2.2.2) (r := r - 1) (by omega) (by unfold rwN at h1; omega)
      omega
  unfold rwN at h1
  have hf : fZ (fun k => decide (S.2.1 (gN S.2.2.2.2 (plZ S.2.2.2.2 k)).toNat = t)) (cB (sn S.2.2.2.2) S.2.2.2.2.length) r = r := fZ_hit h0 h1 (decide_eq_true (by
    rw [show ((r.toNat : Nat) : Int) = r by omega, hp, (gNVF _ p).1, Int.toNat_natCast]
    exact ht))
  unfold spFnd spNx
  rw [if_neg hr, show r - 1 + 1 = r by omega, hf, if_pos h1]
theorem edit_fact {A : AS} (hI : InvA A) {r z : Int} {A' : AS} (h : SpEdit A r z A') (h0 : 0 ≤ r) (h1 : r < rwN A.2.2.2.2) (ht : 1 ≤ A.1.length ∧ A.1.length ≤ 8) :
    (A.2.2.2.2.2.1 (spRow A.2.2.2.2 r 0).toNat = A.1 → z = -6) ∧ (A.2.2.2.2.2.1 (spRow A.2.2.2.2 r 0).toNat ≠ A.1 → z = spNod A'.2.2.2.2 (spRow A.2.2.2.2 r 0) 1) ∧ spNod A'.2.2.2.2 (spRow A.2.2.2.2 r 0) 6 = A.1.length ∧ spFnd A'.1 A'.2.2.2.2 (r - 1) = r ∧ (-6 ≤ z) := by
  have hS' := (inv_edit hI h).2.1
  obtain ⟨p, p1, p2, p3, p4⟩ := row_ex h0 h1
  obtain ⟨s0, -⟩ := sp_row p4
  rw [s0, Int.toNat_natCast]
  unfold SpEdit at h
  dsimp only at h
  rw [p4, (gNVF _ p).1, Int.toNat_natCast] at h
  have hcn := cZ_r (fun k => decide ((pn A.2.2.2.2.2.2.2.2 k : Int) = (pn A.2.2.2.2.2.2.2.2 p : Int))) (i := (A.2.2.2.2.2.2.2.2.length : Int)) (by omega)
  rcases h with q | q | q | ⟨q1, q2, q3, q4, q5⟩
  · omega
  · exact absurd ht q.2.1
  · rw [q.2.2.2.2]
    exact ⟨fun _ => q.2.2.2.1, fun w => absurd q.2.2.1 w, by rw [(sp_nod (fst_of p1)).2.2.2.2.2.2.1, q.2.2.1], fnd_at h0 h1 p4 q.2.2.1, by omega⟩
  · have eN : A'.2.2.2.2 = (A.2.2.2.2.1, fU A.2.2.2.2.2.1 (pn A.2.2.2.2.2.2.2.2 p) A.1, A.2.2.2.2.2.2.1, A.2.2.2.2.2.2.2.1, A.2.2.2.2.2.2.2.2) := by rw [q4]; rfl
    have eT : A'.1 = A.1 := by rw [q4]; rfl
    have hf : pFst A'.2.2.2.2.2.2.2.2 (pn A.2.2.2.2.2.2.2.2 p : Int) ≠ -2 := by rw [eN]; exact fst_of p1
    have hd : spNod A'.2.2.2.2 (pn A.2.2.2.2.2.2.2.2 p : Int) 1 = pCnt A.2.2.2.2.2.2.2.2 (pn A.2.2.2.2.2.2.2.2 p : Int) := by rw [(sp_nod hf).2.1, eN]
    refine ⟨fun w => absurd w q3, fun _ => by rw [hd]; exact q5, ?_, ?_, by unfold pCnt at q5; omega⟩
    · rw [(sp_nod hf).2.2.2.2.2.2.1, eN]
      dsimp only
      rw [fU_s]
    · rw [eT, eN]
      refine fnd_at (p := p) h0 ?_ p4 ?_
      · exact h1
      · dsimp only
        rw [fU_s]
theorem stp_mark {A : AS} {r v z : Int} {A' : AS} (h : InvT A) (q : SpMark A r v z A') : InvT A' ∧ Stpd A A' := by
  unfold SpMark at q
  dsimp only at q
  rcases q with q | q | q
  · rw [q.2.2]; exact ⟨h, Stpd.no _⟩
  · rw [q.2.2.2]; exact ⟨h, Stpd.no _⟩
  · rw [q.2.2.1]; exact ⟨h.done h.1, Stpd.done _ _⟩
theorem mark_fact {A : AS} {r z : Int} {v : Nat} {A' : AS} (h : SpMark A r v z A') (h0 : 0 ≤ r) (h1 : r < rwN A.2.2.2.2) (hv : v < 5) :
    z = (((spRow A.2.2.2.2 r 5).toNat ^^^ 2 ^ v : Nat) : Int) ∧ spNod A'.2.2.2.2 (spRow A.2.2.2.2 r 0) 4 = z ∧ rwN A'.2.2.2.2 = rwN A.2.2.2.2 := by
  obtain ⟨p, p1, p2, p3, p4⟩ := row_ex h0 h1
  obtain ⟨s0, s1, s2, s3, s4, s5, -⟩ := sp_row p4
  rw [s0, s5, Int.toNat_natCast]
  unfold SpMark at h
  dsimp only at h
  rw [p4, (gNVF _ p).1, Int.toNat_natCast, Int.toNat_natCast] at h
  rcases h with q | q | ⟨q1, q2, q3, q4⟩
  · omega
  · omega
  · have eN : A'.2.2.2.2 = (A.2.2.2.2.1, A.2.2.2.2.2.1, fU A.2.2.2.2.2.2.1 (pn A.2.2.2.2.2.2.2.2 p) (A.2.2.2.2.2.2.1 (pn A.2.2.2.2.2.2.2.2 p) ^^^ 2 ^ v), A.2.2.2.2.2.2.2.1, A.2.2.2.2.2.2.2.2) := by rw [q3]; rfl
    have hf : pFst A'.2.2.2.2.2.2.2.2 (pn A.2.2.2.2.2.2.2.2 p : Int) ≠ -2 := by rw [eN]; exact fst_of p1
    refine ⟨q4, ?_, by rw [eN]; rfl⟩
    rw [(sp_nod hf).2.2.2.2.1, q4, eN]
    dsimp only
    rw [fU_s]
theorem mark_bad {A : AS} {r z : Int} {A' : AS} (h : SpMark A r 5 z A') (h0 : 0 ≤ r) (h1 : r < rwN A.2.2.2.2) : z = -3 ∧ A' = A := by
  obtain ⟨p, p1, p2, p3, p4⟩ := row_ex h0 h1
  unfold SpMark at h
  dsimp only at h
  rw [p4] at h
  rcases h with q | q | q
  · omega
  · exact q.2.2
  · omega
