/-! PURE: what is counted -/
theorem lk_cnt {y : Nat} : ∀ {L : List LK} {n : Nat}, L.Nodup → (∀ q ∈ L, q.1 < n) → (L.filter (fun q : LK => decide ((q.2 : Int) = (y : Int)))).length = cB (fun k => decide ((k, y) ∈ L)) n
  | [], n, _, _ => by
    have : ∀ m, cB (fun k => decide ((k, y) ∈ ([] : List LK))) m = 0 := by
      intro m
      induction m with
      | zero => rfl
      | succ m ihq => rw [cB_s, ihq]; simp
    rw [this]
    rfl
  | q :: L, n, h1, h2 => by
    have h3 := List.nodup_cons.mp h1
    have h4 := lk_cnt (y := y) (L := L) (n := n) h3.2 (fun z hz => h2 z (List.mem_cons_of_mem _ hz))
    by_cases e : q.2 = y
    · have hq : q = (q.1, y) := by rw [← e]
      rw [List.filter_cons_of_pos (by rw [e]; simp), List.length_cons, h4]
      have h5 := cB_one (p := fun k => decide ((k, y) ∈ q :: L)) (q := fun k => decide ((k, y) ∈ L)) (j := q.1) (fun k hk => ?_) ?_ ?_ n
      · rw [if_pos (h2 q List.mem_cons_self)] at h5
        exact h5.symm
      · refine decide_eq_decide.mpr ?_
        rw [List.mem_cons]
        constructor
        · rintro (a | a)
          · exact absurd (congrArg (·.1) a) hk
          · exact a
        · exact Or.inr
      · exact decide_eq_true (by rw [← hq]; exact List.mem_cons_self)
      · exact decide_eq_false (by rw [← hq]; exact h3.1)
    · rw [List.filter_cons_of_neg (by simpa using (fun z : (q.2 : Int) = (y : Int) => e (by omega))), h4]
      refine cB_cong (fun k _ => decide_eq_decide.mpr ?_)
      rw [List.mem_cons]
      constructor
      · exact Or.inr
      · rintro (a | a)
        · exact absurd (congrArg (·.2) a).symm e
        · exact a
theorem InvS.pa {S : CS} (h : InvS S) (y : Nat) : ((S.2.2.2.1.filter (fun q : LK => decide ((q.2 : Int) = (y : Int)))).length : Int) = paN S.2.2.2.2 (kid S.2.2.2.1) S.1 y := by
  unfold paN cZ
  rw [show ((S.1 : Int) + 1).toNat = S.1 + 1 by omega, lk_cnt (n := S.1 + 1) (lk_nd h.1.2.2.1) (fun q hq => by
    have := (h.1.2.2.2 q.1 q.2 (kid_mem.mpr hq)).1
    omega)]
  congr 1
  refine cB_cong (fun k _ => ?_)
  unfold paQ
  refine decide_eq_decide.mpr ?_
  rw [kid_mem, h.al]
  exact ⟨fun a => ⟨(h.1.2.2.2 k y (kid_mem.mpr a)).2, a⟩, fun a => a.2⟩
theorem InvS.pw {S : CS} (h : InvS S) {y : Int} (hf : pFst S.2.2.2.2 y ≠ -2) {Q : List Nat} (hQ : ∀ b, b ∈ Q ↔ Rc (kid S.2.2.2.1) y.toNat b) : (popN (nbs (pWit S.2.2.2.2 (pFst S.2.2.2.2 y))) : Int) = ((cB (fun b => decide (b ∈ Q)) 41 : Nat) : Int) - 1 := by
  rcases pFst_r S.2.2.2.2 y with a | ⟨a1, a2, a3⟩
  · exact absurd a.1 hf
  · have h1 := h.nd a1 a2
    have h2 := h.wit a1 a2
    rw [a3] at h1 h2
    have h3 := cB_one (p := fun b => decide (b ∈ Q)) (q := fun k => decide (k ∈ pWit S.2.2.2.2 (pFst S.2.2.2.2 y))) (j := y.toNat) (fun k hk => ?_) ?_ ?_ 48
    · have h4 := h.1.1
      rw [if_pos (by omega)] at h3
      have h5 := cB_cut' (p := fun b => decide (b ∈ Q)) (n := 41) (k := 48) (fun k hk => decide_eq_false (fun q => by
        have := h.1.rcd h1.2.1 ((hQ k).mp q)
        omega)) (by omega)
      rw [pop_nbs]
      omega
    · refine decide_eq_decide.mpr ?_
      rw [hQ k, h2 k]
      constructor
      · intro q
        rcases q.un with e | e
        · exact absurd e.symm hk
        · exact e
      · rintro ⟨w, w1, w2⟩
        exact Rc.hd w1 w2
    · exact decide_eq_true ((hQ _).mpr (Rc.rf _ _))
    · refine decide_eq_false (fun q => ?_)
      obtain ⟨w, w1, w2⟩ := (h2 _).mp q
      exact h.1.2.1.no w1 w2
theorem InvS.n0 {S : CS} (h : InvS S) : (popN (nbs (pWit S.2.2.2.2 (-1))) : Int) = cZ (noQ S.2.2.2.2 (kid S.2.2.2.1) S.1 0) S.1 := by
  have h4 := h.1.1
  have h5 := cB_cut' (p := fun b => decide (b ∈ pWit S.2.2.2.2 (-1))) (n := S.1 + 1) (k := 48) (fun k hk => decide_eq_false (fun q => by
    have := h.1.rcd (Nat.zero_le _) ((h.wall k).mp q).2
    omega)) (by omega)
  have h6 := cB_sh (fun b => decide (b ∈ pWit S.2.2.2.2 (-1))) S.1
  rw [if_neg (by simpa using fun q => ((h.wall 0).mp q).1 rfl)] at h6
  unfold cZ
  rw [pop_nbs, h5, h6, Nat.zero_add, Int.toNat_natCast]
  congr 1
  refine cB_cong (fun k _ => ?_)
  unfold noQ
  refine decide_eq_decide.mpr ?_
  rw [h.wall, h.al]
  exact ⟨fun a => ⟨a.2, Or.inl rfl⟩, fun a => ⟨by omega, a.1⟩⟩
theorem InvS.n1 {S : CS} (h : InvS S) : cZ (shC S.2.2.2.1) 40 = cZ (noQ S.2.2.2.2 (kid S.2.2.2.1) S.1 1) S.1 := by
  have h4 := h.1.1
  have hp : ∀ k : Nat, ((S.2.2.2.1.filter (fun q : LK => decide ((q.2 : Int) = (k : Int) + 1))).length : Int) = paN S.2.2.2.2 (kid S.2.2.2.1) S.1 (k + 1) := fun k => h.pa (k + 1)
  have hin : ∀ k : Nat, 1 < (S.2.2.2.1.filter (fun q : LK => decide ((q.2 : Int) = (k : Int) + 1))).length → k + 1 ≤ S.1 ∧ Rc (kid S.2.2.2.1) 0 (k + 1) := by
    intro k hk
    cases e : S.2.2.2.1.filter (fun q : LK => decide ((q.2 : Int) = (k : Int) + 1)) with
    | nil =>
      rw [e] at hk
      simp at hk
    | cons q l =>
      have h1 : q ∈ S.2.2.2.1.filter (fun q : LK => decide ((q.2 : Int) = (k : Int) + 1)) := by
        rw [e]
        exact List.mem_cons_self
      obtain ⟨h2, h3⟩ := List.mem_filter.mp h1
      have h5 := of_decide_eq_true h3
      have h6 := h.1.2.2.2 q.1 q.2 (kid_mem.mpr h2)
      have h7 : q.2 = k + 1 := by omega
      have h8 := h6.2.st (kid_mem.mpr h2)
      rw [h7] at h6 h8
      exact ⟨h6.1.2.2, h8⟩
  have h5 := cB_cut' (p := shC S.2.2.2.1) (n := S.1) (k := 40) (fun k hk => decide_eq_false (fun q => by
    have := (hin k q).1
    omega)) (by omega)
  unfold cZ
  rw [show (40 : Int).toNat = 40 from rfl, h5, Int.toNat_natCast]
  congr 1
  refine cB_cong (fun k _ => ?_)
  unfold noQ shC
  refine decide_eq_decide.mpr ?_
  rw [← hp k, h.al]
  constructor
  · intro a
    exact ⟨(hin k a).2, Or.inr (by omega)⟩
  · rintro ⟨_, a | a⟩
    · cases a
    · omega
