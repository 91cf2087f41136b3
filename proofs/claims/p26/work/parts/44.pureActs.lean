/-! PURE: what acts keep -/
def StB (S : CS) : Prop := NoB S.1 S.2.1 S.2.2.1 ∧ LiB S.2.2.2.1 ∧ PlB S.2.2.2.2
def InvA (A : AS) : Prop := A.2.2.2.1 ≤ 1 ∧ InvS A.2.2.2.2 ∧ InvS A.2.2.1 ∧ ∀ S ∈ A.2.1, InvS S
def AsB (A : AS) : Prop := TyB A.1 ∧ A.2.1.length ≤ 5 ∧ StB A.2.2.2.2 ∧ StB A.2.2.1 ∧ ∀ S ∈ A.2.1, StB S
theorem StR.SB {h : AH} {q : Nat} {S : CS} (a : StR h q S) : StB S := ⟨a.2.1.B, a.2.2.1.B, a.2.2.2.B⟩
theorem OuR.AB {h : AH} {x b c d : Nat} {t : List Int} {hs : List CS} {sp S D : CS} (a : OuR h x t hs sp b c d S D) : AsB (t, hs, sp, b, S) := by
  obtain ⟨a1, a2, a3, a4, a5, a6, a7, a8, a9⟩ := a
  obtain ⟨o, f, Rg, h1, h2, h3⟩ := a5
  refine ⟨a2.B, h2, a7.SB, a6.SB, fun S' hS => ?_⟩
  obtain ⟨j, hj⟩ := List.getElem?_of_mem hS
  have hl := (List.getElem?_eq_some_iff.mp hj).1
  rw [h3 j hl] at hj
  rw [← Option.some.inj hj]
  exact (h1.2.2.2.2 ((o + j) % 5) (Nat.mod_lt _ (by decide))).SB
theorem OuA.AB {h : AH} {x : Nat} {A : AS} (a : OuA h x A) : AsB A := by
  obtain ⟨c, d, D, a⟩ := a
  exact a.AB
theorem In1.of {S : CS} (hB : StB S) (h : InvS S) : In1 S := ⟨hB.2.2, hB.1, h.1.kb, h.wf, h.lk hB.2.2⟩
theorem In2.of {A : AS} (hB : AsB A) (h : InvA A) : In2 A := ⟨hB.1, hB.2.1, h.1, In1.of hB.2.2.1 h.2.1, In1.of hB.2.2.2.1 h.2.2.1, fun S hS => In1.of (hB.2.2.2.2 S hS) (h.2.2.2 S hS)⟩
theorem hPush_mem {hs : List CS} {S T : CS} (h : T ∈ hPush hs S) : T ∈ hs ∨ T = S := by
  unfold hPush at h
  split at h
  · rcases List.mem_append.mp h with q | q
    · exact Or.inl (List.mem_of_mem_tail q)
    · exact Or.inr (List.mem_singleton.mp q)
  · rcases List.mem_append.mp h with q | q
    · exact Or.inl q
    · exact Or.inr (List.mem_singleton.mp q)
theorem InvA.done {A : AS} (h : InvA A) {S' : CS} (h' : InvS S') : InvA (Done A S') := ⟨h.1, h', h.2.2.1, fun T hT => by
  rcases hPush_mem hT with q | q
  · exact h.2.2.2 T q
  · rw [q]
    exact h.2.1⟩
theorem InvS.pl {S : CS} (h : InvS S) {tx : Nat → List Int} {mk : Nat → Nat} {pl' : List PE} (e : skL pl' = skL S.2.2.2.2) : InvS (S.1, tx, mk, S.2.2.2.1, pl') := ⟨h.1, e.trans h.2⟩
theorem inv_type {A : AS} {c z : Int} {A' : AS} (h : InvA A) (q : SpType A c z A') : InvA A' := by
  rcases q with ⟨_, _, q⟩ | ⟨_, _, q⟩ <;> rw [q] <;> exact h
theorem inv_clear {A : AS} {z : Int} {A' : AS} (h : InvA A) (q : SpClear A z A') : InvA A' := by
  rw [q.2]
  exact h
theorem inv_undo {A : AS} {z : Int} {A' : AS} (h : InvA A) (q : SpUndo A z A') : InvA A' := by
  rcases q with ⟨_, _, q⟩ | ⟨hs1, S1, q1, _, q⟩
  · rw [q]
    exact h
  · rw [q]
    have h2 := h.2.2.2
    rw [q1] at h2
    exact ⟨h.1, h2 S1 (List.mem_append_right _ (List.mem_singleton.mpr rfl)), h.2.2.1, fun S hS => h2 S (List.mem_append_left _ hS)⟩
theorem inv_keep {A : AS} {z : Int} {A' : AS} (h : InvA A) (q : SpKeep A z A') : InvA A' := by
  rw [q.2]
  exact ⟨Nat.le_refl _, h.2.1, h.2.1, h.2.2.2⟩
theorem inv_rest {A : AS} {z : Int} {A' : AS} (h : InvA A) (q : SpRest A z A') : InvA A' := by
  rcases q with ⟨_, _, q⟩ | ⟨_, _, q⟩
  · rw [q]
    exact h
  · rw [q]
    exact h.done h.2.2.1
theorem inv_fold {A : AS} {r f z : Int} {A' : AS} (h : InvA A) (q : SpFold A r f z A') : InvA A' := by
  unfold SpFold at q
  dsimp only at q
  rcases q with q | q | q | q
  · rw [q.2.2]
    exact h
  · rw [q.2.2.2]
    exact h
  · rw [q.2.2.2.2]
    exact h
  · rw [q.2.2.2.1]
    exact h.done (h.2.1.pl (skL_ext (pSet_len _ _ _) (fun i => ⟨pSet_n _ _ _ _, pSet_v _ _ _ _⟩)))
theorem inv_flev {A : AS} {v z : Int} {A' : AS} (h : InvA A) (q : SpFLev A v z A') : InvA A' := by
  unfold SpFLev at q
  dsimp only at q
  rcases q with q | q | q
  · rw [q.2.2]
    exact h
  · rw [q.2.2.2]
    exact h
  · rw [q.2.2.1]
    exact h.done (h.2.1.pl (skL_ext (pFL_len _ _ _) (fun i => pFL_nv _ _ _ _)))
theorem inv_show {A : AS} {y z : Int} {A' : AS} (h : InvA A) (q : SpShow A y z A') : InvA A' := by
  unfold SpShow at q
  dsimp only at q
  rcases q with q | q | q
  · rw [q.2.2]
    exact h
  · rw [q.2.2.2]
    exact h
  · rw [q.2.2.1]
    exact h.done (h.2.1.pl (skL_ext (pUn_len _ _) (fun i => pUn_nv _ _ _)))
theorem inv_edit {A : AS} {r z : Int} {A' : AS} (h : InvA A) (q : SpEdit A r z A') : InvA A' := by
  unfold SpEdit at q
  dsimp only at q
  rcases q with q | q | q | q
  · rw [q.2.2]
    exact h
  · rw [q.2.2.2]
    exact h
  · rw [q.2.2.2.2]
    exact h
  · rw [q.2.2.2.1]
    exact h.done (h.2.1.pl rfl)
theorem inv_mark {A : AS} {r v z : Int} {A' : AS} (h : InvA A) (q : SpMark A r v z A') : InvA A' := by
  unfold SpMark at q
  dsimp only at q
  rcases q with q | q | q
  · rw [q.2.2]
    exact h
  · rw [q.2.2.2]
    exact h
  · rw [q.2.2.1]
    exact h.done (h.2.1.pl rfl)
-- what becomes of the graph
theorem plZ_ok {pl : List PE} {r : Int} (h : plZ pl r ≠ -2) : 0 ≤ plZ pl r ∧ plZ pl r < pl.length := by
  have h2 := plZ_r pl r
  omega
theorem kd_add {S : CS} (h : InvS S) {r : Int} (hr : plR S.2.2.2.2 r ≠ -2) (hd : S.1 < 40) : InvK (S.1 + 1) (kid (S.2.2.2.1 ++ [((gN S.2.2.2.2 (plR S.2.2.2.2 r)).toNat, S.1 + 1)])) := by
  obtain ⟨p1, p2, p3⟩ := h.nr hr
  have hno : kid S.2.2.2.1 (S.1 + 1) = [] := h.1.out (by omega)
  have hni : S.1 + 1 ∉ kid S.2.2.2.1 (gN S.2.2.2.2 (plR S.2.2.2.2 r)).toNat := fun q => by
    have := (h.1.2.2.2 _ _ q).1
    omega
  rw [kid_snoc]
  refine h.1.add (Nat.le_succ _) (by omega) (AdE.of _ _ _) (nd_snoc h.1.2.2.1 hni) p1 p2 ⟨by omega, by omega⟩ (fun q => ?_)
  rcases q.un with a | ⟨y, y1, y2⟩
  · omega
  · rw [hno] at y1
    cases y1
theorem kd_cl {S : CS} (h : InvS S) {r u : Int} (hk : plZ S.2.2.2.2 r ≠ -2) (hw : plR S.2.2.2.2 u ≠ -2) (hn : ¬ rfP S (plZ S.2.2.2.2 r) (plR S.2.2.2.2 u)) : InvK S.1 (kid (S.2.2.2.1 ++ [((gN S.2.2.2.2 (plR S.2.2.2.2 u)).toNat, (gN S.2.2.2.2 (plZ S.2.2.2.2 r)).toNat)])) := by
  obtain ⟨p1, p2, p3⟩ := h.nr hw
  obtain ⟨k1, k2⟩ := plZ_ok hk
  obtain ⟨x1, x2, x3, x4, x5⟩ := h.nd k1 k2
  rw [h.rf k1 k2 p3] at hn
  rw [kid_snoc]
  exact h.1.add (Nat.le_refl _) h.1.1 (AdE.of _ _ _) (nd_snoc h.1.2.2.1 (fun q => hn (Or.inr q))) p1 p2 ⟨x1, x2⟩ (fun q => hn (Or.inl q))
theorem kd_x {S : CS} (h : InvS S) (hB : PlB S.2.2.2.2) {k : Int} (k1 : 0 ≤ k) (k2 : k < S.2.2.2.2.length) : kid (lkX S k) = fU (kid S.2.2.2.1) (gN S.2.2.2.2 (pPar S.2.2.2.2 k)).toNat ((kid S.2.2.2.1 (gN S.2.2.2.2 (pPar S.2.2.2.2 k)).toNat).erase (gN S.2.2.2.2 k).toNat) := kid_er (h.lk hB k k1 k2)
theorem kd_mv {S : CS} (h : InvS S) (hB : PlB S.2.2.2.2) {r u : Int} (hk : plZ S.2.2.2.2 r ≠ -2) (hw : plR S.2.2.2.2 u ≠ -2) (hn : ¬ rfP S (plZ S.2.2.2.2 r) (plR S.2.2.2.2 u)) : InvK S.1 (kid (lkX S (plZ S.2.2.2.2 r) ++ [((gN S.2.2.2.2 (plR S.2.2.2.2 u)).toNat, (gN S.2.2.2.2 (plZ S.2.2.2.2 r)).toNat)])) := by
  obtain ⟨p1, p2, p3⟩ := h.nr hw
  obtain ⟨k1, k2⟩ := plZ_ok hk
  obtain ⟨x1, x2, x3, x4, x5⟩ := h.nd k1 k2
  rw [h.rf k1 k2 p3] at hn
  rw [kid_snoc, kd_x h hB k1 k2]
  have hnd := h.1.2.2.1
  have hmm : ∀ u y, y ∈ fU (kid S.2.2.2.1) (gN S.2.2.2.2 (pPar S.2.2.2.2 (plZ S.2.2.2.2 r))).toNat ((kid S.2.2.2.1 (gN S.2.2.2.2 (pPar S.2.2.2.2 (plZ S.2.2.2.2 r))).toNat).erase (gN S.2.2.2.2 (plZ S.2.2.2.2 r)).toNat) u ↔ y ∈ kid S.2.2.2.1 u ∧ ¬ (u = (gN S.2.2.2.2 (pPar S.2.2.2.2 (plZ S.2.2.2.2 r))).toNat ∧ y = (gN S.2.2.2.2 (plZ S.2.2.2.2 r)).toNat) := fun u y => er_mem hnd
  exact h.1.mv hmm (AdE.of _ _ _) (nd_snoc (fun w => (er_sub _ _ _ w).nodup (hnd w)) (fun q => hn (Or.inr ((hmm _ _).mp q).1))) p1 p2 ⟨x1, x2⟩ (fun q => hn (Or.inl q))
theorem lyO_len (L : List LK) (bef : List PE) : (lyO L bef).length = (skF (kid L) 40 1 (kid L 0)).length := by
  rw [← skL_len]
  unfold lyO
  rw [lyF_sk]
theorem kd_ct {S : CS} (h : InvS S) (hB : PlB S.2.2.2.2) {k : Int} (k1 : 0 ≤ k) (k2 : k < S.2.2.2.2.length) : Dp (kid (lkX S k)) 40 0 ∧ (lyO (lkX S k) S.2.2.2.2).length ≤ S.2.2.2.2.length ∧ (∀ y, y ∈ pWit (lyO (lkX S k) S.2.2.2.2) (-1) ↔ (y ≠ 0 ∧ Rc (kid (lkX S k)) 0 y)) ∧
    ∀ tx mk, InvS (S.1, tx, mk, (lkX S k).filter (fun q => decide (q.1 ∈ pWit (lyO (lkX S k) S.2.2.2.2) (-1) ++ [0])), lyO (lkX S k) S.2.2.2.2) := by
  have hx := kd_x h hB k1 k2
  generalize hM : lkX S k = M at *
  have hsub : ∀ u, (kid M u).Sublist (kid S.2.2.2.1 u) := fun u => by
    rw [hx]
    exact er_sub _ _ _ u
  have hs1 : ∀ u y, y ∈ kid M u → y ∈ kid S.2.2.2.1 u := fun u y q => (hsub u).subset q
  have hD : Dp (kid M) 40 0 := (h.1.2.1.sub hs1).dp (fun x y hy => by
    have g1 := (h.1.2.2.2 x y (hs1 x y hy)).1
    have g2 := h.1.1
    omega)
  have hS : skL (lyO M S.2.2.2.2) = skF (kid M) 40 1 (kid M 0) := lyF_sk _ _ _ _ _ _
  have hw : ∀ y, y ∈ pWit (lyO M S.2.2.2.2) (-1) ↔ (y ≠ 0 ∧ Rc (kid M) 0 y) := fun y => by
    rw [sk_all hS, sk_mem 40 1 (kid M 0) (fun w hw => Dp_kid hD hw) y]
    constructor
    · rintro ⟨w, w1, w2⟩
      refine ⟨fun q => ?_, Rc.hd w1 w2⟩
      rw [q] at w2
      have g3 := h.1.no0 (Rc.sub hs1 w2)
      have g4 := (h.1.2.2.2 0 w (hs1 _ _ w1)).1
      omega
    · rintro ⟨w1, w2⟩
      rcases w2.un with q | q
      · exact absurd q.symm w1
      · exact q
  refine ⟨hD, ?_, hw, fun tx mk => ?_⟩
  · rw [lyO_len, ← skL_len S.2.2.2.2, h.2]
    exact sk_le hsub 40 1 _ _ (hsub 0)
  · have hk : ∀ u, kid (M.filter (fun q => decide (q.1 ∈ pWit (lyO M S.2.2.2.2) (-1) ++ [0]))) u = if u ∈ pWit (lyO M S.2.2.2.2) (-1) ++ [0] then kid M u else [] := fun u => kid_flt _ u M
    have hin : ∀ u, u ∈ pWit (lyO M S.2.2.2.2) (-1) ++ [0] ↔ Rc (kid M) 0 u := fun u => by
      rw [List.mem_append, hw u, List.mem_singleton]
      constructor
      · rintro (q | q)
        · exact q.2
        · rw [q]
          exact Rc.rf _ _
      · intro q
        by_cases hu : u = 0
        · exact Or.inr hu
        · exact Or.inl ⟨hu, q⟩
    constructor
    · show InvK S.1 (kid (M.filter (fun q => decide (q.1 ∈ pWit (lyO M S.2.2.2.2) (-1) ++ [0]))))
      refine h.1.ct (K1 := kid M) hs1 (fun u y => ?_) (fun u => ?_)
      · rw [hk u]
        by_cases q : u ∈ pWit (lyO M S.2.2.2.2) (-1) ++ [0]
        · rw [if_pos q]
          exact ⟨fun a => ⟨a, (hin u).mp q⟩, fun a => a.1⟩
        · rw [if_neg q]
          exact ⟨fun a => (by cases a), fun a => absurd ((hin u).mpr a.2) q⟩
      · rw [hk u]
        split
        · exact (hsub u).nodup (h.1.2.2.1 u)
        · exact List.nodup_nil
    · show skL (lyO M S.2.2.2.2) = skF (kid (M.filter (fun q => decide (q.1 ∈ pWit (lyO M S.2.2.2.2) (-1) ++ [0])))) 40 1 (kid (M.filter (fun q => decide (q.1 ∈ pWit (lyO M S.2.2.2.2) (-1) ++ [0]))) 0)
      have h0 := hk 0
      rw [if_pos ((hin 0).mpr (Rc.rf _ _))] at h0
      rw [h0, hS]
      refine (sk_cg 40 1 (kid M 0) (fun y hy x hx => ?_)).symm
      rw [hk x, if_pos ((hin x).mpr (Rc.hd hy hx))]
theorem kd_sh {S : CS} (h : InvS S) {M : List LK} {x y : Nat} {v : Int} {a b : List Nat} (hm : ShK S.2.2.2.1 M x y v a b) : InvK S.1 (kid M) ∧ (lyO M S.2.2.2.2).length = S.2.2.2.2.length := by
  obtain ⟨m1, m2, m3, m4, m5, m6, m7⟩ := hm
  have hp : ∀ u, (kid M u).Perm (kid S.2.2.2.1 u) := fun u => by
    by_cases q : u = x
    · subst q
      rw [m5, m1]
      exact shK_perm a b y v
    · rw [m6 u q]
  refine ⟨h.1.pm hp, ?_⟩
  rw [lyO_len, ← skL_len S.2.2.2.2, h.2]
  exact sk_perm hp 40 1 _ _ (hp 0)
theorem InvK.lyO {d : Nat} {L : List LK} (h : InvK d (kid L)) (tx : Nat → List Int) (mk : Nat → Nat) (bef : List PE) : InvS (d, tx, mk, L, lyO L bef) := ⟨h, lyF_sk _ _ _ _ _ _⟩
theorem inv_att {A : AS} {e : Nat} {tx : Nat → List Int} {mk : Nat → Nat} {L : List LK} {y k : Nat} {z : Int} {A' : AS} (h : InvA A) (hK : InvK e (kid (L ++ [(y, k)]))) (q : Att A e tx mk L y k z A') : InvA A' := by
  rcases q with ⟨_, _, q⟩ | ⟨_, _, q⟩
  · rw [q]
    exact h.done (hK.lyO _ _ _)
  · rw [q]
    exact h
/-- whether there is room for the pair is told by the places -/
theorem att_room {e : Nat} {L : List LK} {y k : Nat} (hK : InvK e (kid (L ++ [(y, k)]))) (bef : List PE) : (L.length < 120 ∧ (lyO (L ++ [(y, k)]) bef).length ≤ 120) ↔ (lyO (L ++ [(y, k)]) bef).length ≤ 120 := by
  have h1 := lk_le hK
  rw [← lyO_len _ bef, List.length_append, List.length_singleton] at h1
  omega
theorem inv_add {A : AS} {r z : Int} {A' : AS} (h : InvA A) (q : SpAdd A r z A') : InvA A' := by
  unfold SpAdd at q
  dsimp only at q
  rcases q with q | q | q | ⟨q1, q2, q3, v, q4, q5⟩
  · rw [q.2.2]
    exact h
  · rw [q.2.2.2]
    exact h
  · rw [q.2.2.2.2]
    exact h
  · exact inv_att h (kd_add h.2.1 q1 q3) q4
theorem inv_clone {A : AS} {r u z : Int} {A' : AS} (h : InvA A) (q : SpClone A r u z A') : InvA A' := by
  unfold SpClone at q
  dsimp only at q
  rcases q with q | q | q
  · rw [q.2.2]
    exact h
  · rw [q.2.2.2]
    exact h
  · exact inv_att h (kd_cl h.2.1 q.1.1 q.1.2 q.2.1) q.2.2
theorem inv_move {A : AS} {r u z : Int} {A' : AS} (hB : AsB A) (h : InvA A) (q : SpMove A r u z A') : InvA A' := by
  unfold SpMove at q
  dsimp only at q
  rcases q with q | q | q
  · rw [q.2.2]
    exact h
  · rw [q.2.2.2]
    exact h
  · exact inv_att h (kd_mv h.2.1 hB.2.2.1.2.2 q.1.1 q.1.2 q.2.1) q.2.2
theorem inv_cut {A : AS} {r z : Int} {A' : AS} (hB : AsB A) (h : InvA A) (q : SpCut A r z A') : InvA A' := by
  unfold SpCut at q
  dsimp only at q
  rcases q with q | q
  · rw [q.2.2]
    exact h
  · rw [q.2.2]
    have hk := plZ_ok q.1
    exact h.done ((kd_ct h.2.1 hB.2.2.1.2.2 hk.1 hk.2).2.2.2 _ _)
theorem inv_shift {A : AS} {r v z : Int} {A' : AS} (h : InvA A) (q : SpShift A r v z A') : InvA A' := by
  unfold SpShift at q
  dsimp only at q
  rcases q with q | q | q | ⟨q1, q2, q3, M, a, b, q4, q5, q6⟩
  · rw [q.2.2]
    exact h
  · rw [q.2.2.2]
    exact h
  · rw [q.2.2.2.2]
    exact h
  · rw [q6]
    exact h.done ((kd_sh h.2.1 q4).1.lyO _ _ _)
-- reading
def RdI (s : RS) : Prop := InvK s.2.2.2.1 (kid s.2.2.2.2.2) ∧ 1 ≤ s.1.length ∧ s.1.getD 0 0 = 0 ∧ (∀ i, i < s.1.length → Rc (kid s.2.2.2.2.2) 0 (s.1.getD i 0) ∧ ∀ y, Rc (kid s.2.2.2.2.2) y (s.1.getD i 0) → ∃ j, j ≤ i ∧ s.1.getD j 0 = y) ∧
  (s.2.2.1 = 1 → Rc (kid s.2.2.2.2.2) 0 s.2.2.2.1 ∧ ∀ y, Rc (kid s.2.2.2.2.2) y s.2.2.2.1 → y = s.2.2.2.1 ∨ ∃ j, j < s.1.length ∧ s.1.getD j 0 = y)
theorem RdI.zero : RdI rd0 := by
  refine ⟨⟨by decide, ⟨fun _ => 0, fun x y hy => by cases hy⟩, fun x => List.nodup_nil, fun x y hy => by cases hy⟩, by decide, rfl, fun i hi => ?_, fun q => by cases q⟩
  have hi' : i < 1 := hi
  have q : i = 0 := by omega
  subst q
  refine ⟨Rc.rf _ _, fun y hy => ⟨0, Nat.le_refl _, ?_⟩⟩
  rcases hy.un with e | ⟨w, w1, w2⟩
  · exact e.symm
  · cases w1
theorem RdI.step {x : Nat} {s s' : RS} {c : Int} (hB : RdB x s) (h : RdI s) (e : rdS s c = some s') : RdI s' := by
  obtain ⟨op, lt, sg, d, le, L⟩ := s
  obtain ⟨h1, h2, h3, h4, h5⟩ := h
  obtain ⟨b1, b2, b3, b4, b5, b6, b7, b8⟩ := hB
  dsimp only at h1 h2 h3 h4 h5 b1 b2 b3 b4 b5 b6 b7 b8
  have ht : rtp op = op.getD (op.length - 1) 0 := rfl
  have htd : rtp op ≤ d := rtp_le h2 b2
  have htr := h4 (op.length - 1) (by omega)
  rw [← ht] at htr
  have hgm : ∀ i, i < op.length → op.getD i 0 ≤ d := fun i hi => b2 _ (by
    rw [List.getD_eq_getElem?_getD, List.getElem?_eq_getElem hi]
    exact List.getElem_mem _)
  unfold rdS at e
  dsimp only at e
  split at e
  · split at e
    · rename_i hc
      split at e
      · -- a letter that has not stood before
        have hs := Option.some.inj e
        subst hs
        have hno : kid L (d + 1) = [] := h1.out (by omega)
        have hnp : ∀ w, w ≤ d → ¬ Rc (kid L) (d + 1) w := fun w hw q => by
          rcases q.un with a | ⟨y, y1, y2⟩
          · omega
          · rw [hno] at y1
            cases y1
        have hni : d + 1 ∉ kid L (rtp op) := fun q => by
          have := (h1.2.2.2 _ _ q).1
          omega
        have hA : AdE (kid L) (kid (L ++ [(rtp op, d + 1)])) (rtp op) (d + 1) := by
          rw [kid_snoc]
          exact AdE.of _ _ _
        refine ⟨?_, h2, h3, fun i hi => ⟨hA.up (h4 i hi).1, fun y hy => ?_⟩, fun _ => ⟨(hA.up htr.1).st ((hA _ _).mpr (Or.inr ⟨rfl, rfl⟩)), fun y hy => ?_⟩⟩
        · dsimp only
          rw [kid_snoc]
          exact h1.add (Nat.le_succ _) (by omega) (AdE.of _ _ _) (nd_snoc h1.2.2.1 hni) htd htr.1 ⟨by omega, by omega⟩ (hnp _ htd)
        · rcases hA.rc hy with a | ⟨a1, a2⟩
          · exact (h4 i hi).2 y a
          · exact absurd a2 (hnp _ (hgm i hi))
        · rcases hA.rc hy with a | ⟨a1, a2⟩
          · left
            obtain ⟨n, hn⟩ := a
            cases n with
            | zero => exact (show d + 1 = y from hn).symm
            | succ n =>
              obtain ⟨z, z1, z2⟩ := hn
              have z3 : d + 1 ∈ kid L z := z2
              have := (h1.2.2.2 _ _ z3).1
              omega
          · right
            obtain ⟨j, j1, j2⟩ := htr.2 y a1
            exact ⟨j, by dsimp only; omega, j2⟩
      · split at e
        · cases e
        · -- a clone
          rename_i hk0 hk1
          have hs := Option.some.inj e
          subst hs
          have hk2 : lt (c - 97).toNat ≤ d := b4 _ (by omega)
          generalize hk : lt (c - 97).toNat = k at *
          rw [not_or] at hk1
          have hnt : ∀ j, j < op.length → op.getD j 0 ≠ k := fun j hj q => by
            by_cases j0 : j = 0
            · subst j0
              omega
            · exact hk1.1 (mem_tail.mpr ⟨j, by omega, hj, q⟩)
          have hni : k ∉ kid L (rtp op) := fun q => hk1.2 (kid_mem.mp q)
          have hnp : ∀ i, i < op.length → ¬ Rc (kid L) k (op.getD i 0) := fun i hi q => by
            obtain ⟨j, j1, j2⟩ := (h4 i hi).2 k q
            exact hnt j (by omega) j2
          have hA : AdE (kid L) (kid (L ++ [(rtp op, k)])) (rtp op) k := by
            rw [kid_snoc]
            exact AdE.of _ _ _
          refine ⟨?_, h2, h3, fun i hi => ⟨hA.up (h4 i hi).1, fun y hy => ?_⟩, fun q => by cases q⟩
          · dsimp only
            rw [kid_snoc]
            exact h1.add (Nat.le_refl _) h1.1 (AdE.of _ _ _) (nd_snoc h1.2.2.1 hni) htd htr.1 ⟨by omega, hk2⟩ (hnp (op.length - 1) (by omega))
          · rcases hA.rc hy with a | ⟨a1, a2⟩
            · exact (h4 i hi).2 y a
            · exact absurd a2 (hnp i hi)
    · cases e
  · split at e
    · have hs := Option.some.inj e
      subst hs
      exact ⟨h1, h2, h3, h4, fun q => by cases q⟩
    · split at e
      · rename_i hc
        have hs := Option.some.inj e
        subst hs
        have h6 := h5 hc.2
        have hlo : ∀ i, i < op.length → (op ++ [d]).getD i 0 = op.getD i 0 := fun i hi => gd_lo hi
        have hhi : (op ++ [d]).getD op.length 0 = d := gd_hi
        refine ⟨h1, by dsimp only; rw [List.length_append]; omega, by dsimp only; rw [hlo 0 (by omega)]; exact h3, fun i hi => ?_, fun q => by cases q⟩
        dsimp only at hi ⊢
        rw [List.length_append, List.length_singleton] at hi
        by_cases hi2 : i < op.length
        · rw [hlo i hi2]
          refine ⟨(h4 i hi2).1, fun y hy => ?_⟩
          obtain ⟨j, j1, j2⟩ := (h4 i hi2).2 y hy
          exact ⟨j, j1, by rw [hlo j (by omega)]; exact j2⟩
        · have hi3 : i = op.length := by omega
          subst hi3
          rw [hhi]
          refine ⟨h6.1, fun y hy => ?_⟩
          rcases h6.2 y hy with q | ⟨j, j1, j2⟩
          · exact ⟨op.length, Nat.le_refl _, by rw [hhi, q]⟩
          · exact ⟨j, by omega, by rw [hlo j j1]; exact j2⟩
      · split at e
        · rename_i hc
          have hs := Option.some.inj e
          subst hs
          have hl : ∀ i, i < op.length - 1 → op.dropLast.getD i 0 = op.getD i 0 := fun i hi => by
            rw [List.getD_eq_getElem?_getD, List.getD_eq_getElem?_getD, List.getElem?_dropLast, if_pos hi]
          refine ⟨h1, by dsimp only; rw [List.length_dropLast]; omega, by dsimp only; rw [hl 0 (by omega)]; exact h3, fun i hi => ?_, fun q => by cases q⟩
          dsimp only at hi ⊢
          rw [List.length_dropLast] at hi
          rw [hl i hi]
          refine ⟨(h4 i (by omega)).1, fun y hy => ?_⟩
          obtain ⟨j, j1, j2⟩ := (h4 i (by omega)).2 y hy
          exact ⟨j, j1, by rw [hl j (by omega)]; exact j2⟩
        · cases e
theorem rdP_I (t : List Int) : ∀ (n : Nat) (s : RS), rdP t n = some s → RdI s
  | 0, s, h => by
    have q : rd0 = s := Option.some.inj h
    rw [← q]
    exact RdI.zero
  | n + 1, s, h => by
    rw [rdP_s] at h
    cases q : rdP t n with
    | none =>
      rw [q] at h
      cases h
    | some s0 =>
      rw [q] at h
      exact RdI.step (rdP_B t n s0 q) (rdP_I t n s0 q) h
theorem RdOk.inv {t : List Int} {s : RS} (h : RdOk t s) : InvK s.2.2.2.1 (kid s.2.2.2.2.2) := (rdP_I t _ s h.1).1
theorem inv_read {A : AS} {z : Int} {A' : AS} (h : InvA A) (q : SpRead A z A') : InvA A' := by
  rcases q with ⟨x, _, _, q⟩ | ⟨s, _, _, _, q⟩ | ⟨s, q1, _, _, q⟩
  · rw [q]
    exact h
  · rw [q]
    exact h
  · rw [q]
    exact h.done ⟨q1.inv, lyF_sk _ _ _ _ _ _⟩
