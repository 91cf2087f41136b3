theorem drop_cons {K l : List Nat} {m z : Nat} (h : K.drop m = z :: l) : K.take (m + 1) = K.take m ++ [z] ∧ K.drop (m + 1) = l ∧ m < K.length := by
  have hm : m < K.length := Nat.lt_of_not_le fun q => by rw [List.drop_eq_nil_of_le q] at h; cases h
  have e := (List.take_append_drop m K).symm
  rw [h] at e
  have ht : (K.take m).length = m := by rw [List.length_take]; omega
  generalize K.take m = T at *
  subst e
  refine ⟨?_, ?_, hm⟩
  · rw [← ht, show T ++ z :: l = (T ++ [z]) ++ l by simp, show T.length + 1 = (T ++ [z]).length by simp, List.take_left]
  · rw [← ht, show T ++ z :: l = (T ++ [z]) ++ l by simp, show T.length + 1 = (T ++ [z]).length by simp, List.drop_left]
theorem take_snoc {K l : List Nat} {m z : Nat} (h : l ++ [z] = K.take m) (hm : m ≤ K.length) : 1 ≤ m ∧ l = K.take (m - 1) ∧ z :: K.drop m = K.drop (m - 1) := by
  have e := (List.take_append_drop m K).symm
  rw [← h] at e
  have ht : (K.take m).length = m := by rw [List.length_take]; omega
  rw [← h, List.length_append, List.length_singleton] at ht
  generalize K.drop m = T at *
  subst e
  refine ⟨by omega, ?_, ?_⟩
  · rw [show m - 1 = l.length by omega, List.append_assoc, List.take_left]
  · rw [show m - 1 = l.length by omega, List.append_assoc, List.drop_left]
    rfl
theorem lp_lo {A M : List LK} {i : Nat} (h : i < A.length) : lp (A ++ M) i = lp A i := by
  unfold lp
  rw [List.getD_eq_getElem?_getD, List.getD_eq_getElem?_getD, List.getElem?_append_left h]
theorem lp_hi (A M : List LK) (j : Nat) : lp (A ++ M) (A.length + j) = lp M j := by
  unfold lp
  rw [List.getD_eq_getElem?_getD, List.getD_eq_getElem?_getD, List.getElem?_append_right (by omega), show A.length + j - A.length = j by omega]
theorem lp_0 (q : LK) (M : List LK) : lp (q :: M) 0 = q := rfl
theorem lp_s (q : LK) (M : List LK) (j : Nat) : lp (q :: M) (j + 1) = lp M j := rfl
theorem LiH.hd {A M : List LK} {q : LK} {a b : Nat → Int} (h : LiH (A ++ q :: M) a b) : a A.length = q.1 ∧ b A.length = q.2 := by
  have := h A.length (by simp)
  rw [show A.length = A.length + 0 from rfl, lp_hi, lp_0] at this
  exact this
theorem LiH.sw {A B C : List LK} {x y z : Nat} {a b b' : Nat → Int} (h : LiH (A ++ (x, y) :: (B ++ (x, z) :: C)) a b) (h1 : b' A.length = z) (h2 : b' (A.length + 1 + B.length) = y) (h3 : ∀ i, i ≠ A.length → i ≠ A.length + 1 + B.length → b' i = b i) : LiH (A ++ (x, z) :: (B ++ (x, y) :: C)) a b' := by
  intro i hi
  have hl : (A ++ (x, z) :: (B ++ (x, y) :: C)).length = (A ++ (x, y) :: (B ++ (x, z) :: C)).length := by simp
  have q := h i (by omega)
  by_cases qc1q : i < A.length
  · rw [lp_lo qc1q] at q ⊢
    rw [h3 i (by omega) (by omega)]
    exact q
  · obtain ⟨j, rfl⟩ : ∃ j, i = A.length + j := ⟨i - A.length, by omega⟩
    rw [lp_hi] at q ⊢
    cases j with
    | zero =>
      rw [lp_0] at q ⊢
      exact ⟨q.1, h1⟩
    | succ j =>
      rw [lp_s] at q ⊢
      by_cases qc2q : j < B.length
      · rw [lp_lo qc2q] at q ⊢
        rw [h3 _ (by omega) (by omega)]
        exact q
      · obtain ⟨k, rfl⟩ : ∃ k, j = B.length + k := ⟨j - B.length, by omega⟩
        rw [lp_hi] at q ⊢
        cases k with
        | zero =>
          rw [lp_0] at q ⊢
          exact ⟨q.1, by rw [show A.length + (B.length + 0 + 1) = A.length + 1 + B.length by omega]; exact h2⟩
        | succ k =>
          rw [lp_s] at q ⊢
          rw [h3 _ (by omega) (by omega)]
          exact q
theorem LiB.sw {A B C : List LK} {x y z : Nat} (h : LiB (A ++ (x, y) :: (B ++ (x, z) :: C))) : LiB (A ++ (x, z) :: (B ++ (x, y) :: C)) :=
  h.sub (by simp) (fun q hq => by
    simp only [List.mem_append, List.mem_cons] at hq ⊢
    rcases hq with q1 | q1 | q1 | q1 | q1 <;> simp [q1])
theorem kid_sw {A B C : List LK} {x y z u : Nat} (hu : u ≠ x) : kid (A ++ (x, z) :: (B ++ (x, y) :: C)) u = kid A u ++ (kid B u ++ kid C u) := by
  rw [kid_app, kid_miss _ (by dsimp only; omega), kid_app, kid_miss _ (by dsimp only; omega)]
/-- the children with one moved by v -/
def shK (a b : List Nat) (y : Nat) (v : Int) : List Nat := if 0 < v then a ++ (b.take v.toNat ++ y :: b.drop v.toNat) else a.take (a.length - (-v).toNat) ++ y :: (a.drop (a.length - (-v).toNat) ++ b)

theorem c_X1_shiftChild (sz : Nat) {h : AH} {p : Nat} {L1 L2 : List LK} {x y : Nat} {v : Int} (hLi : LiR h p (L1 ++ (x, y) :: L2)) (hno : (x, y) ∉ L1) (hv : (-39 ≤ v ∧ v ≤ 39) ∧ v ≠ 0) (hroom : -((kid L1 x).length : Int) ≤ v ∧ v ≤ (kid L2 x).length) : CC mX1_shiftChild 1 0 0 [.ref p, .int (zI x), .int (zI y), .int (zI v)] sz h (QV (fun h' => ∃ M, LiR h' p M ∧ M.length = (L1 ++ (x, y) :: L2).length ∧ (∀ u, u ≠ x → kid M u = kid (L1 ++ (x, y) :: L2) u) ∧ kid M x = shK (kid L1 x) (kid L2 x) y v ∧ Fr h h' p (p + 3))) := by
  refine CC.intro [some (.ref p), some (.int (zI x)), some (.int (zI y)), some (.int (zI v)), none, none, none, none] pfX1_shiftChild rfl rfl ?_
  have hLi0 := hLi
  obtain ⟨a, b, hP, hB, hH⟩ := hLi
  have hL := hB.1
  have hxy := hB.2 (x, y) (List.mem_append_right _ List.mem_cons_self)
  have hi : lfi (L1 ++ (x, y) :: L2) (x, y) = L1.length := lfi_at _ _ _ hno
  have hl : (L1 ++ (x, y) :: L2).length = L1.length + L2.length + 1 := by rw [List.length_append, List.length_cons]; omega
  have Kf : 0 < v → XM mX1_shiftChild 1 0 0 (QV (fun h' => ∃ M, LiR h' p M ∧ M.length = (L1 ++ (x, y) :: L2).length ∧ (∀ u, u ≠ x → kid M u = kid (L1 ++ (x, y) :: L2) u) ∧ kid M x = shK (kid L1 x) (kid L2 x) y v ∧ Fr h h' p (p + 3))) 0 0 sz h 39 [some (.ref p), some (.int (zI x)), some (.int (zI y)), some (.int (zI v)), some (.int (zI (1))), some (.int (zI (v))), some (.int (zI (L1.length))), some (.int (zI ((L1.length : Int) + 1)))] [] := by
    intro hv
    refine x_loop (fun s : AH × Int × Int × Int => s.1) (fun s => [some (.ref p), some (.int (zI x)), some (.int (zI y)), some (.int (zI v)), some (.int (zI (1))), some (.int (zI (s.2.2.2))), some (.int (zI (s.2.1))), some (.int (zI (s.2.2.1)))]) (fun s => ∃ Axs Bxs Cxs b1, s.2.1 = (Axs.length : Int) ∧ s.2.2.1 = (Axs.length : Int) + 1 + Bxs.length ∧ SO h s.1 p 3 1 (liF p (L1 ++ (x, y) :: L2).length) (liA a b1) ∧ LiH (Axs ++ (x, y) :: (Bxs ++ Cxs)) a b1 ∧ LiB (Axs ++ (x, y) :: (Bxs ++ Cxs)) ∧ Axs.length + Bxs.length + Cxs.length + 1 = (L1 ++ (x, y) :: L2).length ∧ kid Bxs x = [] ∧ 0 ≤ s.2.2.2 ∧ s.2.2.2 ≤ v ∧ kid Axs x = kid L1 x ++ (kid L2 x).take (v - s.2.2.2).toNat ∧ kid Cxs x = (kid L2 x).drop (v - s.2.2.2).toNat ∧ ∀ u, u ≠ x → kid Axs u ++ (kid Bxs u ++ kid Cxs u) = kid L1 u ++ kid L2 u) (fun s => ((L1 ++ (x, y) :: L2).length - s.2.2.1).toNat) (h, L1.length, (L1.length : Int) + 1, v) rfl rfl ⟨L1, [], L2, b, rfl, by simp, hP, by rw [List.nil_append]; exact hH, by rw [List.nil_append]; exact hB, by simp; omega, kid_nil x, by dsimp only; omega, by dsimp only; omega, by simp, by simp, fun u hu => by rw [kid_nil, List.nil_append]⟩ ?_
    rintro ⟨h2, at1, nx, lf⟩ ⟨Axs, Bxs, Cxs, b1, hat, hnx, hP, hH, hB, hlen, hB0, hlf0, hlf1, hA, hC, hO⟩ ihq
    try dsimp only at *
    have hlf2 : lf ≤ 39 := by omega
    refine x_iload dX1_shiftChild_39 rfl ?_
    refine x_if_lt dX1_shiftChild_41 ⟨by omega, by omega⟩ (fun qc41q => ?_) (fun qc41q => ?_)
    · exact absurd qc41q (by omega)
    · refine x_iload dX1_shiftChild_44 rfl ?_
      refine x_aload_n dX1_shiftChild_46 rfl ?_
      refine s_get dX1_shiftChild_47 fX1_18 hP rfl ?_
      refine x_icmp_ge dX1_shiftChild_50 ⟨by omega, by omega⟩ ⟨by omega, by omega⟩ (fun qc50q => ?_) (fun qc50q => ?_)
      · refine x_vreturn dX1_shiftChild_108 rfl ?_
        have qe9q : lf = 0 := by
          by_cases q : lf = 0
          · exact q
          · have q1 : Cxs = [] := List.eq_nil_of_length_eq_zero (by omega)
            rw [q1, kid_nil] at hC
            have q2 := congrArg List.length hC
            rw [List.length_nil, List.length_drop] at q2
            omega
        subst qe9q
        rw [Int.sub_zero] at hA hC
        refine ⟨rfl, Axs ++ (x, y) :: (Bxs ++ Cxs), ⟨a, b1, ?_, hB, hH⟩, by simp; omega, fun u hu => ?_, ?_, hP.fr⟩
        · rw [show (Axs ++ (x, y) :: (Bxs ++ Cxs)).length = (L1 ++ (x, y) :: L2).length by simp; omega]
          exact hP.st
        · rw [kid_app, kid_miss _ (by dsimp only; omega), kid_app, hO u hu, kid_app, kid_miss _ (by dsimp only; omega)]
        · rw [kid_app, kid_hit, kid_app, hB0, List.nil_append, hA, hC]
          unfold shK
          rw [if_pos hv, List.append_assoc]
      · refine x_iload dX1_shiftChild_53 rfl ?_
        refine x_if_le dX1_shiftChild_55 ⟨by omega, by omega⟩ (fun qc55q => ?_) (fun qc55q => ?_)
        · refine x_vreturn dX1_shiftChild_108 rfl ?_
          have qe9q : lf = 0 := by
            by_cases q : lf = 0
            · exact q
            · have q1 : Cxs = [] := List.eq_nil_of_length_eq_zero (by omega)
              rw [q1, kid_nil] at hC
              have q2 := congrArg List.length hC
              rw [List.length_nil, List.length_drop] at q2
              omega
          subst qe9q
          rw [Int.sub_zero] at hA hC
          refine ⟨rfl, Axs ++ (x, y) :: (Bxs ++ Cxs), ⟨a, b1, ?_, hB, hH⟩, by simp; omega, fun u hu => ?_, ?_, hP.fr⟩
          · rw [show (Axs ++ (x, y) :: (Bxs ++ Cxs)).length = (L1 ++ (x, y) :: L2).length by simp; omega]
            exact hP.st
          · rw [kid_app, kid_miss _ (by dsimp only; omega), kid_app, hO u hu, kid_app, kid_miss _ (by dsimp only; omega)]
          · rw [kid_app, kid_hit, kid_app, hB0, List.nil_append, hA, hC]
            unfold shK
            rw [if_pos hv, List.append_assoc]
        · refine x_aload_n dX1_shiftChild_58 rfl ?_
          obtain ⟨q0, C1, rfl⟩ : ∃ q0 C1, Cxs = q0 :: C1 := by
            rcases Cxs with _ | ⟨q0, C1⟩
            · simp only [List.length_nil] at hlen
              omega
            · exact ⟨q0, C1, rfl⟩
          have qe1q : a nx.toNat = q0.1 ∧ b1 nx.toNat = q0.2 := by
            have h9 := LiH.hd (A := Axs ++ (x, y) :: Bxs) (q := q0) (M := C1) (by rw [List.append_assoc]; exact hH)
            rw [show (Axs ++ (x, y) :: Bxs).length = nx.toNat by simp; omega] at h9
            exact h9
          have qe2q := hB.2 q0 (by simp)
          rw [List.length_cons] at hlen
          refine s_get dX1_shiftChild_59 fX1_9 hP rfl ?_
          refine x_iload dX1_shiftChild_62 rfl ?_
          refine s_iald dX1_shiftChild_64 hP rfl rfl ⟨by omega, by omega⟩ ?_
          refine x_iload_n dX1_shiftChild_65 rfl ?_
          refine x_icmp_ne dX1_shiftChild_66 ⟨by omega, by omega⟩ ⟨by omega, by omega⟩ (fun qc66q => ?_) (fun qc66q => ?_)
          · refine x_iload dX1_shiftChild_98 rfl ?_
            refine x_iload dX1_shiftChild_100 rfl ?_
            refine x_iadd dX1_shiftChild_102 ?_
            refine x_istore dX1_shiftChild_103 rfl rfl rfl ?_
            refine x_goto dX1_shiftChild_105 ?_
            first
              | (have qe3q : q0.1 ≠ x := by omega
                 refine ihq (_, at1, nx + 1, lf) ⟨Axs, Bxs ++ [q0], C1, b1, hat, ?_, hP, ?_, ?_, ?_, ?_, hlf0, hlf1, hA, ?_, ?_⟩ (by dsimp only; omega)
                 · dsimp only
                   rw [List.length_append, List.length_singleton]
                   omega
                 · rw [List.append_assoc]
                   exact hH
                 · rw [List.append_assoc]
                   exact hB
                 · rw [List.length_append, List.length_singleton]
                   omega
                 · rw [kid_app, hB0, kid_miss _ qe3q, kid_nil, List.append_nil]
                 · rw [← hC, kid_miss _ qe3q]
                 · intro u hu
                   have h9 := hO u hu
                   rw [show q0 :: C1 = [q0] ++ C1 from rfl, kid_app] at h9
                   rw [kid_app, List.append_assoc]
                   exact h9)
              | (obtain ⟨qx, z⟩ := q0
                 have qe3q : qx = x := by omega
                 subst qe3q
                 rw [kid_hit] at hC
                 have qe4q := drop_cons hC.symm
                 refine ihq (_, nx, nx + 1, lf - 1) ⟨Axs ++ (qx, z) :: Bxs, [], C1, _, ?_, ?_, hP, ?_, ?_, ?_, kid_nil _, by dsimp only; omega, by dsimp only; omega, ?_, ?_, ?_⟩ (by dsimp only; omega)
                 · dsimp only
                   rw [List.length_append, List.length_cons]
                   omega
                 · dsimp only
                   rw [List.length_append, List.length_cons, List.length_nil]
                   omega
                 · rw [List.nil_append, List.append_assoc]
                   refine hH.sw ?_ ?_ ?_
                   · rw [zU_n (by omega), show Axs.length = at1.toNat by omega, zU_s, qe1q.2]
                   · rw [show Axs.length + 1 + Bxs.length = nx.toNat by omega, zU_s]
                   · intro i i1 i2
                     rw [zU_n (by omega), zU_n (by omega)]
                 · rw [List.nil_append, List.append_assoc]
                   exact hB.sw
                 · rw [List.length_append, List.length_cons, List.length_nil]
                   omega
                 · dsimp only
                   rw [kid_app, kid_hit, hB0, hA, show (v - (lf - 1)).toNat = (v - lf).toNat + 1 by omega, qe4q.1, List.append_assoc]
                 · dsimp only
                   rw [show (v - (lf - 1)).toNat = (v - lf).toNat + 1 by omega, qe4q.2.1]
                 · intro u hu
                   have h9 := hO u hu
                   rw [kid_miss _ (by dsimp only; omega)] at h9
                   rw [kid_app, kid_miss _ (by dsimp only; omega), kid_nil, List.nil_append, List.append_assoc]
                   exact h9)
          · refine x_aload_n dX1_shiftChild_69 rfl ?_
            refine s_get dX1_shiftChild_70 fX1_15 hP rfl ?_
            refine x_iload dX1_shiftChild_73 rfl ?_
            refine x_aload_n dX1_shiftChild_75 rfl ?_
            refine s_get dX1_shiftChild_76 fX1_15 hP rfl ?_
            refine x_iload dX1_shiftChild_79 rfl ?_
            refine s_iald dX1_shiftChild_81 hP rfl rfl ⟨by omega, by omega⟩ ?_
            refine s_iast dX1_shiftChild_82 hP rfl rfl ⟨by omega, by omega⟩ (fun h hP hF => ?_)
            refine x_aload_n dX1_shiftChild_83 rfl ?_
            refine s_get dX1_shiftChild_84 fX1_15 hP rfl ?_
            refine x_iload dX1_shiftChild_87 rfl ?_
            refine x_iload_n dX1_shiftChild_89 rfl ?_
            refine s_iast dX1_shiftChild_90 hP rfl rfl ⟨by omega, by omega⟩ (fun h hP hF => ?_)
            refine x_iload dX1_shiftChild_91 rfl ?_
            refine x_istore dX1_shiftChild_93 rfl rfl rfl ?_
            refine x_iinc dX1_shiftChild_95 rfl rfl rfl ?_
            refine x_iload dX1_shiftChild_98 rfl ?_
            refine x_iload dX1_shiftChild_100 rfl ?_
            refine x_iadd dX1_shiftChild_102 ?_
            refine x_istore dX1_shiftChild_103 rfl rfl rfl ?_
            refine x_goto dX1_shiftChild_105 ?_
            first
              | (have qe3q : q0.1 ≠ x := by omega
                 refine ihq (_, at1, nx + 1, lf) ⟨Axs, Bxs ++ [q0], C1, b1, hat, ?_, hP, ?_, ?_, ?_, ?_, hlf0, hlf1, hA, ?_, ?_⟩ (by dsimp only; omega)
                 · dsimp only
                   rw [List.length_append, List.length_singleton]
                   omega
                 · rw [List.append_assoc]
                   exact hH
                 · rw [List.append_assoc]
                   exact hB
                 · rw [List.length_append, List.length_singleton]
                   omega
                 · rw [kid_app, hB0, kid_miss _ qe3q, kid_nil, List.append_nil]
                 · rw [← hC, kid_miss _ qe3q]
                 · intro u hu
                   have h9 := hO u hu
                   rw [show q0 :: C1 = [q0] ++ C1 from rfl, kid_app] at h9
                   rw [kid_app, List.append_assoc]
                   exact h9)
              | (obtain ⟨qx, z⟩ := q0
                 have qe3q : qx = x := by omega
                 subst qe3q
                 rw [kid_hit] at hC
                 have qe4q := drop_cons hC.symm
                 refine ihq (_, nx, nx + 1, lf - 1) ⟨Axs ++ (qx, z) :: Bxs, [], C1, _, ?_, ?_, hP, ?_, ?_, ?_, kid_nil _, by dsimp only; omega, by dsimp only; omega, ?_, ?_, ?_⟩ (by dsimp only; omega)
                 · dsimp only
                   rw [List.length_append, List.length_cons]
                   omega
                 · dsimp only
                   rw [List.length_append, List.length_cons, List.length_nil]
                   omega
                 · rw [List.nil_append, List.append_assoc]
                   refine hH.sw ?_ ?_ ?_
                   · rw [zU_n (by omega), show Axs.length = at1.toNat by omega, zU_s, qe1q.2]
                   · rw [show Axs.length + 1 + Bxs.length = nx.toNat by omega, zU_s]
                   · intro i i1 i2
                     rw [zU_n (by omega), zU_n (by omega)]
                 · rw [List.nil_append, List.append_assoc]
                   exact hB.sw
                 · rw [List.length_append, List.length_cons, List.length_nil]
                   omega
                 · dsimp only
                   rw [kid_app, kid_hit, hB0, hA, show (v - (lf - 1)).toNat = (v - lf).toNat + 1 by omega, qe4q.1, List.append_assoc]
                 · dsimp only
                   rw [show (v - (lf - 1)).toNat = (v - lf).toNat + 1 by omega, qe4q.2.1]
                 · intro u hu
                   have h9 := hO u hu
                   rw [kid_miss _ (by dsimp only; omega)] at h9
                   rw [kid_app, kid_miss _ (by dsimp only; omega), kid_nil, List.nil_append, List.append_assoc]
                   exact h9)
  have Kb : v < 0 → XM mX1_shiftChild 1 0 0 (QV (fun h' => ∃ M, LiR h' p M ∧ M.length = (L1 ++ (x, y) :: L2).length ∧ (∀ u, u ≠ x → kid M u = kid (L1 ++ (x, y) :: L2) u) ∧ kid M x = shK (kid L1 x) (kid L2 x) y v ∧ Fr h h' p (p + 3))) 0 0 sz h 39 [some (.ref p), some (.int (zI x)), some (.int (zI y)), some (.int (zI v)), some (.int (zI (-1))), some (.int (zI (-v))), some (.int (zI (L1.length))), some (.int (zI ((L1.length : Int) + -1)))] [] := by
    intro hv
    refine x_loop (fun s : AH × Int × Int × Int => s.1) (fun s => [some (.ref p), some (.int (zI x)), some (.int (zI y)), some (.int (zI v)), some (.int (zI (-1))), some (.int (zI (s.2.2.2))), some (.int (zI (s.2.1))), some (.int (zI (s.2.2.1)))]) (fun s => ∃ Axs Bxs Cxs b1, s.2.1 = (Axs.length : Int) + Bxs.length ∧ s.2.2.1 = (Axs.length : Int) - 1 ∧ SO h s.1 p 3 1 (liF p (L1 ++ (x, y) :: L2).length) (liA a b1) ∧ LiH (Axs ++ (Bxs ++ (x, y) :: Cxs)) a b1 ∧ LiB (Axs ++ (Bxs ++ (x, y) :: Cxs)) ∧ Axs.length + Bxs.length + Cxs.length + 1 = (L1 ++ (x, y) :: L2).length ∧ kid Bxs x = [] ∧ 0 ≤ s.2.2.2 ∧ s.2.2.2 ≤ -v ∧ kid Axs x = (kid L1 x).take ((kid L1 x).length - (-v - s.2.2.2).toNat) ∧ kid Cxs x = (kid L1 x).drop ((kid L1 x).length - (-v - s.2.2.2).toNat) ++ kid L2 x ∧ ∀ u, u ≠ x → kid Axs u ++ (kid Bxs u ++ kid Cxs u) = kid L1 u ++ kid L2 u) (fun s => (s.2.2.1 + 1).toNat) (h, L1.length, (L1.length : Int) + -1, -v) rfl rfl ⟨L1, [], L2, b, by simp, rfl, hP, by rw [List.nil_append]; exact hH, by rw [List.nil_append]; exact hB, by simp; omega, kid_nil x, by dsimp only; omega, by dsimp only; omega, by dsimp only; rw [show (-v - -v).toNat = 0 by omega, Nat.sub_zero, List.take_length], by dsimp only; rw [show (-v - -v).toNat = 0 by omega, Nat.sub_zero, List.drop_length, List.nil_append], fun u hu => by rw [kid_nil, List.nil_append]⟩ ?_
    rintro ⟨h2, at1, nx, lf⟩ ⟨Axs, Bxs, Cxs, b1, hat, hnx, hP, hH, hB, hlen, hB0, hlf0, hlf1, hA, hC, hO⟩ ihq
    try dsimp only at *
    have hlf2 : lf ≤ 39 := by omega
    refine x_iload dX1_shiftChild_39 rfl ?_
    refine x_if_lt dX1_shiftChild_41 ⟨by omega, by omega⟩ (fun qc41q => ?_) (fun qc41q => ?_)
    · refine x_vreturn dX1_shiftChild_108 rfl ?_
      have qe9q : lf = 0 := by
        by_cases q : lf = 0
        · exact q
        · have q1 : Axs = [] := List.eq_nil_of_length_eq_zero (by omega)
          rw [q1, kid_nil] at hA
          have q2 := congrArg List.length hA
          rw [List.length_nil, List.length_take] at q2
          omega
      subst qe9q
      rw [Int.sub_zero] at hA hC
      refine ⟨rfl, Axs ++ (Bxs ++ (x, y) :: Cxs), ⟨a, b1, ?_, hB, hH⟩, by simp; omega, fun u hu => ?_, ?_, hP.fr⟩
      · rw [show (Axs ++ (Bxs ++ (x, y) :: Cxs)).length = (L1 ++ (x, y) :: L2).length by simp; omega]
        exact hP.st
      · rw [kid_app, kid_app, kid_miss _ (by dsimp only; omega), hO u hu, kid_app, kid_miss _ (by dsimp only; omega)]
      · rw [kid_app, kid_app, hB0, List.nil_append, kid_hit, hA, hC]
        unfold shK
        rw [if_neg (by omega)]
    · refine x_iload dX1_shiftChild_44 rfl ?_
      refine x_aload_n dX1_shiftChild_46 rfl ?_
      refine s_get dX1_shiftChild_47 fX1_18 hP rfl ?_
      refine x_icmp_ge dX1_shiftChild_50 ⟨by omega, by omega⟩ ⟨by omega, by omega⟩ (fun qc50q => ?_) (fun qc50q => ?_)
      · exact absurd qc50q (by omega)
      · refine x_iload dX1_shiftChild_53 rfl ?_
        refine x_if_le dX1_shiftChild_55 ⟨by omega, by omega⟩ (fun qc55q => ?_) (fun qc55q => ?_)
        · refine x_vreturn dX1_shiftChild_108 rfl ?_
          have qe9q : lf = 0 := by
            by_cases q : lf = 0
            · exact q
            · have q1 : Axs = [] := List.eq_nil_of_length_eq_zero (by omega)
              rw [q1, kid_nil] at hA
              have q2 := congrArg List.length hA
              rw [List.length_nil, List.length_take] at q2
              omega
          subst qe9q
          rw [Int.sub_zero] at hA hC
          refine ⟨rfl, Axs ++ (Bxs ++ (x, y) :: Cxs), ⟨a, b1, ?_, hB, hH⟩, by simp; omega, fun u hu => ?_, ?_, hP.fr⟩
          · rw [show (Axs ++ (Bxs ++ (x, y) :: Cxs)).length = (L1 ++ (x, y) :: L2).length by simp; omega]
            exact hP.st
          · rw [kid_app, kid_app, kid_miss _ (by dsimp only; omega), hO u hu, kid_app, kid_miss _ (by dsimp only; omega)]
          · rw [kid_app, kid_app, hB0, List.nil_append, kid_hit, hA, hC]
            unfold shK
            rw [if_neg (by omega)]
        · refine x_aload_n dX1_shiftChild_58 rfl ?_
          obtain ⟨A1, q0, rfl⟩ : ∃ A1 q0, Axs = A1 ++ [q0] := by
            rcases List.eq_nil_or_concat Axs with q | ⟨A1, q0, q⟩
            · rw [q, List.length_nil] at hnx
              omega
            · exact ⟨A1, q0, by rw [q]; simp⟩
          rw [List.length_append, List.length_singleton] at hat hnx hlen
          rw [List.append_assoc, List.singleton_append] at hH hB
          have qe1q : a nx.toNat = q0.1 ∧ b1 nx.toNat = q0.2 := by
            have h9 := hH.hd
            rw [show A1.length = nx.toNat by omega] at h9
            exact h9
          have qe2q := hB.2 q0 (by simp)
          refine s_get dX1_shiftChild_59 fX1_9 hP rfl ?_
          refine x_iload dX1_shiftChild_62 rfl ?_
          refine s_iald dX1_shiftChild_64 hP rfl rfl ⟨by omega, by omega⟩ ?_
          refine x_iload_n dX1_shiftChild_65 rfl ?_
          refine x_icmp_ne dX1_shiftChild_66 ⟨by omega, by omega⟩ ⟨by omega, by omega⟩ (fun qc66q => ?_) (fun qc66q => ?_)
          · refine x_iload dX1_shiftChild_98 rfl ?_
            refine x_iload dX1_shiftChild_100 rfl ?_
            refine x_iadd dX1_shiftChild_102 ?_
            refine x_istore dX1_shiftChild_103 rfl rfl rfl ?_
            refine x_goto dX1_shiftChild_105 ?_
            first
              | (have qe3q : q0.1 ≠ x := by omega
                 refine ihq (_, at1, nx + -1, lf) ⟨A1, q0 :: Bxs, Cxs, b1, ?_, ?_, hP, hH, hB, ?_, ?_, hlf0, hlf1, ?_, hC, ?_⟩ (by dsimp only; omega)
                 · dsimp only
                   rw [List.length_cons]
                   omega
                 · dsimp only
                   omega
                 · rw [List.length_cons]
                   omega
                 · rw [kid_miss _ qe3q, hB0]
                 · rw [← hA, kid_app, kid_miss _ qe3q, kid_nil, List.append_nil]
                 · intro u hu
                   have h9 := hO u hu
                   rw [kid_app, List.append_assoc] at h9
                   rw [show q0 :: Bxs = [q0] ++ Bxs from rfl, kid_app, List.append_assoc]
                   exact h9)
              | (obtain ⟨qx, z⟩ := q0
                 have qe3q : qx = x := by omega
                 subst qe3q
                 rw [kid_app, kid_hit, kid_nil] at hA
                 have qe4q := take_snoc hA (by omega)
                 refine ihq (_, nx, nx + -1, lf - 1) ⟨A1, [], Bxs ++ (qx, z) :: Cxs, _, ?_, ?_, hP, ?_, ?_, ?_, kid_nil _, by dsimp only; omega, by dsimp only; omega, ?_, ?_, ?_⟩ (by dsimp only; omega)
                 · dsimp only
                   rw [List.length_nil]
                   omega
                 · dsimp only
                   omega
                 · rw [List.nil_append]
                   refine hH.sw ?_ ?_ ?_
                   · rw [show A1.length = nx.toNat by omega, zU_s]
                   · rw [zU_n (by omega), show A1.length + 1 + Bxs.length = at1.toNat by omega, zU_s, qe1q.2]
                   · intro i i1 i2
                     rw [zU_n (by omega), zU_n (by omega)]
                 · rw [List.nil_append]
                   exact hB.sw
                 · rw [List.length_append, List.length_cons, List.length_nil]
                   omega
                 · dsimp only
                   rw [qe4q.2.1]
                   congr 1
                   omega
                 · dsimp only
                   rw [kid_app, hB0, List.nil_append, kid_hit, hC, ← List.cons_append, qe4q.2.2]
                   congr 2
                   omega
                 · intro u hu
                   have h9 := hO u hu
                   rw [kid_app, kid_miss _ (by dsimp only; omega), kid_nil, List.append_nil] at h9
                   rw [kid_app, kid_miss _ (by dsimp only; omega), kid_nil, List.nil_append]
                   exact h9)
          · refine x_aload_n dX1_shiftChild_69 rfl ?_
            refine s_get dX1_shiftChild_70 fX1_15 hP rfl ?_
            refine x_iload dX1_shiftChild_73 rfl ?_
            refine x_aload_n dX1_shiftChild_75 rfl ?_
            refine s_get dX1_shiftChild_76 fX1_15 hP rfl ?_
            refine x_iload dX1_shiftChild_79 rfl ?_
            refine s_iald dX1_shiftChild_81 hP rfl rfl ⟨by omega, by omega⟩ ?_
            refine s_iast dX1_shiftChild_82 hP rfl rfl ⟨by omega, by omega⟩ (fun h hP hF => ?_)
            refine x_aload_n dX1_shiftChild_83 rfl ?_
            refine s_get dX1_shiftChild_84 fX1_15 hP rfl ?_
            refine x_iload dX1_shiftChild_87 rfl ?_
            refine x_iload_n dX1_shiftChild_89 rfl ?_
            refine s_iast dX1_shiftChild_90 hP rfl rfl ⟨by omega, by omega⟩ (fun h hP hF => ?_)
            refine x_iload dX1_shiftChild_91 rfl ?_
            refine x_istore dX1_shiftChild_93 rfl rfl rfl ?_
            refine x_iinc dX1_shiftChild_95 rfl rfl rfl ?_
            refine x_iload dX1_shiftChild_98 rfl ?_
            refine x_iload dX1_shiftChild_100 rfl ?_
            refine x_iadd dX1_shiftChild_102 ?_
            refine x_istore dX1_shiftChild_103 rfl rfl rfl ?_
            refine x_goto dX1_shiftChild_105 ?_
            first
              | (have qe3q : q0.1 ≠ x := by omega
                 refine ihq (_, at1, nx + -1, lf) ⟨A1, q0 :: Bxs, Cxs, b1, ?_, ?_, hP, hH, hB, ?_, ?_, hlf0, hlf1, ?_, hC, ?_⟩ (by dsimp only; omega)
                 · dsimp only
                   rw [List.length_cons]
                   omega
                 · dsimp only
                   omega
                 · rw [List.length_cons]
                   omega
                 · rw [kid_miss _ qe3q, hB0]
                 · rw [← hA, kid_app, kid_miss _ qe3q, kid_nil, List.append_nil]
                 · intro u hu
                   have h9 := hO u hu
                   rw [kid_app, List.append_assoc] at h9
                   rw [show q0 :: Bxs = [q0] ++ Bxs from rfl, kid_app, List.append_assoc]
                   exact h9)
              | (obtain ⟨qx, z⟩ := q0
                 have qe3q : qx = x := by omega
                 subst qe3q
                 rw [kid_app, kid_hit, kid_nil] at hA
                 have qe4q := take_snoc hA (by omega)
                 refine ihq (_, nx, nx + -1, lf - 1) ⟨A1, [], Bxs ++ (qx, z) :: Cxs, _, ?_, ?_, hP, ?_, ?_, ?_, kid_nil _, by dsimp only; omega, by dsimp only; omega, ?_, ?_, ?_⟩ (by dsimp only; omega)
                 · dsimp only
                   rw [List.length_nil]
                   omega
                 · dsimp only
                   omega
                 · rw [List.nil_append]
                   refine hH.sw ?_ ?_ ?_
                   · rw [show A1.length = nx.toNat by omega, zU_s]
                   · rw [zU_n (by omega), show A1.length + 1 + Bxs.length = at1.toNat by omega, zU_s, qe1q.2]
                   · intro i i1 i2
                     rw [zU_n (by omega), zU_n (by omega)]
                 · rw [List.nil_append]
                   exact hB.sw
                 · rw [List.length_append, List.length_cons, List.length_nil]
                   omega
                 · dsimp only
                   rw [qe4q.2.1]
                   congr 1
                   omega
                 · dsimp only
                   rw [kid_app, hB0, List.nil_append, kid_hit, hC, ← List.cons_append, qe4q.2.2]
                   congr 2
                   omega
                 · intro u hu
                   have h9 := hO u hu
                   rw [kid_app, kid_miss _ (by dsimp only; omega), kid_nil, List.append_nil] at h9
                   rw [kid_app, kid_miss _ (by dsimp only; omega), kid_nil, List.nil_append]
                   exact h9)
  refine x_iload_n dX1_shiftChild_0 rfl ?_
  refine x_if_ge dX1_shiftChild_1 ⟨by omega, by omega⟩ (fun qc1q => ?_) (fun qc1q => ?_)
  · refine x_iconst dX1_shiftChild_8 ?_
    refine x_istore dX1_shiftChild_9 rfl rfl rfl ?_
    refine x_iload_n dX1_shiftChild_11 rfl ?_
    refine p_S dX1_shiftChild_12 lX1_36 (c_J9_abs_0f7a4 sz h ⟨by omega, by omega⟩) rfl rfl rfl (by decide) ?_
    first | rw [if_pos (show (0 : Int) ≤ v by omega)] | rw [if_neg (show ¬ (0 : Int) ≤ v by omega)]
    refine x_istore dX1_shiftChild_15 rfl rfl rfl ?_
    refine x_aload_n dX1_shiftChild_17 rfl ?_
    refine x_iload_n dX1_shiftChild_18 rfl ?_
    refine x_iload_n dX1_shiftChild_19 rfl ?_
    refine p_V dX1_shiftChild_20 lX1_28 (c_X1_indexOf sz hLi0 (x := x) (y := y) hxy.1 hxy.2.2) hP.1 rfl rfl rfl rfl (by decide) ?_
    rw [hi]
    refine x_istore dX1_shiftChild_23 rfl rfl rfl ?_
    refine x_iload dX1_shiftChild_25 rfl ?_
    refine x_iconst dX1_shiftChild_27 ?_
    refine x_icmp_ne dX1_shiftChild_28 ⟨by omega, by omega⟩ ⟨by omega, by omega⟩ (fun qc28q => ?_) (fun qc28q => ?_)
    · refine x_iload dX1_shiftChild_32 rfl ?_
      refine x_iload dX1_shiftChild_34 rfl ?_
      refine x_iadd dX1_shiftChild_36 ?_
      refine x_istore dX1_shiftChild_37 rfl rfl rfl ?_
      first | exact Kf (by omega) | exact Kb (by omega)
    · exact absurd qc28q (by omega)
  · refine x_iconst dX1_shiftChild_4 ?_
    refine x_goto dX1_shiftChild_5 ?_
    refine x_istore dX1_shiftChild_9 rfl rfl rfl ?_
    refine x_iload_n dX1_shiftChild_11 rfl ?_
    refine p_S dX1_shiftChild_12 lX1_36 (c_J9_abs_0f7a4 sz h ⟨by omega, by omega⟩) rfl rfl rfl (by decide) ?_
    first | rw [if_pos (show (0 : Int) ≤ v by omega)] | rw [if_neg (show ¬ (0 : Int) ≤ v by omega)]
    refine x_istore dX1_shiftChild_15 rfl rfl rfl ?_
    refine x_aload_n dX1_shiftChild_17 rfl ?_
    refine x_iload_n dX1_shiftChild_18 rfl ?_
    refine x_iload_n dX1_shiftChild_19 rfl ?_
    refine p_V dX1_shiftChild_20 lX1_28 (c_X1_indexOf sz hLi0 (x := x) (y := y) hxy.1 hxy.2.2) hP.1 rfl rfl rfl rfl (by decide) ?_
    rw [hi]
    refine x_istore dX1_shiftChild_23 rfl rfl rfl ?_
    refine x_iload dX1_shiftChild_25 rfl ?_
    refine x_iconst dX1_shiftChild_27 ?_
    refine x_icmp_ne dX1_shiftChild_28 ⟨by omega, by omega⟩ ⟨by omega, by omega⟩ (fun qc28q => ?_) (fun qc28q => ?_)
    · refine x_iload dX1_shiftChild_32 rfl ?_
      refine x_iload dX1_shiftChild_34 rfl ?_
      refine x_iadd dX1_shiftChild_36 ?_
      refine x_istore dX1_shiftChild_37 rfl rfl rfl ?_
      first | exact Kf (by omega) | exact Kb (by omega)
    · exact absurd qc28q (by omega)
/-- a child was moved among its parent's -/
def ShK (L M : List LK) (x y : Nat) (v : Int) (a b : List Nat) : Prop := kid L x = a ++ y :: b ∧ y ∉ a ∧ 0 ≤ (a.length : Int) + v ∧ (a.length : Int) + v ≤ a.length + b.length ∧ kid M x = shK a b y v ∧ (∀ u, u ≠ x → kid M u = kid L u) ∧ M.length = L.length
def SpShift (A : AS) (r v z : Int) (A' : AS) : Prop := let S := A.2.2.2.2; let k := plZ S.2.2.2.2 r; let x := (gN S.2.2.2.2 (pPar S.2.2.2.2 k)).toNat; let y := (gN S.2.2.2.2 k).toNat
  (k = -2 ∧ z = -2 ∧ A' = A) ∨ (k ≠ -2 ∧ ¬ ((-39 ≤ v ∧ v ≤ 39) ∧ v ≠ 0) ∧ z = -3 ∧ A' = A) ∨ (k ≠ -2 ∧ ((-39 ≤ v ∧ v ≤ 39) ∧ v ≠ 0) ∧ ¬ (0 ≤ poA S k + v ∧ poA S k + v < (kid S.2.2.2.1 x).length) ∧ z = -5 ∧ A' = A) ∨
  (k ≠ -2 ∧ ((-39 ≤ v ∧ v ≤ 39) ∧ v ≠ 0) ∧ (0 ≤ poA S k + v ∧ poA S k + v < (kid S.2.2.2.1 x).length) ∧ ∃ M a b, ShK S.2.2.2.1 M x y v a b ∧ z = (a.length : Int) + v ∧ A' = Done A (S.1, S.2.1, S.2.2.1, M, lyO M S.2.2.2.2))
theorem c_X8_shift (sz : Nat) {h : AH} {x b c d : Nat} {t : List Int} {hs : List CS} {sp S D : CS} (hO : OuR h x t hs sp b c d S D) (hWf : Wf S) (hLk : LkP S) {r v : Int} (hr : inR r) (hv : inR v) (hDp : plZ S.2.2.2.2 r ≠ -2 → ∀ M a b, ShK S.2.2.2.1 M (gN S.2.2.2.2 (pPar S.2.2.2.2 (plZ S.2.2.2.2 r))).toNat (gN S.2.2.2.2 (plZ S.2.2.2.2 r)).toNat v a b → Dp (kid M) 40 0 ∧ (lyO M S.2.2.2.2).length ≤ 120) : CC mX8_shift 62 0 0 [.ref x, .int (zI r), .int (zI v)] sz h (QI (fun z h' => ∃ A', SpShift (t, hs, sp, b, S) r v z A' ∧ OuA h' x A' ∧ Fr h h' x (x + 107))) := by
  refine CC.intro [some (.ref x), some (.int (zI r)), some (.int (zI v)), none, none, none, none] pfX8_shift rfl rfl ?_
  have hO0 := hO
  obtain ⟨hX, hT, hRe, hRo, hHi, hSp, hC, hD, hcd⟩ := id hO
  have hC0 := hC.1
  have hD0 := hD.1
  have hSp0 := hSp.1
  obtain ⟨_, hTs, -, -⟩ := id hT
  obtain ⟨_, _, hRs, -, -⟩ := id hRo
  obtain ⟨_, _, _, hCN, -, -⟩ := id hC.2.1
  obtain ⟨_, _, hCL, -, -⟩ := id hC.2.2.1
  obtain ⟨_, _, _, hCP, -, -⟩ := id hC.2.2.2
  obtain ⟨_, _, _, hDN, -, -⟩ := id hD.2.1
  obtain ⟨_, _, hDL, -, -⟩ := id hD.2.2.1
  obtain ⟨_, _, _, hDP, -, -⟩ := id hD.2.2.2
  obtain ⟨_, _, _, ⟨hHs, -⟩, -⟩ := id hHi
  have hpB := hC.2.2.2.B
  have hpl := hpB.1
  have hz := plZ_r S.2.2.2.2 r
  unfold SpShift
  dsimp only
  generalize hzz : plZ S.2.2.2.2 r = k at *
  refine x_aload_n dX8_shift_0 rfl ?_
  refine s_get dX8_shift_1 fX8_26 hX rfl ?_
  refine x_iload_n dX8_shift_4 rfl ?_
  refine p_V dX8_shift_5 lX8_107 (c_X5_placeOf sz hRo hr) hRs.1 rfl rfl rfl rfl (by decide) ?_
  rw [hzz]
  refine x_istore_n dX8_shift_8 rfl rfl rfl ?_
  refine x_iload_n dX8_shift_9 rfl ?_
  refine x_bipush dX8_shift_10 (by decide) ?_
  refine x_icmp_ne dX8_shift_12 ⟨by omega, by omega⟩ ⟨by omega, by omega⟩ (fun qc12q => ?_) (fun qc12q => ?_)
  · refine x_iload_n dX8_shift_18 rfl ?_
    refine x_bipush dX8_shift_19 (by decide) ?_
    refine x_icmp_lt dX8_shift_21 ⟨by omega, by omega⟩ ⟨by omega, by omega⟩ (fun qc21q => ?_) (fun qc21q => ?_)
    · refine x_bipush dX8_shift_34 (by decide) ?_
      refine x_ireturn dX8_shift_36 rfl ?_
      exact ⟨_, rfl, (t, hs, sp, b, S), Or.inr (Or.inl ⟨by omega, by omega, rfl, rfl⟩), hO0.A, Fr.rf⟩
    · refine x_iload_n dX8_shift_24 rfl ?_
      refine x_bipush dX8_shift_25 (by decide) ?_
      refine x_icmp_gt dX8_shift_27 ⟨by omega, by omega⟩ ⟨by omega, by omega⟩ (fun qc27q => ?_) (fun qc27q => ?_)
      · refine x_bipush dX8_shift_34 (by decide) ?_
        refine x_ireturn dX8_shift_36 rfl ?_
        exact ⟨_, rfl, (t, hs, sp, b, S), Or.inr (Or.inl ⟨by omega, by omega, rfl, rfl⟩), hO0.A, Fr.rf⟩
      · refine x_iload_n dX8_shift_30 rfl ?_
        refine x_if_ne dX8_shift_31 ⟨by omega, by omega⟩ (fun qc31q => ?_) (fun qc31q => ?_)
        · refine x_aload_n dX8_shift_37 rfl ?_
          have hn := hWf.n hpB (z := k) (by omega) (by omega)
          have hg := gN_r hpB k
          have hpp : -1 ≤ pPar S.2.2.2.2 k ∧ pPar S.2.2.2.2 k ≤ k := pAt_r _ _ _ (by omega)
          have hg3 := gN_r hpB (pPar S.2.2.2.2 k)
          obtain ⟨L1, L2, qe1q, qe2q, qe3q⟩ := er_split (hLk k (by omega) (by omega))
          have qe5q : gN S.2.2.2.2 (pPar S.2.2.2.2 k) = (((gN S.2.2.2.2 (pPar S.2.2.2.2 k)).toNat : Nat) : Int) := by omega
          have hpo : poA S k = lfi (kid S.2.2.2.1 (gN S.2.2.2.2 (pPar S.2.2.2.2 k)).toNat) (gN S.2.2.2.2 k).toNat := rfl
          generalize hxx : (gN S.2.2.2.2 (pPar S.2.2.2.2 k)).toNat = px at *
          generalize hyy : (gN S.2.2.2.2 k).toNat = py at *
          have qe6q : kid S.2.2.2.1 px = kid L1 px ++ py :: kid L2 px := by rw [qe1q, kid_app, kid_hit]
          have qe7q : py ∉ kid L1 px := fun q => qe2q (kid_mem.mp q)
          rw [qe6q, lfi_at _ _ _ qe7q] at hpo
          have qe8q : (kid S.2.2.2.1 px).length = (kid L1 px).length + (kid L2 px).length + 1 := by rw [qe6q, List.length_append, List.length_cons]; omega
          have qe10q : (kid L1 px ++ py :: kid L2 px).length = (kid L1 px).length + (kid L2 px).length + 1 := by rw [List.length_append, List.length_cons]; omega
          have qe9q : (kid S.2.2.2.1 px).length ≤ 120 := by
            unfold kid
            rw [List.length_map]
            exact Nat.le_trans (List.length_filter_le _ _) hC.2.2.1.B.1
          refine s_get dX8_shift_38 fX8_48 hX rfl ?_
          refine s_get dX8_shift_41 fX8_84 hC0 rfl ?_
          refine x_iload_n dX8_shift_44 rfl ?_
          refine p_V dX8_shift_45 lX8_88 (c_X3_nodeOf sz hC.2.2.2 (z := k) ⟨by omega, by omega⟩) hCP.1 rfl rfl rfl rfl (by decide) ?_
          rw [hn.2.2.1]
          refine x_istore dX8_shift_48 rfl rfl rfl ?_
          refine x_aload_n dX8_shift_50 rfl ?_
          refine x_iload_n dX8_shift_51 rfl ?_
          refine p_V dX8_shift_52 lX8_110 (c_X8_parentNodeOf sz hO0 (z := k) (by omega) (by omega)) hX.1 rfl rfl rfl rfl (by decide) ?_
          rw [qe5q]
          refine x_istore dX8_shift_55 rfl rfl rfl ?_
          refine x_aload_n dX8_shift_57 rfl ?_
          refine s_get dX8_shift_58 fX8_48 hX rfl ?_
          refine s_get dX8_shift_61 fX8_103 hC0 rfl ?_
          refine x_iload dX8_shift_64 rfl ?_
          refine x_iload dX8_shift_66 rfl ?_
          refine p_V dX8_shift_68 lX8_134 (c_X1_position sz hC.2.2.1 (x := px) (y := py) (by omega) (by omega)) hCL.1 rfl rfl rfl rfl (by decide) ?_
          rw [qe6q, lfi_at _ _ _ qe7q]
          refine x_iload_n dX8_shift_71 rfl ?_
          refine x_iadd dX8_shift_72 ?_
          refine x_istore dX8_shift_73 rfl rfl rfl ?_
          refine x_iload dX8_shift_75 rfl ?_
          refine x_if_lt dX8_shift_77 ⟨by omega, by omega⟩ (fun qc77q => ?_) (fun qc77q => ?_)
          · refine x_bipush dX8_shift_97 (by decide) ?_
            refine x_ireturn dX8_shift_99 rfl ?_
            exact ⟨_, rfl, (t, hs, sp, b, S), Or.inr (Or.inr (Or.inl ⟨by omega, by omega, by omega, rfl, rfl⟩)), hO0.A, Fr.rf⟩
          · refine x_iload dX8_shift_80 rfl ?_
            refine x_aload_n dX8_shift_82 rfl ?_
            refine s_get dX8_shift_83 fX8_48 hX rfl ?_
            refine s_get dX8_shift_86 fX8_103 hC0 rfl ?_
            refine x_iload dX8_shift_89 rfl ?_
            refine p_V dX8_shift_91 lX8_137 (c_X1_childCount sz hC.2.2.1 (z := (px : Int)) ⟨by omega, by omega⟩) hCL.1 rfl rfl rfl rfl (by decide) ?_
            rw [flt_kid]
            refine x_icmp_lt dX8_shift_94 ⟨by omega, by omega⟩ ⟨by omega, by omega⟩ (fun qc94q => ?_) (fun qc94q => ?_)
            · refine x_aload_n dX8_shift_100 rfl ?_
              refine s_get dX8_shift_101 fX8_51 hX rfl ?_
              refine x_aload_n dX8_shift_104 rfl ?_
              refine s_get dX8_shift_105 fX8_48 hX rfl ?_
              refine v_V dX8_shift_108 lX8_72 (c_X6_copyFrom sz hD hC (by omega)) hD0.1 rfl rfl rfl rfl (by decide) (fun h1 ⟨hDn, hFn⟩ => ?_)
              have hO := hO.dr hDn hFn
              have hG : Fr h h1 x (x + 107) := hFn.wd (by omega) (by omega)
              clear hX hT hRe hRo hHi hSp hC hD hcd hC0 hD0 hSp0 hTs hRs hCN hCL hCP hDN hDL hDP hHs
              obtain ⟨hX, hT, hRe, hRo, hHi, hSp, hC, hD, hcd⟩ := id hO
              have hC0 := hC.1
              have hD0 := hD.1
              have hSp0 := hSp.1
              obtain ⟨_, hTs, -, -⟩ := id hT
              obtain ⟨_, _, hRs, -, -⟩ := id hRo
              obtain ⟨_, _, _, hCN, -, -⟩ := id hC.2.1
              obtain ⟨_, _, hCL, -, -⟩ := id hC.2.2.1
              obtain ⟨_, _, _, hCP, -, -⟩ := id hC.2.2.2
              obtain ⟨_, _, _, hDN, -, -⟩ := id hD.2.1
              obtain ⟨_, _, hDL, -, -⟩ := id hD.2.2.1
              obtain ⟨_, _, _, hDP, -, -⟩ := id hD.2.2.2
              obtain ⟨_, _, _, ⟨hHs, -⟩, -⟩ := id hHi
              have hDLn := hD.2.2.1
              rw [qe1q] at hDLn
              refine x_aload_n dX8_shift_111 rfl ?_
              refine s_get dX8_shift_112 fX8_51 hX rfl ?_
              refine s_get dX8_shift_115 fX8_103 hD0 rfl ?_
              refine x_iload dX8_shift_118 rfl ?_
              refine x_iload dX8_shift_120 rfl ?_
              refine x_iload_n dX8_shift_122 rfl ?_
              refine v_V dX8_shift_123 lX8_140 (c_X1_shiftChild sz hDLn qe2q ⟨⟨by omega, by omega⟩, by omega⟩ ⟨by omega, by omega⟩) hDL.1 rfl rfl rfl rfl (by decide) (fun h2 ⟨M, hPn, hM1, hM2, hM3, hFn⟩ => ?_)
              have hO := hO.dL hPn hFn
              have hSh : ShK S.2.2.2.1 M px py v (kid L1 px) (kid L2 px) := ⟨qe6q, qe7q, by omega, by omega, hM3, fun u hu => by rw [qe1q]; exact hM2 u hu, by rw [qe1q]; exact hM1⟩
              obtain ⟨hDq, hRoom⟩ := hDp (by omega) M _ _ hSh
              have hG : Fr h h2 x (x + 107) := hG.tr (hFn.wd (by omega) (by omega))
              clear hX hT hRe hRo hHi hSp hC hD hcd hC0 hD0 hSp0 hTs hRs hCN hCL hCP hDN hDL hDP hHs
              obtain ⟨hX, hT, hRe, hRo, hHi, hSp, hC, hD, hcd⟩ := id hO
              have hC0 := hC.1
              have hD0 := hD.1
              have hSp0 := hSp.1
              obtain ⟨_, hTs, -, -⟩ := id hT
              obtain ⟨_, _, hRs, -, -⟩ := id hRo
              obtain ⟨_, _, _, hCN, -, -⟩ := id hC.2.1
              obtain ⟨_, _, hCL, -, -⟩ := id hC.2.2.1
              obtain ⟨_, _, _, hCP, -, -⟩ := id hC.2.2.2
              obtain ⟨_, _, _, hDN, -, -⟩ := id hD.2.1
              obtain ⟨_, _, hDL, -, -⟩ := id hD.2.2.1
              obtain ⟨_, _, _, hDP, -, -⟩ := id hD.2.2.2
              obtain ⟨_, _, _, ⟨hHs, -⟩, -⟩ := id hHi
              refine x_aload_n dX8_shift_126 rfl ?_
              refine s_get dX8_shift_127 fX8_51 hX rfl ?_
              refine x_aload_n dX8_shift_130 rfl ?_
              refine s_get dX8_shift_131 fX8_48 hX rfl ?_
              refine s_get dX8_shift_134 fX8_84 hC0 rfl ?_
              refine i_V dX8_shift_137 lX8_119 (c_X6_placeAgain sz hD hDq hC.2.2.2 (by omega)) hD0.1 rfl rfl rfl rfl (by decide) (fun r2 h3 hr2 => ?_)
              obtain ⟨hSn, hFn⟩ : StR h3 d (S.1, S.2.1, S.2.2.1, M, lyO M S.2.2.2.2) ∧ Fr h2 h3 d (d + 12) := by
                rcases hr2 with q | q
                · exact ⟨q.2.2.1, q.2.2.2⟩
                · have h9 := q.1
                  unfold lyO at hRoom
                  omega
              have hO := hO.dr hSn hFn
              have hG : Fr h h3 x (x + 107) := hG.tr (hFn.wd (by omega) (by omega))
              clear hX hT hRe hRo hHi hSp hC hD hcd hC0 hD0 hSp0 hTs hRs hCN hCL hCP hDN hDL hDP hHs
              obtain ⟨hX, hT, hRe, hRo, hHi, hSp, hC, hD, hcd⟩ := id hO
              have hC0 := hC.1
              have hD0 := hD.1
              have hSp0 := hSp.1
              obtain ⟨_, hTs, -, -⟩ := id hT
              obtain ⟨_, _, hRs, -, -⟩ := id hRo
              obtain ⟨_, _, _, hCN, -, -⟩ := id hC.2.1
              obtain ⟨_, _, hCL, -, -⟩ := id hC.2.2.1
              obtain ⟨_, _, _, hCP, -, -⟩ := id hC.2.2.2
              obtain ⟨_, _, _, hDN, -, -⟩ := id hD.2.1
              obtain ⟨_, _, hDL, -, -⟩ := id hD.2.2.1
              obtain ⟨_, _, _, hDP, -, -⟩ := id hD.2.2.2
              obtain ⟨_, _, _, ⟨hHs, -⟩, -⟩ := id hHi
              refine x_pop dX8_shift_140 rfl ?_
              refine x_aload_n dX8_shift_141 rfl ?_
              refine v_V dX8_shift_142 lX8_131 (c_X8_accept sz hO) hX.1 rfl rfl rfl rfl (by decide) (fun h4 ⟨hO, hFn⟩ => ?_)
              have hG : Fr h h4 x (x + 107) := hG.tr hFn
              clear hX hT hRe hRo hHi hSp hC hD hcd hC0 hD0 hSp0 hTs hRs hCN hCL hCP hDN hDL hDP hHs
              obtain ⟨hX, hT, hRe, hRo, hHi, hSp, hC, hD, hcd⟩ := id hO
              have hC0 := hC.1
              have hD0 := hD.1
              have hSp0 := hSp.1
              obtain ⟨_, hTs, -, -⟩ := id hT
              obtain ⟨_, _, hRs, -, -⟩ := id hRo
              obtain ⟨_, _, _, hCN, -, -⟩ := id hC.2.1
              obtain ⟨_, _, hCL, -, -⟩ := id hC.2.2.1
              obtain ⟨_, _, _, hCP, -, -⟩ := id hC.2.2.2
              obtain ⟨_, _, _, hDN, -, -⟩ := id hD.2.1
              obtain ⟨_, _, hDL, -, -⟩ := id hD.2.2.1
              obtain ⟨_, _, _, hDP, -, -⟩ := id hD.2.2.2
              obtain ⟨_, _, _, ⟨hHs, -⟩, -⟩ := id hHi
              refine x_iload dX8_shift_145 rfl ?_
              refine x_ireturn dX8_shift_147 rfl ?_
              exact ⟨_, rfl, Done (t, hs, sp, b, S) (S.1, S.2.1, S.2.2.1, M, lyO M S.2.2.2.2), Or.inr (Or.inr (Or.inr ⟨by omega, by omega, by omega, M, _, _, hSh, rfl, rfl⟩)), hO.A, hG⟩
            · refine x_bipush dX8_shift_97 (by decide) ?_
              refine x_ireturn dX8_shift_99 rfl ?_
              exact ⟨_, rfl, (t, hs, sp, b, S), Or.inr (Or.inr (Or.inl ⟨by omega, by omega, by omega, rfl, rfl⟩)), hO0.A, Fr.rf⟩
        · refine x_bipush dX8_shift_34 (by decide) ?_
          refine x_ireturn dX8_shift_36 rfl ?_
          exact ⟨_, rfl, (t, hs, sp, b, S), Or.inr (Or.inl ⟨by omega, by omega, rfl, rfl⟩), hO0.A, Fr.rf⟩
  · refine x_bipush dX8_shift_15 (by decide) ?_
    refine x_ireturn dX8_shift_17 rfl ?_
    exact ⟨_, rfl, (t, hs, sp, b, S), Or.inl ⟨by omega, rfl, rfl⟩, hO0.A, Fr.rf⟩
