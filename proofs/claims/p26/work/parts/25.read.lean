theorem F2.split {h h' : AH} {p q : Nat} (f : F2 h h' p q) : ∃ h2, Fr h h2 p (p + 3) ∧ Fr h2 h' q (q + 12) := by
  refine ⟨fun a => if p ≤ a ∧ a < p + 3 then h' a else h a, fun a ha => if_neg ha, fun a ha => ?_⟩
  dsimp only
  split
  · rfl
  · rename_i q1
    exact f a q1 ha
theorem TyR.f2 {h h' : AH} {p q r : Nat} {t : List Int} (a : TyR h r t) (f : F2 h h' p q) (qe1q : p + 3 ≤ r ∨ r + 2 ≤ p) (qe2q : q + 12 ≤ r ∨ r + 2 ≤ q) : TyR h' r t := by
  obtain ⟨h2, f1, f2⟩ := f.split
  exact (a.mv f1 (by omega)).mv f2 (by omega)
theorem OuR.f2 {h h' : AH} {x b c d : Nat} {t : List Int} {hs : List CS} {sp S D D' : CS} (a : OuR h x t hs sp b c d S D) (f : F2 h h' (x + 3) d) (hR : ReR h' (x + 3)) (hD : StR h' d D') : OuR h' x t hs sp b c d S D' := by
  obtain ⟨a1, a2, a3, a4, a5, a6, a7, a8, a9⟩ := a
  obtain ⟨h2, f1, f2⟩ := f.split
  exact ⟨(a1.mv f1 (by omega)).mv f2 (by omega), (a2.mv f1 (by omega)).mv f2 (by omega), hR, (a4.mv f1 (by omega)).mv f2 (by omega), (a5.mv f1 (by omega)).mv f2 (by omega), (a6.mv f1 (by omega)).mv f2 (by omega), (a7.mv f1 (by omega)).mv f2 (by omega), hD, a9⟩
theorem F2.ou {h h' : AH} {x d : Nat} (f : F2 h h' (x + 3) d) (e : d = x + 83 ∨ d = x + 95) : Fr h h' x (x + 107) := fun a ha => f a (by omega) (by omega)
/-- the places that pairs have, none folded -/
def lyN (L : List LK) : List PE := lyF (kid L) [] 40 1 (-2) (kid L 0)
def SpRead (A : AS) (z : Int) (A' : AS) : Prop := (∃ x, RdBad A.1 x ∧ z = -100 - (x : Int) ∧ A' = A) ∨ (∃ s, RdOk A.1 s ∧ 120 < (lyN s.2.2.2.2.2).length ∧ z = -4 ∧ A' = A) ∨
  (∃ s, RdOk A.1 s ∧ (lyN s.2.2.2.2.2).length ≤ 120 ∧ z = (lyN s.2.2.2.2.2).length ∧ A' = Done A (rdC s (lyN s.2.2.2.2.2)))

theorem c_X4_read (sz : Nat) {h : AH} {p q r : Nat} {t : List Int} {tx : Nat → List Int} {mk : Nat → Nat} {pl : List PE} (hRe : ReR h p) (hT : TyR h r t) (hSt : StR h q (0, tx, mk, [], pl)) (hd : p + 3 ≤ q ∨ q + 12 ≤ p) (hd1 : p + 3 ≤ r ∨ r + 2 ≤ p) (hd2 : q + 12 ≤ r ∨ r + 2 ≤ q) : CC mX4_read 3 0 0 [.ref p, .ref r, .ref q] sz h (QI (fun z h' => ((∃ x, RdBad t x ∧ z = x ∧ ReR h' p ∧ ∃ Dq, StR h' q Dq) ∨ (∃ s pl', RdOk t s ∧ z = -1 ∧ ReR h' p ∧ StR h' q (rdC s pl'))) ∧ F2 h h' p q)) := by
  refine CC.intro [some (.ref p), some (.ref r), some (.ref q), none, none, none] pfX4_read rfl rfl ?_
  have hRe0 := hRe
  obtain ⟨a, b, u, v, y, hP⟩ := hRe
  have hTB := hT.B
  have hTl := hTB.1
  refine x_aload_n dX4_read_0 rfl ?_
  refine v_V dX4_read_1 lX4_18 (c_X4_begin sz hRe0) hP.1 rfl rfl rfl rfl (by decide) (fun h1 ⟨hRe, hFn⟩ => ?_)
  refine x_iconst dX4_read_4 ?_
  refine x_istore_n dX4_read_5 rfl rfl rfl ?_
  have hG1 : F2 h h1 p q := F2.l hFn (by omega) (by omega)
  have hT := hT.mv hFn (by omega)
  have hSt1 : StR h1 q (rdC rd0 pl) := by
    have h9 := hSt.mv hFn (by omega)
    exact ⟨h9.1, h9.2.1.cg (fun i i1 i2 => by have i3 : i ≤ 0 := i2; omega), h9.2.2.1, h9.2.2.2⟩
  clear hP hRe0 hSt
  refine x_loop (fun s : AH × Int => s.1) (fun s => [some (.ref p), some (.ref r), some (.ref q), some (.int (zI s.2)), none, none]) (fun s => 0 ≤ s.2 ∧ s.2 ≤ t.length ∧ TyR s.1 r t ∧ (∃ s1 pl1, rdP t s.2.toNat = some s1 ∧ ReS s.1 p s1 ∧ StR s.1 q (rdC s1 pl1)) ∧ F2 h s.1 p q) (fun s => (t.length - s.2).toNat) (h1, 0) rfl rfl ⟨by dsimp only; omega, by dsimp only; omega, hT, ⟨rd0, pl, rfl, hRe, hSt1⟩, hG1⟩ ?_
  clear hT hRe hSt1 hG1
  rintro ⟨h2, i⟩ ⟨hi0, hi1, hT, ⟨s1, pl1, hsP, hRe, hSt⟩, hG⟩ ihq
  try dsimp only at *
  have hRe0 := hRe
  have hsB := rdP_B t _ _ hsP
  have hsl := hsB.1
  obtain ⟨a, b, u, v, y, hP, hu, hv, hy, ha, hb⟩ := hRe
  obtain ⟨_, hTs, -, -⟩ := id hT
  have hv2 : v = 0 ∧ s1.2.2.1 ≠ 0 ∨ v = 1 ∧ s1.2.2.1 = 0 := by
    split at hv
    · rename_i q1
      exact Or.inr ⟨hv, q1⟩
    · rename_i q1
      exact Or.inl ⟨hv, q1⟩
  refine x_iload_n dX4_read_6 rfl ?_
  refine x_aload_n dX4_read_7 rfl ?_
  refine s_get dX4_read_8 fX4_21 hTs rfl ?_
  refine x_icmp_ge dX4_read_11 ⟨by omega, by omega⟩ ⟨by omega, by omega⟩ (fun qc11q => ?_) (fun qc11q => ?_)
  · refine x_aload_n dX4_read_59 rfl ?_
    refine s_get dX4_read_60 fX4_31 hP rfl ?_
    refine x_if_ne dX4_read_63 ⟨by omega, by omega⟩ (fun qc63q => ?_) (fun qc63q => ?_)
    · refine x_aload_n dX4_read_73 rfl ?_
      refine s_get dX4_read_74 fX4_21 hTs rfl ?_
      refine x_goto dX4_read_77 ?_
      refine x_ireturn dX4_read_81 rfl ?_
      have hil : i = t.length := by omega
      rw [hil, Int.toNat_natCast] at hsP
      first
        | exact ⟨_, rfl, Or.inl ⟨t.length, ⟨s1, hsP, Or.inr ⟨rfl, by omega⟩⟩, rfl, hRe0.R, _, hSt⟩, hG⟩
        | exact ⟨_, rfl, Or.inr ⟨s1, pl1, ⟨hsP, by omega, by omega⟩, rfl, hRe0.R, hSt⟩, hG⟩
    · refine x_aload_n dX4_read_66 rfl ?_
      refine s_get dX4_read_67 fX4_43 hP rfl ?_
      refine x_if_le dX4_read_70 ⟨by omega, by omega⟩ (fun qc70q => ?_) (fun qc70q => ?_)
      · refine x_iconst dX4_read_80 ?_
        refine x_ireturn dX4_read_81 rfl ?_
        have hil : i = t.length := by omega
        rw [hil, Int.toNat_natCast] at hsP
        first
          | exact ⟨_, rfl, Or.inl ⟨t.length, ⟨s1, hsP, Or.inr ⟨rfl, by omega⟩⟩, rfl, hRe0.R, _, hSt⟩, hG⟩
          | exact ⟨_, rfl, Or.inr ⟨s1, pl1, ⟨hsP, by omega, by omega⟩, rfl, hRe0.R, hSt⟩, hG⟩
      · refine x_aload_n dX4_read_73 rfl ?_
        refine s_get dX4_read_74 fX4_21 hTs rfl ?_
        refine x_goto dX4_read_77 ?_
        refine x_ireturn dX4_read_81 rfl ?_
        have hil : i = t.length := by omega
        rw [hil, Int.toNat_natCast] at hsP
        first
          | exact ⟨_, rfl, Or.inl ⟨t.length, ⟨s1, hsP, Or.inr ⟨rfl, by omega⟩⟩, rfl, hRe0.R, _, hSt⟩, hG⟩
          | exact ⟨_, rfl, Or.inr ⟨s1, pl1, ⟨hsP, by omega, by omega⟩, rfl, hRe0.R, hSt⟩, hG⟩
  · refine x_aload_n dX4_read_14 rfl ?_
    refine x_iload_n dX4_read_15 rfl ?_
    have hti := hTB.at i.toNat
    have hnx : rdP t (i + 1).toNat = rdS s1 (t.getD i.toNat 0) := by rw [show (i + 1).toNat = i.toNat + 1 by omega, rdP_s, hsP]; rfl
    refine p_V dX4_read_16 lX4_27 (c_X7_codeAt sz hT (i := i) (by omega) (by omega)) hTs.1 rfl rfl rfl rfl (by decide) ?_
    refine x_istore dX4_read_19 rfl rfl rfl ?_
    refine x_aload_n dX4_read_21 rfl ?_
    refine s_get dX4_read_22 fX4_31 hP rfl ?_
    refine x_if_eq dX4_read_25 ⟨by omega, by omega⟩ (fun qc25q => ?_) (fun qc25q => ?_)
    · refine x_aload_n dX4_read_38 rfl ?_
      refine x_iload dX4_read_39 rfl ?_
      refine i_V dX4_read_41 lX4_39 (c_X4_takeSign sz hRe0 hsB (by omega) (by omega) hti) hP.1 rfl rfl rfl rfl (by decide) (fun z1 h3 ⟨hz0, hFn⟩ => ?_)
      have hG3 : F2 h2 h3 p q := F2.l hFn (by omega) (by omega)
      have hz : (z1 = 1 ∧ ∃ s' pl', rdS s1 (t.getD i.toNat 0) = some s' ∧ ReS h3 p s' ∧ StR h3 q (rdC s' pl')) ∨ (z1 = 0 ∧ rdS s1 (t.getD i.toNat 0) = none ∧ ReR h3 p ∧ ∃ Dq, StR h3 q Dq) := by
        rcases hz0 with ⟨s', q1, q2, q3, q4⟩ | ⟨q1, q2, q3⟩
        · refine Or.inl ⟨q2, s', pl1, q1, q3, ?_⟩
          have q5 : rdC s' pl1 = rdC s1 pl1 := by
            unfold rdC
            rw [q4]
          rw [q5]
          exact hSt.mv hFn (by omega)
        · exact Or.inr ⟨q2, q1, q3.R, _, hSt.mv hFn (by omega)⟩
      have hz01 : z1 = 0 ∨ z1 = 1 := by rcases hz with q1 | q1 <;> omega
      refine x_istore dX4_read_44 rfl rfl rfl ?_
      refine x_iload dX4_read_46 rfl ?_
      refine x_if_ne dX4_read_48 ⟨by omega, by omega⟩ (fun qc48q => ?_) (fun qc48q => ?_)
      · refine x_iinc dX4_read_53 rfl rfl rfl ?_
        refine x_goto dX4_read_56 ?_
        obtain ⟨s', pl', q1, q2, q3⟩ : ∃ s' pl', rdS s1 (t.getD i.toNat 0) = some s' ∧ ReS h3 p s' ∧ StR h3 q (rdC s' pl') := by
          rcases hz with q1 | q1
          · exact q1.2
          · omega
        refine x_kill 4 (x_kill 5 ?_)
        exact ihq (h3, i + 1) ⟨by dsimp only; omega, by dsimp only; omega, hT.f2 hG3 hd1 hd2, ⟨s', pl', by dsimp only; rw [hnx, q1], q2, q3⟩, hG.tr hG3⟩ (by dsimp only; omega)
      · refine x_iload_n dX4_read_51 rfl ?_
        refine x_ireturn dX4_read_52 rfl ?_
        obtain ⟨q1, q2, q3⟩ : rdS s1 (t.getD i.toNat 0) = none ∧ ReR h3 p ∧ ∃ Dq, StR h3 q Dq := by
          rcases hz with q1 | q1
          · omega
          · exact q1.2
        exact ⟨_, rfl, Or.inl ⟨i.toNat, ⟨s1, hsP, Or.inl ⟨by omega, q1⟩⟩, by omega, q2, q3⟩, hG.tr hG3⟩
    · refine x_aload_n dX4_read_28 rfl ?_
      refine x_iload dX4_read_29 rfl ?_
      refine x_aload_n dX4_read_31 rfl ?_
      refine i_V dX4_read_32 lX4_35 (c_X4_takeLetter sz hRe0 hSt hd hsB (by omega) (by omega) hti) hP.1 rfl rfl rfl rfl (by decide) (fun z1 h3 ⟨hz0, hG3⟩ => ?_)
      have hz : (z1 = 1 ∧ ∃ s' pl', rdS s1 (t.getD i.toNat 0) = some s' ∧ ReS h3 p s' ∧ StR h3 q (rdC s' pl')) ∨ (z1 = 0 ∧ rdS s1 (t.getD i.toNat 0) = none ∧ ReR h3 p ∧ ∃ Dq, StR h3 q Dq) := by
        rcases hz0 with ⟨s', pl', q1, q2, q3, q4⟩ | ⟨q1, q2, q3, q4⟩
        · exact Or.inl ⟨q2, s', pl', q1, q3, q4⟩
        · exact Or.inr ⟨q2, q1, q3, q4⟩
      have hz01 : z1 = 0 ∨ z1 = 1 := by rcases hz with q1 | q1 <;> omega
      refine x_goto dX4_read_35 ?_
      refine x_istore dX4_read_44 rfl rfl rfl ?_
      refine x_iload dX4_read_46 rfl ?_
      refine x_if_ne dX4_read_48 ⟨by omega, by omega⟩ (fun qc48q => ?_) (fun qc48q => ?_)
      · refine x_iinc dX4_read_53 rfl rfl rfl ?_
        refine x_goto dX4_read_56 ?_
        obtain ⟨s', pl', q1, q2, q3⟩ : ∃ s' pl', rdS s1 (t.getD i.toNat 0) = some s' ∧ ReS h3 p s' ∧ StR h3 q (rdC s' pl') := by
          rcases hz with q1 | q1
          · exact q1.2
          · omega
        refine x_kill 4 (x_kill 5 ?_)
        exact ihq (h3, i + 1) ⟨by dsimp only; omega, by dsimp only; omega, hT.f2 hG3 hd1 hd2, ⟨s', pl', by dsimp only; rw [hnx, q1], q2, q3⟩, hG.tr hG3⟩ (by dsimp only; omega)
      · refine x_iload_n dX4_read_51 rfl ?_
        refine x_ireturn dX4_read_52 rfl ?_
        obtain ⟨q1, q2, q3⟩ : rdS s1 (t.getD i.toNat 0) = none ∧ ReR h3 p ∧ ∃ Dq, StR h3 q Dq := by
          rcases hz with q1 | q1
          · omega
          · exact q1.2
        exact ⟨_, rfl, Or.inl ⟨i.toNat, ⟨s1, hsP, Or.inl ⟨by omega, q1⟩⟩, by omega, q2, q3⟩, hG.tr hG3⟩
theorem c_X8_readOutline (sz : Nat) {h : AH} {x b c d : Nat} {t : List Int} {hs : List CS} {sp S D : CS} (hO : OuR h x t hs sp b c d S D) (hDp : ∀ s, RdOk t s → Dp (kid s.2.2.2.2.2) 40 0) : CC mX8_readOutline 62 0 0 [.ref x] sz h (QI (fun z h' => ∃ A', SpRead (t, hs, sp, b, S) z A' ∧ OuA h' x A' ∧ Fr h h' x (x + 107))) := by
  refine CC.intro [some (.ref x), none] pfX8_readOutline rfl rfl ?_
  have hO0 := hO
  obtain ⟨hX, hT, hRe, hRo, hHi, hSp, hC, hD, hcd⟩ := id hO
  have hC0 := hC.1
  have hD0 := hD.1
  have hSp0 := hSp.1
  obtain ⟨_, hTs, -, -⟩ := id hT
  obtain ⟨_, _, hRs, -, -⟩ := id hRo
  obtain ⟨_, _, _, hCN, -, -⟩ := id hC.2.1
  obtain ⟨_, _, hCL, -, -⟩ := id hC.2.2.1
  obtain ⟨_, _, _, hCP, -, -⟩ := id hC.2.2.2
  obtain ⟨_, _, _, hDN, -, -⟩ := id hD.2.1
  obtain ⟨_, _, hDL, -, -⟩ := id hD.2.2.1
  obtain ⟨_, _, _, hDP, -, -⟩ := id hD.2.2.2
  obtain ⟨_, _, _, ⟨hHs, -⟩, -⟩ := id hHi
  have hpB := hC.2.2.2.B
  have hpl := hpB.1
  refine x_aload_n dX8_readOutline_0 rfl ?_
  refine s_get dX8_readOutline_1 fX8_51 hX rfl ?_
  refine v_V dX8_readOutline_4 lX8_192 (c_X6_clearNodes sz hD) hD0.1 rfl rfl rfl rfl (by decide) (fun h1 ⟨hSn, hFn⟩ => ?_)
  have hO := hO.dr hSn hFn
  have hG : Fr h h1 x (x + 107) := hFn.wd (by omega) (by omega)
  clear hX hT hRe hRo hHi hSp hC hD hcd hC0 hD0 hSp0 hTs hRs hCN hCL hCP hDN hDL hDP hHs
  obtain ⟨hX, hT, hRe, hRo, hHi, hSp, hC, hD, hcd⟩ := id hO
  have hC0 := hC.1
  have hD0 := hD.1
  have hSp0 := hSp.1
  obtain ⟨_, hTs, -, -⟩ := id hT
  obtain ⟨_, _, hRs, -, -⟩ := id hRo
  obtain ⟨_, _, _, hCN, -, -⟩ := id hC.2.1
  obtain ⟨_, _, hCL, -, -⟩ := id hC.2.2.1
  obtain ⟨_, _, _, hCP, -, -⟩ := id hC.2.2.2
  obtain ⟨_, _, _, hDN, -, -⟩ := id hD.2.1
  obtain ⟨_, _, hDL, -, -⟩ := id hD.2.2.1
  obtain ⟨_, _, _, hDP, -, -⟩ := id hD.2.2.2
  obtain ⟨_, _, _, ⟨hHs, -⟩, -⟩ := id hHi
  obtain ⟨_, _, _, _, _, hRes⟩ := id hRe
  have hdd : d = x + 83 ∨ d = x + 95 := by clear hRes; omega
  refine x_aload_n dX8_readOutline_7 rfl ?_
  refine s_get dX8_readOutline_8 fX8_19 hX rfl ?_
  refine x_aload_n dX8_readOutline_11 rfl ?_
  refine s_get dX8_readOutline_12 fX8_10 hX rfl ?_
  refine x_aload_n dX8_readOutline_15 rfl ?_
  refine s_get dX8_readOutline_16 fX8_51 hX rfl ?_
  refine i_V dX8_readOutline_19 lX8_195 (c_X4_read sz hRe hT hD (by omega) (by omega) (by omega)) hRes.1 rfl rfl rfl rfl (by decide) (fun r h2 ⟨hr, hF2⟩ => ?_)
  have hO1 : (∃ k, RdBad t k ∧ r = k ∧ ReR h2 (x + 3) ∧ ∃ Dq, OuR h2 x t hs sp b c d S Dq) ∨ (∃ s pl', RdOk t s ∧ r = -1 ∧ ReR h2 (x + 3) ∧ OuR h2 x t hs sp b c d S (rdC s pl')) := by
    rcases hr with ⟨k, q1, q2, q3, Dq, q4⟩ | ⟨s, pl', q1, q2, q3, q4⟩
    · exact Or.inl ⟨k, q1, q2, q3, Dq, hO.f2 hF2 q3 q4⟩
    · exact Or.inr ⟨s, pl', q1, q2, q3, hO.f2 hF2 q3 q4⟩
  have hT60 := hT.B.1
  have hrr : -1 ≤ r ∧ r ≤ 60 := by
    rcases hO1 with ⟨k, q1, q2, -⟩ | ⟨s, pl', q1, q2, -⟩
    · have := q1.xle
      omega
    · omega
  have hG : Fr h h2 x (x + 107) := hG.tr (hF2.ou hdd)
  clear hO hr
  clear hX hT hRe hRo hHi hSp hC hD hcd hC0 hD0 hSp0 hTs hRs hCN hCL hCP hDN hDL hDP hHs
  
  refine x_istore_n dX8_readOutline_22 rfl rfl rfl ?_
  refine x_iload_n dX8_readOutline_23 rfl ?_
  refine x_iconst dX8_readOutline_24 ?_
  refine x_icmp_eq dX8_readOutline_25 ⟨by omega, by omega⟩ ⟨by omega, by omega⟩ (fun qc25q => ?_) (fun qc25q => ?_)
  · obtain ⟨s, pl', q1, q2, q3, hO⟩ : ∃ s pl', RdOk t s ∧ r = -1 ∧ ReR h2 (x + 3) ∧ OuR h2 x t hs sp b c d S (rdC s pl') := by
      rcases hO1 with ⟨k, q1, q2, -⟩ | q
      · omega
      · exact q
    obtain ⟨hX, hT, hRe, hRo, hHi, hSp, hC, hD, hcd⟩ := id hO
    have hC0 := hC.1
    have hD0 := hD.1
    have hSp0 := hSp.1
    obtain ⟨_, hTs, -, -⟩ := id hT
    obtain ⟨_, _, hRs, -, -⟩ := id hRo
    obtain ⟨_, _, _, hCN, -, -⟩ := id hC.2.1
    obtain ⟨_, _, hCL, -, -⟩ := id hC.2.2.1
    obtain ⟨_, _, _, hCP, -, -⟩ := id hC.2.2.2
    obtain ⟨_, _, _, hDN, -, -⟩ := id hD.2.1
    obtain ⟨_, _, hDL, -, -⟩ := id hD.2.2.1
    obtain ⟨_, _, _, hDP, -, -⟩ := id hD.2.2.2
    obtain ⟨_, _, _, ⟨hHs, -⟩, -⟩ := id hHi
    refine x_aload_n dX8_readOutline_33 rfl ?_
    refine s_get dX8_readOutline_34 fX8_51 hX rfl ?_
    refine i_V dX8_readOutline_37 lX8_199 (c_X6_placeAnew sz hD (hDp s q1)) hD0.1 rfl rfl rfl rfl (by decide) (fun r2 h3 hr2 => ?_)
    have hrr2 : r2 = 0 ∨ r2 = 1 := by rcases hr2 with q | q <;> omega
    refine x_if_ne dX8_readOutline_40 ⟨by omega, by omega⟩ (fun qc40q => ?_) (fun qc40q => ?_)
    · obtain ⟨q4, hSn, hFn⟩ : (lyN s.2.2.2.2.2).length ≤ 120 ∧ StR h3 d (rdC s (lyN s.2.2.2.2.2)) ∧ Fr h2 h3 d (d + 12) := by
        rcases hr2 with q | q
        · exact ⟨q.1, q.2.2⟩
        · omega
      have hO := hO.dr hSn hFn
      have hG : Fr h h3 x (x + 107) := hG.tr (hFn.wd (by omega) (by omega))
      clear hX hT hRe hRo hHi hSp hC hD hcd hC0 hD0 hSp0 hTs hRs hCN hCL hCP hDN hDL hDP hHs
      obtain ⟨hX, hT, hRe, hRo, hHi, hSp, hC, hD, hcd⟩ := id hO
      have hC0 := hC.1
      have hD0 := hD.1
      have hSp0 := hSp.1
      obtain ⟨_, hTs, -, -⟩ := id hT
      obtain ⟨_, _, hRs, -, -⟩ := id hRo
      obtain ⟨_, _, _, hCN, -, -⟩ := id hC.2.1
      obtain ⟨_, _, hCL, -, -⟩ := id hC.2.2.1
      obtain ⟨_, _, _, hCP, -, -⟩ := id hC.2.2.2
      obtain ⟨_, _, _, hDN, -, -⟩ := id hD.2.1
      obtain ⟨_, _, hDL, -, -⟩ := id hD.2.2.1
      obtain ⟨_, _, _, hDP, -, -⟩ := id hD.2.2.2
      obtain ⟨_, _, _, ⟨hHs, -⟩, -⟩ := id hHi
      refine x_aload_n dX8_readOutline_46 rfl ?_
      refine v_V dX8_readOutline_47 lX8_131 (c_X8_accept sz hO) hX.1 rfl rfl rfl rfl (by decide) (fun h4 ⟨hO, hFn⟩ => ?_)
      have hG : Fr h h4 x (x + 107) := hG.tr hFn
      clear hX hT hRe hRo hHi hSp hC hD hcd hC0 hD0 hSp0 hTs hRs hCN hCL hCP hDN hDL hDP hHs
      obtain ⟨hX, hT, hRe, hRo, hHi, hSp, hC, hD, hcd⟩ := id hO
      have hC0 := hC.1
      have hD0 := hD.1
      have hSp0 := hSp.1
      obtain ⟨_, hTs, -, -⟩ := id hT
      obtain ⟨_, _, hRs, -, -⟩ := id hRo
      obtain ⟨_, _, _, hCN, -, -⟩ := id hC.2.1
      obtain ⟨_, _, hCL, -, -⟩ := id hC.2.2.1
      obtain ⟨_, _, _, hCP, -, -⟩ := id hC.2.2.2
      obtain ⟨_, _, _, hDN, -, -⟩ := id hD.2.1
      obtain ⟨_, _, hDL, -, -⟩ := id hD.2.2.1
      obtain ⟨_, _, _, hDP, -, -⟩ := id hD.2.2.2
      obtain ⟨_, _, _, ⟨hHs, -⟩, -⟩ := id hHi
      refine x_aload_n dX8_readOutline_50 rfl ?_
      refine s_get dX8_readOutline_51 fX8_48 hX rfl ?_
      refine s_get dX8_readOutline_54 fX8_84 hC0 rfl ?_
      refine s_get dX8_readOutline_57 fX8_202 hCP rfl ?_
      refine x_ireturn dX8_readOutline_60 rfl ?_
      exact ⟨_, rfl, Done (t, hs, sp, b, S) (rdC s (lyN s.2.2.2.2.2)), Or.inr (Or.inr ⟨s, q1, q4, rfl, rfl⟩), hO.A, hG⟩
    · obtain ⟨q4, ⟨pl2, hSn⟩, hFn⟩ : 120 < (lyN s.2.2.2.2.2).length ∧ (∃ pl2, StR h3 d (s.2.2.2.1, fun i => [s.2.2.2.2.1 i], fun _ => 0, s.2.2.2.2.2, pl2)) ∧ Fr h2 h3 d (d + 12) := by
        rcases hr2 with q | q
        · omega
        · exact ⟨q.1, q.2.2⟩
      have hO := hO.dr hSn hFn
      have hG : Fr h h3 x (x + 107) := hG.tr (hFn.wd (by omega) (by omega))
      refine x_bipush dX8_readOutline_43 (by decide) ?_
      refine x_ireturn dX8_readOutline_45 rfl ?_
      exact ⟨_, rfl, (t, hs, sp, b, S), Or.inr (Or.inl ⟨s, q1, q4, rfl, rfl⟩), hO.A, hG⟩
  · obtain ⟨k, q1, q2, q3, Dq, hO⟩ : ∃ k, RdBad t k ∧ r = k ∧ ReR h2 (x + 3) ∧ ∃ Dq, OuR h2 x t hs sp b c d S Dq := by
      rcases hO1 with q | ⟨s, pl', q1, q2, -⟩
      · exact q
      · omega
    refine x_bipush dX8_readOutline_28 (by decide) ?_
    refine x_iload_n dX8_readOutline_30 rfl ?_
    refine x_isub dX8_readOutline_31 ?_
    refine x_ireturn dX8_readOutline_32 rfl ?_
    exact ⟨_, rfl, (t, hs, sp, b, S), Or.inl ⟨k, q1, by omega, rfl⟩, hO.A, hG⟩
