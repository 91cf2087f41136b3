-- the history: at most five states, the oldest first, in a ring
abbrev hiF (p : Nat) (a b : Int) : List Value := [.ref (p + 1), .int (zI a), .int (zI b)]
def HiP (h : AH) (p o : Nat) (n : Nat) (f : Nat → Option Nat) (Rg : Nat → CS) : Prop := SO h h p 1 0 (hiF p o n) [] ∧ h (p + 1) = some (xR 3 5 f) ∧ (∀ i, i < 5 → f i = some (p + 2 + 12 * i)) ∧ o < 5 ∧ ∀ i, i < 5 → StR h (p + 2 + 12 * i) (Rg i)
def HiR (h : AH) (p : Nat) (hs : List CS) : Prop := ∃ o f Rg, HiP h p o hs.length f Rg ∧ hs.length ≤ 5 ∧ ∀ j, j < hs.length → hs[j]? = some (Rg ((o + j) % 5))
theorem HiP.mv {h h' : AH} {p o n lo hi : Nat} {f : Nat → Option Nat} {Rg : Nat → CS} (a : HiP h p o n f Rg) (fr : Fr h h' lo hi) (d : hi ≤ p ∨ p + 62 ≤ lo) : HiP h' p o n f Rg := ⟨a.1.mv fr (by omega), (fr (p + 1) (by omega)).trans a.2.1, a.2.2.1, a.2.2.2.1, fun i hi => (a.2.2.2.2 i hi).mv fr (by omega)⟩
theorem HiR.mv {h h' : AH} {p lo hi : Nat} {hs : List CS} (a : HiR h p hs) (fr : Fr h h' lo hi) (d : hi ≤ p ∨ p + 62 ≤ lo) : HiR h' p hs := by
  obtain ⟨o, f, Rg, h1, h2, h3⟩ := a
  exact ⟨o, f, Rg, h1.mv fr d, h2, h3⟩
def hPush (hs : List CS) (S : CS) : List CS := if hs.length = 5 then hs.tail ++ [S] else hs ++ [S]
theorem hPush_le {hs : List CS} (h : hs.length ≤ 5) (S : CS) : (hPush hs S).length ≤ 5 := by
  unfold hPush
  split
  · rw [List.length_append, List.length_tail]
    simp
    omega
  · rw [List.length_append]
    simp
    omega

theorem c_X0_push (sz : Nat) {h : AH} {p q : Nat} {hs : List CS} {S : CS} (hHi : HiR h p hs) (hSt : StR h q S) (hd : p + 62 ≤ q ∨ q + 12 ≤ p) : CC mX0_push 3 0 0 [.ref p, .ref q] sz h (QV (fun h' => HiR h' p (hPush hs S) ∧ Fr h h' p (p + 62))) := by
  refine CC.intro [some (.ref p), some (.ref q)] pfX0_push rfl rfl ?_
  obtain ⟨ol, f, Rg, hHp, hl5, hRg⟩ := hHi
  obtain ⟨hS, hRing, hf, ho, hstates⟩ := id hHp
  have K : ∀ (h1 : AH) (o1 : Nat) (bs : List CS), o1 < 5 → bs.length ≤ 4 → SO h h1 p 1 0 (hiF p o1 bs.length) [] → (∀ j, j < bs.length → bs[j]? = some (Rg ((o1 + j) % 5))) → hPush hs S = bs ++ [S] → XM mX0_push 3 0 0 (QV (fun h' => HiR h' p (hPush hs S) ∧ Fr h h' p (p + 62))) 0 0 sz h1 25 [some (.ref p), some (.ref q)] [] := by
    clear hS
    intro h1 o1 bs ho1 hb4 hS hbs hpe
    have hF1 := hS.fr
    have hSt1 := hSt.mv hF1 (by omega)
    have hRing1 := (hF1 (p + 1) (by omega)).trans hRing
    have hst1 : ∀ i, i < 5 → StR h1 (p + 2 + 12 * i) (Rg i) := fun i hi => (hstates i hi).mv hF1 (by omega)
    have hk : (o1 + bs.length) % 5 < 5 := Nat.mod_lt _ (by omega)
    have hstk := hst1 _ hk
    have hQi := hstk.1
    refine x_aload_n dX0_push_25 rfl ?_
    refine s_get dX0_push_26 fX0_11 hS rfl ?_
    refine x_aload_n dX0_push_29 rfl ?_
    refine s_get dX0_push_30 fX0_22 hS rfl ?_
    refine x_aload_n dX0_push_33 rfl ?_
    refine s_get dX0_push_34 fX0_18 hS rfl ?_
    refine x_iadd dX0_push_37 ?_
    refine x_iconst dX0_push_38 ?_
    rw [show ((o1 : Nat) : Int) + ((bs.length : Nat) : Int) = ((o1 + bs.length : Nat) : Int) by omega]
    refine p_S dX0_push_39 lX0_25 (c_J9_floorMod_7cf53 sz h1 (a := o1 + bs.length) (by omega)) rfl rfl rfl (by decide) ?_
    refine x_aald dX0_push_42 hRing1 rfl (by omega) (by omega) (hf ((o1 + bs.length) % 5) hk) ?_
    refine x_aload_n dX0_push_43 rfl ?_
    refine v_V dX0_push_44 lX0_31 (c_X6_copyFrom sz hstk hSt1 (by omega)) hQi.1 rfl rfl rfl rfl (by decide) (fun h2 ⟨hSn, hF⟩ => ?_)
    have hFc := hF
    have hS2 := hS.mv hFc (by omega)
    have hS := hS2
    refine x_aload_n dX0_push_47 rfl ?_
    refine x_dup dX0_push_48 rfl ?_
    refine s_get dX0_push_49 fX0_18 hS rfl ?_
    refine x_iconst dX0_push_52 ?_
    refine x_iadd dX0_push_53 ?_
    refine s_puti dX0_push_54 fX0_18 hS rfl (fun h3 hS hF => ?_)
    refine x_vreturn dX0_push_57 rfl ?_
    have hF2 : Fr h h2 p (p + 62) := (hF1.wd (by omega) (by omega)).tr (hFc.wd (by omega) (by omega))
    have hF3 := hS.fr
    refine ⟨rfl, ⟨o1, f, fU Rg ((o1 + bs.length) % 5) S, ⟨?_, ?_, hf, ho1, fun i hi => ?_⟩, ?_, fun j hj => ?_⟩, hF2.tr (hF3.wd (by omega) (by omega))⟩
    · rw [hpe, List.length_append]
      exact hS.st
    · exact (hF3 (p + 1) (by omega)).trans ((hFc (p + 1) (by omega)).trans hRing1)
    · by_cases e : i = (o1 + bs.length) % 5
      · rw [e, fU_s]
        exact hSn.mv hF3 (by omega)
      · rw [fU_n e]
        exact ((hst1 i hi).mv hFc (by omega)).mv hF3 (by omega)
    · rw [hpe, List.length_append]
      simp
      omega
    · rw [hpe, List.length_append] at hj
      simp at hj
      rw [hpe]
      by_cases e : j = bs.length
      · rw [e, fU_s, List.getElem?_append_right (Nat.le_refl _), Nat.sub_self]
        rfl
      · rw [List.getElem?_append_left (by omega), fU_n (by omega)]
        exact hbs j (by omega)
  refine x_aload_n dX0_push_0 rfl ?_
  refine s_get dX0_push_1 fX0_18 hS rfl ?_
  refine x_iconst dX0_push_4 ?_
  refine x_icmp_lt dX0_push_5 ⟨by omega, by omega⟩ ⟨by omega, by omega⟩ (fun qc5q => ?_) (fun qc5q => ?_)
  · first
      | (refine K _ ol hs ho (by omega) hS hRg ?_
         unfold hPush
         rw [if_neg (by omega)]; done)
      | (refine K _ ((ol + 1) % 5) hs.tail (by omega) (by rw [List.length_tail]; omega) (by rw [List.length_tail, show hs.length - 1 = 4 by omega]; exact hS) (fun j hj => ?_) ?_
         · rw [List.length_tail] at hj
           rw [List.getElem?_tail, hRg (j + 1) (by omega), show (ol + (j + 1)) % 5 = ((ol + 1) % 5 + j) % 5 by omega]
         · unfold hPush
           rw [if_pos (by omega)])
  · refine x_aload_n dX0_push_8 rfl ?_
    refine x_aload_n dX0_push_9 rfl ?_
    refine s_get dX0_push_10 fX0_22 hS rfl ?_
    refine x_iconst dX0_push_13 ?_
    refine x_iadd dX0_push_14 ?_
    refine x_iconst dX0_push_15 ?_
    refine x_irem dX0_push_16 (z := (((ol + 1) % 5 : Nat) : Int)) (by decide) ?_ ?_
    · rw [show ((ol : Nat) : Int) + 1 = ((ol + 1 : Nat) : Int) by omega, zI_nat, zI_nat, show zI 5 = nI 5 from rfl]
      exact pk_rem (a := ol + 1) (d := 5) (by omega) (by omega) (by omega)
    refine s_puti dX0_push_17 fX0_22 hS rfl (fun hx hS hF => ?_)
    refine x_aload_n dX0_push_20 rfl ?_
    refine x_iconst dX0_push_21 ?_
    refine s_puti dX0_push_22 fX0_18 hS rfl (fun hy hS hF => ?_)
    first
      | (refine K _ ol hs ho (by omega) hS hRg ?_
         unfold hPush
         rw [if_neg (by omega)]; done)
      | (refine K _ ((ol + 1) % 5) hs.tail (by omega) (by rw [List.length_tail]; omega) (by rw [List.length_tail, show hs.length - 1 = 4 by omega]; exact hS) (fun j hj => ?_) ?_
         · rw [List.length_tail] at hj
           rw [List.getElem?_tail, hRg (j + 1) (by omega), show (ol + (j + 1)) % 5 = ((ol + 1) % 5 + j) % 5 by omega]
         · unfold hPush
           rw [if_pos (by omega)])
theorem c_X0_popInto (sz : Nat) {h : AH} {p q : Nat} {hs : List CS} {S : CS} (hHi : HiR h p hs) (hSt : StR h q S) (hd : p + 62 ≤ q ∨ q + 12 ≤ p) : CC mX0_popInto 3 0 0 [.ref p, .ref q] sz h (QI (fun z h' => (hs = [] ∧ z = 0 ∧ h' = h) ∨ (∃ hs1 S1, hs = hs1 ++ [S1] ∧ z = 1 ∧ HiR h' p hs1 ∧ StR h' q S1 ∧ (∀ a, ¬ (p ≤ a ∧ a < p + 62) → ¬ (q ≤ a ∧ a < q + 12) → h' a = h a)))) := by
  refine CC.intro [some (.ref p), some (.ref q)] pfX0_popInto rfl rfl ?_
  obtain ⟨ol, f, Rg, hHp, hl5, hRg⟩ := hHi
  obtain ⟨hS, hRing, hf, ho, hstates⟩ := id hHp
  have hQq := hSt.1
  refine x_aload_n dX0_popInto_0 rfl ?_
  refine s_get dX0_popInto_1 fX0_18 hS rfl ?_
  refine x_if_gt dX0_popInto_4 ⟨by omega, by omega⟩ (fun qc4q => ?_) (fun qc4q => ?_)
  · refine x_aload_n dX0_popInto_9 rfl ?_
    refine x_dup dX0_popInto_10 rfl ?_
    refine s_get dX0_popInto_11 fX0_18 hS rfl ?_
    refine x_iconst dX0_popInto_14 ?_
    refine x_isub dX0_popInto_15 ?_
    refine s_puti dX0_popInto_16 fX0_18 hS rfl (fun h1 hS hF => ?_)
    have hF1 := hF
    have hSt1 := hSt.mv hF1 (by omega)
    have hQq := hSt1.1
    have hRing1 := (hF1 (p + 1) (by omega)).trans hRing
    have hst1 : ∀ i, i < 5 → StR h1 (p + 2 + 12 * i) (Rg i) := fun i hi => (hstates i hi).mv hF1 (by omega)
    have hk : (ol + (hs.length - 1)) % 5 < 5 := Nat.mod_lt _ (by omega)
    refine x_aload_n dX0_popInto_19 rfl ?_
    refine x_aload_n dX0_popInto_20 rfl ?_
    refine s_get dX0_popInto_21 fX0_11 hS rfl ?_
    refine x_aload_n dX0_popInto_24 rfl ?_
    refine s_get dX0_popInto_25 fX0_22 hS rfl ?_
    refine x_aload_n dX0_popInto_28 rfl ?_
    refine s_get dX0_popInto_29 fX0_18 hS rfl ?_
    refine x_iadd dX0_popInto_32 ?_
    refine x_iconst dX0_popInto_33 ?_
    rw [show ((ol : Nat) : Int) + (((hs.length : Nat) : Int) - 1) = ((ol + (hs.length - 1) : Nat) : Int) by omega]
    refine p_S dX0_popInto_34 lX0_25 (c_J9_floorMod_7cf53 sz h1 (a := ol + (hs.length - 1)) (by omega)) rfl rfl rfl (by decide) ?_
    refine x_aald dX0_popInto_37 hRing1 rfl (by omega) (by omega) (hf ((ol + (hs.length - 1)) % 5) hk) ?_
    refine v_V dX0_popInto_38 lX0_31 (c_X6_copyFrom sz hSt1 (hst1 _ hk) (by omega)) hQq.1 rfl rfl rfl rfl (by decide) (fun h2 ⟨hSn, hF⟩ => ?_)
    refine x_iconst dX0_popInto_41 ?_
    refine x_zreturn dX0_popInto_42 rfl (by decide) ?_
    have hne : hs ≠ [] := fun e => by have q1 : hs.length = 0 := congrArg List.length e; omega
    refine ⟨_, rfl, Or.inr ⟨hs.dropLast, hs.getLast hne, (List.dropLast_concat_getLast hne).symm, rfl, ⟨ol, f, Rg, ⟨?_, (hF (p + 1) (by omega)).trans hRing1, hf, ho, fun i hi => (hst1 i hi).mv hF (by omega)⟩, by rw [List.length_dropLast]; omega, fun j hj => ?_⟩, ?_, fun a h1 h2 => (hF a h2).trans (hF1 a (by omega))⟩⟩
    · rw [List.length_dropLast, show ((hs.length - 1 : Nat) : Int) = (hs.length : Int) - 1 by omega]
      exact hS.mv hF (by omega)
    · rw [List.length_dropLast] at hj
      rw [List.getElem?_dropLast, if_pos hj]
      exact hRg j (by omega)
    · have h3 := hRg (hs.length - 1) (by omega)
      rw [← List.getLast?_eq_getElem?, List.getLast?_eq_some_getLast hne] at h3
      rw [Option.some.inj h3]
      exact hSn
  · refine x_iconst dX0_popInto_7 ?_
    refine x_zreturn dX0_popInto_8 rfl (by decide) ?_
    exact ⟨_, rfl, Or.inl ⟨List.eq_nil_of_length_eq_zero (by omega), rfl, rfl⟩⟩
