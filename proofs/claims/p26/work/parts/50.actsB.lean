/-! What shift, fold, foldLevel, show, edit and mark do to the tells. -/
theorem lfi_le {α : Type} [DecidableEq α] : ∀ (l : List α) (y : α), lfi l y < l.length + 1
  | [], y => by show (-1 : Int) < 0 + 1; omega
  | x :: l, y => by
    have h1 := lfi_le l y
    rw [lfi, List.length_cons]
    split
    · omega
    · split <;> omega
/-- the seen ones below, when what is above is seen -/
def vL (K : Nat → List Nat) (bef : List PE) : Nat → Int → List Nat → List Nat
  | 0, _, _ => []
  | n + 1, o, cs => cs.flatMap fun c => c :: (if (gF bef (pChl bef o c)).toNat = 1 then [] else vL K bef n (pChl bef o c) (K c))
theorem vL_cons (K : Nat → List Nat) (bef : List PE) (n : Nat) (o : Int) (c : Nat) (cs : List Nat) : vL K bef (n + 1) o (c :: cs) = c :: ((if (gF bef (pChl bef o c)).toNat = 1 then [] else vL K bef n (pChl bef o c) (K c)) ++ vL K bef (n + 1) o cs) := by
  rw [vL, List.flatMap_cons]
  rfl
theorem lyF_cons (K : Nat → List Nat) (bef : List PE) (n lev : Nat) (o : Int) (c : Nat) (cs : List Nat) : lyF K bef (n + 1) lev o (c :: cs) = (c, lev, (gF bef (pChl bef o c)).toNat) :: (lyF K bef n (lev + 1) (pChl bef o c) (K c) ++ lyF K bef (n + 1) lev o cs) := by
  rw [lyF, List.flatMap_cons]
  rfl
theorem vL_perm {K K' : Nat → List Nat} (bef : List PE) (h : ∀ x, (K' x).Perm (K x)) : ∀ (n : Nat) (o : Int) (cs cs' : List Nat), cs'.Perm cs → (vL K' bef n o cs').length = (vL K bef n o cs).length
  | 0, _, _, _, _ => rfl
  | n + 1, o, cs, cs', hc => by
    have h1 : (fun c : Nat => (c :: (if (gF bef (pChl bef o c)).toNat = 1 then [] else vL K' bef n (pChl bef o c) (K' c))).length) = fun c : Nat => (c :: (if (gF bef (pChl bef o c)).toNat = 1 then [] else vL K bef n (pChl bef o c) (K c))).length := by
      funext c
      rw [List.length_cons, List.length_cons]
      split
      · rfl
      · rw [vL_perm bef h n (pChl bef o c) (K c) (K' c) (h c)]
    rw [vL, vL, (hc.flatMap_right (fun c : Nat => c :: (if (gF bef (pChl bef o c)).toNat = 1 then [] else vL K' bef n (pChl bef o c) (K' c)))).length_eq, List.length_flatMap, List.length_flatMap, h1]
theorem at_mid {A R : List PE} {q : PE} : pn (A ++ q :: R) A.length = q.1 ∧ pv (A ++ q :: R) A.length = q.2.1 ∧ pf (A ++ q :: R) A.length = q.2.2 := by
  unfold pn pv pf
  rw [List.getD_eq_getElem?_getD, List.getElem?_append_right (Nat.le_refl _), Nat.sub_self]
  exact ⟨rfl, rfl, rfl⟩
theorem at_in {A F B : List PE} {j : Nat} (hj : j < F.length) : (pn (A ++ (F ++ B)) (A.length + j), pv (A ++ (F ++ B)) (A.length + j)) ∈ skL F := by
  have h1 : (A ++ (F ++ B))[A.length + j]? = F[j]? := by
    rw [List.getElem?_append_right (by omega), List.getElem?_append_left (by omega), show A.length + j - A.length = j by omega]
  unfold pn pv
  rw [List.getD_eq_getElem?_getD, h1, List.getElem?_eq_getElem hj]
  exact List.mem_map.mpr ⟨F[j], List.getElem_mem _, rfl⟩
/-- counting the seen ones of laid places -/
theorem vis_cnt (K : Nat → List Nat) (bef : List PE) : ∀ (n lev : Nat) (o : Int) (cs : List Nat) (A B : List PE), n + lev ≤ 41 → lev ≤ gs (A ++ (lyF K bef n lev o cs ++ B)) A.length →
    cB (sn (A ++ (lyF K bef n lev o cs ++ B))) (A.length + (lyF K bef n lev o cs).length) = cB (sn (A ++ (lyF K bef n lev o cs ++ B))) A.length + (vL K bef n o cs).length ∧ lev ≤ gs (A ++ (lyF K bef n lev o cs ++ B)) (A.length + (lyF K bef n lev o cs).length)
  | 0, lev, o, cs => fun A B _ h => ⟨rfl, h⟩
  | n + 1, lev, o, cs => by
    induction cs with
    | nil => intro A B _ h; rw [lyF_nil] at *; exact ⟨rfl, h⟩
    | cons c cs ihq =>
      intro A B hn h
      rw [lyF_cons, vL_cons] at *
      generalize hfo : (gF bef (pChl bef o c)).toNat = fo at *
      generalize hF2 : lyF K bef (n + 1) lev o cs = F2 at *
      have hsk1 : ∀ q ∈ skL (lyF K bef n (lev + 1) (pChl bef o c) (K c)), lev + 1 ≤ q.2 := by
        rw [lyF_sk]
        exact skF_lev K n (lev + 1) (K c)
      have hin := vis_cnt K bef n (lev + 1) (pChl bef o c) (K c) (A ++ [(c, lev, fo)]) (F2 ++ B)
      generalize hF1 : lyF K bef n (lev + 1) (pChl bef o c) (K c) = F1 at *
      have e0 : A ++ ((c, lev, fo) :: (F1 ++ F2) ++ B) = A ++ (c, lev, fo) :: (F1 ++ (F2 ++ B)) := by simp
      have e1 : A ++ (c, lev, fo) :: (F1 ++ (F2 ++ B)) = (A ++ [(c, lev, fo)]) ++ (F1 ++ (F2 ++ B)) := by simp
      have e2 : A ++ (c, lev, fo) :: (F1 ++ (F2 ++ B)) = (A ++ (c, lev, fo) :: F1) ++ (F2 ++ B) := by simp
      have l1 : (A ++ [(c, lev, fo)]).length = A.length + 1 := by simp
      have l2 : (A ++ (c, lev, fo) :: F1).length = A.length + 1 + F1.length := by simp; omega
      have ih2 := ihq (A ++ (c, lev, fo) :: F1) B hn
      rw [← e2, l2] at ih2
      rw [← e1, l1] at hin
      rw [e0] at h ⊢
      have hat := at_mid (A := A) (R := F1 ++ (F2 ++ B)) (q := (c, lev, fo))
      dsimp only at hat
      have hmem : ∀ j, j < F1.length → lev + 1 ≤ pv (A ++ (c, lev, fo) :: (F1 ++ (F2 ++ B))) (A.length + 1 + j) := fun j hj => by
        have := at_in (A := A ++ [(c, lev, fo)]) (B := F2 ++ B) hj
        rw [← e1, l1] at this
        exact hsk1 _ this
      generalize hpl : A ++ (c, lev, fo) :: (F1 ++ (F2 ++ B)) = pl at *
      have hs0 : sn pl A.length = true := decide_eq_true (by rw [hat.2.1]; exact h)
      have hg1 := gs_vis hs0
      rw [hat.2.1, hat.2.2] at hg1
      have hc1 : cB (sn pl) (A.length + 1) = cB (sn pl) A.length + 1 := by rw [cB_s, if_pos hs0]
      have hmid : cB (sn pl) (A.length + 1 + F1.length) = cB (sn pl) (A.length + 1) + (if fo = 1 then [] else vL K bef n (pChl bef o c) (K c)).length ∧ lev ≤ gs pl (A.length + 1 + F1.length) := by
        by_cases hfo1 : fo = 1
        · rw [if_pos hfo1] at hg1 ⊢
          have hh : ∀ m, m ≤ F1.length → gs pl (A.length + 1 + m) = gs pl (A.length + 1) := fun m hm => gs_hide (v := lev) (by omega) m (fun k a b => by
            obtain ⟨j, rfl⟩ : ∃ j, k = A.length + 1 + j := ⟨k - (A.length + 1), by omega⟩
            exact hmem j (by omega))
          refine ⟨?_, by rw [hh _ (Nat.le_refl _), hg1]; exact Nat.le_refl _⟩
          rw [cB_split, cB_zero (p := fun k => sn pl (A.length + 1 + k)) F1.length (fun k hk => decide_eq_false (by
            have := hmem k hk
            rw [hh k (by omega), hg1]
            omega))]
          rfl
        · rw [if_neg hfo1] at hg1 ⊢
          cases n with
          | zero =>
            have : F1 = [] := by rw [← hF1]; rfl
            subst this
            exact ⟨rfl, by rw [List.length_nil, Nat.add_zero, hg1]; omega⟩
          | succ n =>
            have := hin (by omega) (by rw [hg1]; omega)
            exact ⟨this.1, by omega⟩
      have h3 := ih2 hmid.2
      have hlen : A.length + ((c, lev, fo) :: (F1 ++ F2)).length = A.length + 1 + F1.length + F2.length := by simp; omega
      rw [hlen]
      refine ⟨?_, h3.2⟩
      rw [h3.1, hmid.1, hc1, List.length_cons, List.length_append]
      omega
/-- the places that are laid again over the same pairs are the same -/
theorem ly_same {K : Nat → List Nat} {pl : List PE} (hB : PlB pl) (hnd : ∀ x, (K x).Nodup) : ∀ (n lev : Nat) (cs : List Nat) (A F B : List PE) (o : Int), pl = A ++ (F ++ B) → skL F = skF K n lev cs → cs.Nodup → -1 ≤ o → o + 1 ≤ A.length → gV pl o + 1 = lev →
    (∀ m : Nat, o < m → m < A.length → lev < pv pl m ∨ (pv pl m = lev ∧ pn pl m ∉ cs)) → lyF K pl n lev o cs = F
  | 0, lev, cs => fun A F B o _ hS _ _ _ _ _ => by
    have h1 : skL F = [] := hS
    have h2 : F = [] := List.map_eq_nil_iff.mp h1
    rw [h2]
    rfl
  | n + 1, lev, cs => by
    induction cs with
    | nil =>
      intro A F B o _ hS _ _ _ _ _
      have h1 : skL F = [] := by rw [hS, skF_nil]
      have h2 : F = [] := List.map_eq_nil_iff.mp h1
      rw [h2, lyF_nil]
    | cons c cs ihq =>
      intro A F B o hp hS hc ho1 ho2 hl hm
      rw [skF_cons] at hS
      obtain ⟨⟨c', lev', fo⟩, T, rfl, hq, hT⟩ := List.map_eq_cons_iff.mp hS
      obtain ⟨F1, F2, rfl, hF1, hF2⟩ := List.map_eq_append_iff.mp hT
      have hc' : c' = c := congrArg (·.1) hq
      have hlev' : lev' = lev := congrArg (·.2) hq
      subst hc'
      subst hlev'
      have e0 : pl = A ++ (c', lev', fo) :: (F1 ++ (F2 ++ B)) := by rw [hp]; simp
      have hat := at_mid (A := A) (R := F1 ++ (F2 ++ B)) (q := (c', lev', fo))
      rw [← e0] at hat
      dsimp only at hat
      have hAl : A.length < pl.length := by rw [e0]; simp
      obtain ⟨hcn, hcd⟩ := List.nodup_cons.mp hc
      have hgA := gNVF pl A.length
      have hch : pChl pl o (c' : Int) = A.length := by
        have hf : fZ (pChQ pl (gV pl o + 1) (c' : Int)) pl.length (o + 1) = A.length := fZ_eq (by omega) (by omega) (by omega) (fun j a b => by
          unfold pChQ
          rw [hl]
          rcases hm j (by omega) (by omega) with q | ⟨q1, q2⟩
          · rw [decide_eq_false (by omega), decide_eq_false (by omega)]; rfl
          · have : pn pl j ≠ c' := fun e => q2 (by rw [e]; exact List.mem_cons_self)
            rw [decide_eq_false (by omega), decide_eq_false (p := (pn pl j : Int) = (c' : Int)) (by omega), Bool.and_false]; rfl) (fun _ => by
          unfold pChQ
          rw [hl, Int.toNat_natCast, hat.1, hat.2.1]
          simp)
        unfold pChl
        rw [if_neg (by omega), hf, if_pos ⟨by omega, by rw [hgA.2.1, hat.2.1, hl]⟩]
      have hfo : (gF pl (pChl pl o (c' : Int))).toNat = fo := by
        rw [hch, hgA.2.2, hat.2.2, Int.toNat_natCast]
      have e1 : pl = (A ++ [(c', lev', fo)]) ++ (F1 ++ (F2 ++ B)) := by rw [e0]; simp
      have e2 : pl = (A ++ (c', lev', fo) :: F1) ++ (F2 ++ B) := by rw [e0]; simp
      have l1 : (A ++ [(c', lev', fo)]).length = A.length + 1 := by simp
      have l2 : (A ++ (c', lev', fo) :: F1).length = A.length + 1 + F1.length := by simp; omega
      have h1 := ly_same hB hnd n (lev' + 1) (K c') (A ++ [(c', lev', fo)]) F1 (F2 ++ B) (A.length : Int) e1 hF1 (hnd c') (by omega) (by rw [l1]; omega) (by rw [hgA.2.1, hat.2.1]; omega) (fun m a b => by rw [l1] at b; omega)
      have h2 := ihq (A ++ (c', lev', fo) :: F1) F2 B o e2 hF2 hcd ho1 (by rw [l2]; omega) hl (fun m a b => by
        rw [l2] at b
        rcases Nat.lt_trichotomy m A.length with q | q | q
        · rcases hm m a q with z | ⟨z1, z2⟩
          · exact Or.inl z
          · exact Or.inr ⟨z1, fun w => z2 (List.mem_cons_of_mem _ w)⟩
        · subst q
          exact Or.inr ⟨hat.2.1, by rw [hat.1]; exact hcn⟩
        · left
          obtain ⟨j, rfl⟩ : ∃ j, m = A.length + 1 + j := ⟨m - (A.length + 1), by omega⟩
          have h3 := at_in (A := A ++ [(c', lev', fo)]) (F := F1) (B := F2 ++ B) (j := j) (by omega)
          rw [← e1, l1] at h3
          have h4 : skL F1 = skF K n (lev' + 1) (K c') := hF1
          rw [h4] at h3
          exact skF_lev K n (lev' + 1) (K c') _ h3)
      rw [lyF_cons, hfo, hch, h1, h2]
theorem lyO_same {S : CS} (hI : InvS S) (hB : StB S) : lyO S.2.2.2.1 S.2.2.2.2 = S.2.2.2.2 := by
  unfold lyO
  exact ly_same hB.2.2 hI.1.2.2.1 40 1 (kid S.2.2.2.1 0) [] S.2.2.2.2 [] (-1) (by simp) hI.2 (hI.1.2.2.1 0) (by omega) (by simp) rfl (fun m a b => by simp at b)
theorem vis_lyO (L : List LK) (bef : List PE) : cB (sn (lyO L bef)) (lyO L bef).length = (vL (kid L) bef 40 (-1) (kid L 0)).length := by
  have h1 := (vis_cnt (kid L) bef 40 1 (-1) (kid L 0) [] [] (by decide) (by show 1 ≤ 40; decide)).1
  simp only [List.nil_append, List.append_nil, List.length_nil, Nat.zero_add] at h1
  rw [show cB (sn (lyF (kid L) bef 40 1 (-1) (kid L 0))) 0 = 0 from rfl, Nat.zero_add] at h1
  exact h1
/-- a shift keeps how many rows there are -/
theorem shift_rows {S : CS} (hI : InvS S) (hB : StB S) {M : List LK} (hp : ∀ x, (kid M x).Perm (kid S.2.2.2.1 x)) : cB (sn (lyO M S.2.2.2.2)) (lyO M S.2.2.2.2).length = cB (sn S.2.2.2.2) S.2.2.2.2.length := by
  rw [vis_lyO, vL_perm S.2.2.2.2 hp 40 (-1) (kid S.2.2.2.1 0) (kid M 0) (hp 0), ← vis_lyO, lyO_same hI hB]
theorem stp_shift {A : AS} {r v z : Int} {A' : AS} (h : InvT A) (q : SpShift A r v z A') : InvT A' ∧ Stpd A A' := by
  unfold SpShift at q
  dsimp only at q
  rcases q with q | q | q | ⟨q1, q2, q3, M, a, b, q4, q5, q6⟩
  · rw [q.2.2]; exact ⟨h, Stpd.no _⟩
  · rw [q.2.2.2]; exact ⟨h, Stpd.no _⟩
  · rw [q.2.2.2.2]; exact ⟨h, Stpd.no _⟩
  · rw [q6]; exact ⟨h.done h.1, Stpd.done _ _⟩
def topN (S : CS) : Int := cZ (fun m => decide (spRow S (m : Int) 1 = 1)) (rwN S)
theorem shift_fact {A : AS} (hB : AsB A) (hI : InvA A) {r v z : Int} {A' : AS} (h : SpShift A r v z A') (h0 : 0 ≤ r) (h1 : r < rwN A.2.2.2.2) :
    (v = 0 → z = -3 ∧ A' = A) ∧ ((-39 ≤ v ∧ v ≤ 39) ∧ v ≠ 0 → (spRow A.2.2.2.2 r 2 + v < 0 ∨ (if spRow A.2.2.2.2 r 7 < 0 then topN A.2.2.2.2 else spRow A.2.2.2.2 (spRow A.2.2.2.2 r 7) 3) ≤ spRow A.2.2.2.2 r 2 + v → z = -5) ∧ (¬ (spRow A.2.2.2.2 r 2 + v < 0 ∨ (if spRow A.2.2.2.2 r 7 < 0 then topN A.2.2.2.2 else spRow A.2.2.2.2 (spRow A.2.2.2.2 r 7) 3) ≤ spRow A.2.2.2.2 r 2 + v) → z = spRow A.2.2.2.2 r 2 + v ∧ rwN A'.2.2.2.2 = rwN A.2.2.2.2)) ∧ (0 ≤ spRow A.2.2.2.2 r 2 ∧ spRow A.2.2.2.2 r 2 ≤ 120) ∧ (0 ≤ topN A.2.2.2.2 ∧ topN A.2.2.2.2 ≤ 120) ∧ (¬ spRow A.2.2.2.2 r 7 < 0 → 0 ≤ spRow A.2.2.2.2 (spRow A.2.2.2.2 r 7) 3 ∧ spRow A.2.2.2.2 (spRow A.2.2.2.2 r 7) 3 ≤ 120) ∧ (-6 ≤ z ∧ z ≤ 200) := by
  have hP := hB.2.2.1.2.2
  have hS := hI.2.1
  obtain ⟨p, p1, p2, p3, p4⟩ := row_ex h0 h1
  obtain ⟨s0, s1, s2, s3, s4, s5, s6, s7, s8⟩ := sp_row p4
  have hup := snd_up hS hB.2.2.1 h0 h1
  have hkl : ∀ x, (kid A.2.2.2.2.2.2.2.1 x).length ≤ 40 := fun x => by
    rcases Nat.lt_or_ge A.2.2.2.2.1 x with q | q
    · rw [hS.1.out q]; decide
    · exact (hS.1.kb.2 x q).1
  have hpo : spRow A.2.2.2.2 r 2 ≤ 120 := by
    rw [s2]
    have := lfi_le (kid A.2.2.2.2.2.2.2.1 (gN A.2.2.2.2.2.2.2.2 (pPar A.2.2.2.2.2.2.2.2 (p : Int))).toNat) (gN A.2.2.2.2.2.2.2.2 (p : Int)).toNat
    have := hkl (gN A.2.2.2.2.2.2.2.2 (pPar A.2.2.2.2.2.2.2.2 (p : Int))).toNat
    unfold poA
    omega
  have hrw : (cB (sn A.2.2.2.2.2.2.2.2) A.2.2.2.2.2.2.2.2.length : Int) = rwN A.2.2.2.2 := rfl
  have hrl := cB_le (sn A.2.2.2.2.2.2.2.2) A.2.2.2.2.2.2.2.2.length
  have hl := hP.1
  have htop : topN A.2.2.2.2 = ((kid A.2.2.2.2.2.2.2.1 0).length : Int) := by
    unfold topN rwN
    rw [lev_cnt _ (Nat.le_refl _), kids_top hS.1 hS.2]
    congr 1
    refine cB_cong (fun k hk => ?_)
    by_cases e : pv A.2.2.2.2.2.2.2.2 k = 1
    · rw [sn_top hP hk e, Bool.true_and]
      exact decide_eq_decide.mpr (by omega)
    · rw [decide_eq_false (by omega), decide_eq_false e, Bool.and_false]
  have hall : (if spRow A.2.2.2.2 r 7 < 0 then topN A.2.2.2.2 else spRow A.2.2.2.2 (spRow A.2.2.2.2 r 7) 3) = ((kid A.2.2.2.2.2.2.2.1 (gN A.2.2.2.2.2.2.2.2 (pPar A.2.2.2.2.2.2.2.2 (p : Int))).toNat).length : Int) ∧ (¬ spRow A.2.2.2.2 r 7 < 0 → spRow A.2.2.2.2 (spRow A.2.2.2.2 r 7) 3 = ((kid A.2.2.2.2.2.2.2.1 (gN A.2.2.2.2.2.2.2.2 (pPar A.2.2.2.2.2.2.2.2 (p : Int))).toNat).length : Int)) := by
    rw [s7]
    unfold paR
    rcases pPar_at hP hS.wf.1 p1 with ⟨a, b⟩ | ⟨j, a, b, c, d⟩
    · rw [b, if_pos rfl, if_pos (by decide), htop]
      exact ⟨rfl, fun q => absurd (by decide) q⟩
    · have hj := (sn_par hP p1 a c d).mp p2
      rw [b, if_neg (show ¬ ((j : Int) = -1) by omega), rwZ_sn hj.1, if_neg (show ¬ ((cB (sn A.2.2.2.2.2.2.2.2) j : Int) < 0) by omega), (gNVF _ j).1, Int.toNat_natCast]
      have hz : plZ A.2.2.2.2.2.2.2.2 (cB (sn A.2.2.2.2.2.2.2.2) j : Nat) = j := plZ_hit (by omega) hj.1 rfl
      exact ⟨(sp_row hz).2.2.2.1, fun _ => (sp_row hz).2.2.2.1⟩
  rw [hall.1]
  unfold SpShift at h
  dsimp only at h
  rw [p4, ← s2] at h
  have hk0 := hkl 0
  have hkx := hkl (gN A.2.2.2.2.2.2.2.2 (pPar A.2.2.2.2.2.2.2.2 (p : Int))).toNat
  refine ⟨fun hv => ?_, fun hv => ⟨fun hr => ?_, fun hr => ?_⟩, ⟨hup.2.2.2.2.2, hpo⟩, by omega, fun q => by rw [hall.2 q]; omega, ?_⟩
  · rcases h with q | q | q | ⟨q1, q2, q3⟩
    · omega
    · exact q.2.2
    · exact absurd hv q.2.1.2
    · exact absurd hv q2.2
  · rcases h with q | q | q | ⟨q1, q2, q3, -⟩
    · omega
    · exact absurd hv q.2.1
    · exact q.2.2.2.1
    · omega
  · rcases h with q | q | q | ⟨q1, q2, q3, M, a, b, q4, q5, q6⟩
    · omega
    · exact absurd hv q.2.1
    · exact absurd (by omega) q.2.2.1
    · refine ⟨?_, ?_⟩
      · have e1 : spRow A.2.2.2.2 r 2 = (a.length : Int) := by
          rw [s2]
          unfold poA
          rw [q4.1, lfi_at a b _ q4.2.1]
        omega
      · rw [q6]
        have hp : ∀ x, (kid M x).Perm (kid A.2.2.2.2.2.2.2.1 x) := fun x => by
          by_cases e : x = (gN A.2.2.2.2.2.2.2.2 (pPar A.2.2.2.2.2.2.2.2 (p : Int))).toNat
          · rw [e, q4.2.2.2.2.1, q4.1]
            exact shK_perm _ _ _ _
          · rw [q4.2.2.2.2.2.1 x e]
        exact congrArg (fun k : Nat => (k : Int)) (shift_rows hS hB.2.2.1 hp)
  · rcases h with q | q | q | ⟨q1, q2, q3, M, a, b, q4, q5, q6⟩
    · omega
    · omega
    · omega
    · have e1 : spRow A.2.2.2.2 r 2 = (a.length : Int) := by
        rw [s2]
        unfold poA
        rw [q4.1, lfi_at a b _ q4.2.1]
      omega
