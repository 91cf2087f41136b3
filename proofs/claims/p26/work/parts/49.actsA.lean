/-! What add, cloneTo, move and cut do to the tells. -/
def InvT (A : AS) : Prop := TxI A.2.2.2.2 ∧ ∀ S ∈ A.2.1, TxI S
/-- nothing was accepted, or one state was pushed -/
def Stpd (A A' : AS) : Prop := (A'.2.1 = A.2.1 ∧ A'.2.2.2.2 = A.2.2.2.2) ∨ A'.2.1 = hPush A.2.1 A.2.2.2.2
theorem Stpd.no (A : AS) : Stpd A A := Or.inl ⟨rfl, rfl⟩
theorem Stpd.done (A : AS) (S' : CS) : Stpd A (Done A S') := Or.inr rfl
theorem InvT.done {A : AS} (h : InvT A) {S' : CS} (h' : TxI S') : InvT (Done A S') := ⟨h', fun T hT => (hPush_mem hT).elim (fun q => h.2 T q) (fun q => q ▸ h.1)⟩
theorem TxI.same {S : CS} (h : TxI S) (mk : Nat → Nat) (L : List LK) (pl : List PE) : TxI (S.1, S.2.1, mk, L, pl) := h
theorem stp_att {A : AS} {e : Nat} {tx : Nat → List Int} {mk : Nat → Nat} {L : List LK} {y k : Nat} {z : Int} {A' : AS} (h : InvT A) (ht : ∀ pl' M, TxI (e, tx, mk, M, pl')) (q : Att A e tx mk L y k z A') : InvT A' ∧ Stpd A A' := by
  rcases q with ⟨q1, q2, q3⟩ | ⟨q1, q2, q3⟩
  · rw [q3]
    exact ⟨h.done (ht _ _), Stpd.done _ _⟩
  · rw [q3]
    exact ⟨h, Stpd.no _⟩
theorem stp_add {A : AS} {r z : Int} {A' : AS} (h : InvT A) (q : SpAdd A r z A') : InvT A' ∧ Stpd A A' := by
  unfold SpAdd at q
  dsimp only at q
  rcases q with q | q | q | ⟨q1, q2, q3, v, q4, q5⟩
  · rw [q.2.2]; exact ⟨h, Stpd.no _⟩
  · rw [q.2.2.2]; exact ⟨h, Stpd.no _⟩
  · rw [q.2.2.2.2]; exact ⟨h, Stpd.no _⟩
  · refine stp_att h (fun pl' M y h1 h2 => ?_) q4
    show 1 ≤ (fU A.2.2.2.2.2.1 (A.2.2.2.2.1 + 1) A.1 y).length
    by_cases e : y = A.2.2.2.2.1 + 1
    · rw [e, fU_s]; exact q2.1
    · rw [fU_n e]
      have h2' : y ≤ A.2.2.2.2.1 + 1 := h2
      exact h.1 y h1 (by omega)
theorem stp_clone {A : AS} {r u z : Int} {A' : AS} (h : InvT A) (q : SpClone A r u z A') : InvT A' ∧ Stpd A A' := by
  unfold SpClone at q
  dsimp only at q
  rcases q with q | q | q
  · rw [q.2.2]; exact ⟨h, Stpd.no _⟩
  · rw [q.2.2.2]; exact ⟨h, Stpd.no _⟩
  · exact stp_att h (fun _ _ => h.1) q.2.2
theorem stp_move {A : AS} {r u z : Int} {A' : AS} (h : InvT A) (q : SpMove A r u z A') : InvT A' ∧ Stpd A A' := by
  unfold SpMove at q
  dsimp only at q
  rcases q with q | q | q
  · rw [q.2.2]; exact ⟨h, Stpd.no _⟩
  · rw [q.2.2.2]; exact ⟨h, Stpd.no _⟩
  · exact stp_att h (fun _ _ => h.1) q.2.2
theorem stp_cut {A : AS} {r z : Int} {A' : AS} (h : InvT A) (q : SpCut A r z A') : InvT A' ∧ Stpd A A' := by
  unfold SpCut at q
  dsimp only at q
  rcases q with q | q
  · rw [q.2.2]; exact ⟨h, Stpd.no _⟩
  · rw [q.2.2]; exact ⟨h.done h.1, Stpd.done _ _⟩
/-- how often a node stands among skeletons -/
def skC (l : List (Nat × Nat)) (x : Nat) : Nat := ((l.map (·.1)).filter (fun q => decide (q = x))).length
theorem skC_app (a b : List (Nat × Nat)) (x : Nat) : skC (a ++ b) x = skC a x + skC b x := by
  unfold skC
  rw [List.map_append, List.filter_append, List.length_append]
theorem skC_cons (q : Nat × Nat) (a : List (Nat × Nat)) (x : Nat) : skC (q :: a) x = (if q.1 = x then 1 else 0) + skC a x := by
  unfold skC
  rw [List.map_cons, List.filter_cons]
  by_cases e : q.1 = x
  · rw [if_pos (decide_eq_true e), if_pos e, List.length_cons]; omega
  · rw [if_neg (by simpa using e), if_neg e]; omega
theorem sk_one {K : Nat → List Nat} {n lev x : Nat} (hn : 1 ≤ n) (hx : K x = []) : skF K n lev [x] = [(x, lev)] := by
  obtain ⟨m, rfl⟩ : ∃ m, n = m + 1 := ⟨n - 1, by omega⟩
  rw [skF_cons, hx, skF_nil, skF_nil]
  rfl
theorem sk_add {K K' : Nat → List Nat} {p x : Nat} (hK : K' = fU K p (K p ++ [x])) (hx : ∀ u, x ∉ K u) (hxp : x ≠ p) (hKx : K x = []) :
    ∀ (n lev lev' : Nat) (cs : List Nat), (∀ y ∈ cs, 1 ≤ n ∧ Dp K' (n - 1) y) → x ∉ cs → skC (skF K' n lev cs) x = skC (skF K n lev' cs) p
  | 0, _, _, _ => fun _ _ => rfl
  | n + 1, lev, lev', cs => by
    induction cs with
    | nil => intro _ _; rw [skF_nil, skF_nil]; rfl
    | cons y cs ihq =>
      intro hD hc
      have hy : y ≠ x := fun e => hc (by rw [e]; exact List.mem_cons_self)
      have hDy : Dp K' n y := (hD y List.mem_cons_self).2
      rw [skF_cons, skF_cons, skC_cons, skC_cons, skC_app, skC_app, ihq (fun w hw => hD w (List.mem_cons_of_mem _ hw)) (fun q => hc (List.mem_cons_of_mem _ q)), if_neg hy]
      by_cases e : y = p
      · subst e
        have hKy : K' y = K y ++ [x] := by rw [hK, fU_s]
        have hxk : x ∈ K' y := by rw [hKy]; exact List.mem_append_right _ List.mem_cons_self
        have h1 := Dp_kid hDy hxk
        have hKx' : K' x = [] := by rw [hK, fU_n hxp, hKx]
        have h2 := sk_add hK hx hxp hKx n (lev + 1) (lev' + 1) (K y) (fun w hw => Dp_kid hDy (by rw [hKy]; exact List.mem_append_left _ hw)) (hx y)
        rw [hKy, skF_app, skC_app, h2, sk_one h1.1 hKx', skC_cons, if_pos rfl, if_pos rfl]
        show 0 + (_ + (1 + 0) + _) = 1 + (_ + _)
        omega
      · have hKy : K' y = K y := by rw [hK, fU_n e]
        have h2 := sk_add hK hx hxp hKx n (lev + 1) (lev' + 1) (K y) (fun w hw => Dp_kid hDy (by rw [hKy]; exact hw)) (hx y)
        rw [hKy, h2, if_neg e]
theorem pCnt_skC (pl : List PE) (y : Nat) : pCnt pl (y : Int) = (skC (skL pl) y : Nat) := pCnt_sk pl y
/-- the places of a new node: as many as its parent's -/
theorem add_cnt {S : CS} (hI : InvS S) {p : Nat} (hp : p ≤ S.1) (hK : InvK (S.1 + 1) (kid (S.2.2.2.1 ++ [(p, S.1 + 1)]))) (bef : List PE) : pCnt (lyO (S.2.2.2.1 ++ [(p, S.1 + 1)]) bef) ((S.1 + 1 : Nat) : Int) = if p = 0 then 1 else pCnt S.2.2.2.2 (p : Int) := by
  have hks := kid_snoc S.2.2.2.1 p (S.1 + 1)
  have hx : ∀ u, S.1 + 1 ∉ kid S.2.2.2.1 u := fun u q => by have := (hI.1.2.2.2 u _ q).1; omega
  have hKx : kid S.2.2.2.1 (S.1 + 1) = [] := hI.1.out (by omega)
  have hsk : skL (lyO (S.2.2.2.1 ++ [(p, S.1 + 1)]) bef) = skF (kid (S.2.2.2.1 ++ [(p, S.1 + 1)])) 40 1 (kid (S.2.2.2.1 ++ [(p, S.1 + 1)]) 0) := lyF_sk _ _ _ _ _ _
  have hdp := hK.dp
  have hkd : ∀ y ∈ kid S.2.2.2.1 0, 1 ≤ 40 ∧ Dp (kid (S.2.2.2.1 ++ [(p, S.1 + 1)])) (40 - 1) y := fun y hy => Dp_kid hdp (by
    rw [hks]
    by_cases e : 0 = p
    · subst e; rw [fU_s]; exact List.mem_append_left _ hy
    · rw [fU_n e]; exact hy)
  have h1 := sk_add hks hx (by omega) hKx 40 1 1 (kid S.2.2.2.1 0) hkd (hx 0)
  rw [pCnt_skC, hsk]
  by_cases e : p = 0
  · subst e
    have hK0 : kid (S.2.2.2.1 ++ [(0, S.1 + 1)]) 0 = kid S.2.2.2.1 0 ++ [S.1 + 1] := by rw [hks, fU_s]
    have hKx' : kid (S.2.2.2.1 ++ [(0, S.1 + 1)]) (S.1 + 1) = [] := by rw [hks, fU_n (by omega), hKx]
    rw [if_pos rfl, hK0, skF_app, skC_app, h1, sk_one (by decide) hKx', skC_cons, if_pos rfl]
    have h2 : skC (skF (kid S.2.2.2.1) 40 1 (kid S.2.2.2.1 0)) 0 = 0 := by
      unfold skC
      rw [List.filter_eq_nil_iff.mpr]
      · rfl
      · intro q hq
        have := ((hI.1.top q).mp hq).1
        simpa using this
    rw [h2]
    rfl
  · have hK0 : kid (S.2.2.2.1 ++ [(p, S.1 + 1)]) 0 = kid S.2.2.2.1 0 := by rw [hks, fU_n (fun q => e q.symm)]
    rw [if_neg e, hK0, h1, pCnt_skC, hI.2]
theorem plR_eq {pl : List PE} {r : Int} (h : r ≠ -1) : plR pl r = plZ pl r := if_neg h
theorem row_pos {S : CS} {r : Int} (h : plZ S.2.2.2.2 r ≠ -2) : ∃ p : Nat, plZ S.2.2.2.2 r = p ∧ p < S.2.2.2.2.length := by
  have h1 := plZ_ok h
  exact ⟨(plZ S.2.2.2.2 r).toNat, by omega, by omega⟩
theorem fst_new {S : CS} (hI : InvS S) {y w : Nat} (h : (w, y) ∈ S.2.2.2.1) : pFst S.2.2.2.2 (y : Int) ≠ -2 := (alv_lk hI y).mpr ⟨w, h⟩
theorem add_fact {A : AS} (hI : InvA A) {r z : Int} {A' : AS} (h : SpAdd A r z A') (hr : plR A.2.2.2.2.2.2.2.2 r ≠ -2) (ht : 1 ≤ A.1.length ∧ A.1.length ≤ 8) :
    (z = -4 ∧ A' = A) ∨ (z = (A.2.2.2.2.1 : Int) + 1 ∧ A'.2.2.2.2.1 = A.2.2.2.2.1 + 1 ∧ spNod A'.2.2.2.2 z 1 = if r = -1 then 1 else spRow A.2.2.2.2 r 6) := by
  have hI' := (inv_add hI h).2.1
  unfold SpAdd at h
  dsimp only at h
  rcases h with q | q | q | ⟨q1, q2, q3, v, q4, q5⟩
  · exact absurd q.1 hr
  · exact absurd ht q.2.1
  · exact Or.inl ⟨q.2.2.2.1, q.2.2.2.2⟩
  · have hKd := kd_add hI.2.1 q1 q3
    rcases q4 with ⟨a1, a2, a3⟩ | ⟨a1, a2, a3⟩
    · right
      have hv : v ≠ -4 := by
        have := cZ_r (fun k => decide ((pn (lyO (A.2.2.2.2.2.2.2.1 ++ [((gN A.2.2.2.2.2.2.2.2 (plR A.2.2.2.2.2.2.2.2 r)).toNat, A.2.2.2.2.1 + 1)]) A.2.2.2.2.2.2.2.2) k : Int) = ((A.2.2.2.2.1 + 1 : Nat) : Int))) (i := ((lyO (A.2.2.2.2.2.2.2.1 ++ [((gN A.2.2.2.2.2.2.2.2 (plR A.2.2.2.2.2.2.2.2 r)).toNat, A.2.2.2.2.1 + 1)]) A.2.2.2.2.2.2.2.2).length : Int)) (by omega)
        unfold pCnt at a2
        omega
      rw [if_neg hv] at q5
      have hnr := hI.2.1.nr q1
      refine ⟨q5, by rw [a3]; rfl, ?_⟩
      have hz : z = ((A.2.2.2.2.1 + 1 : Nat) : Int) := by omega
      have hf : pFst A'.2.2.2.2.2.2.2.2 ((A.2.2.2.2.1 + 1 : Nat) : Int) ≠ -2 := fst_new hI' (w := (gN A.2.2.2.2.2.2.2.2 (plR A.2.2.2.2.2.2.2.2 r)).toNat) (by rw [a3]; exact List.mem_append_right _ List.mem_cons_self)
      rw [hz, (sp_nod hf).2.1, a3]
      have h2 := add_cnt hI.2.1 hnr.1 hKd A.2.2.2.2.2.2.2.2
      refine h2.trans ?_
      by_cases e : r = -1
      · rw [if_pos e]
        have : plR A.2.2.2.2.2.2.2.2 r = -1 := by rw [e]; rfl
        rw [this]
        rfl
      · rw [if_neg e]
        rw [plR_eq e] at q1 hnr ⊢
        obtain ⟨p, p1, p2⟩ := row_pos q1
        have hnd := hI.2.1.nd (z := (p : Int)) (by omega) (by omega)
        rw [(gNVF _ p).1, Int.toNat_natCast] at hnd
        rw [p1, (gNVF _ p).1, Int.toNat_natCast, if_neg (by omega), (sp_row p1).2.2.2.2.2.2.1]
    · left
      rw [a2, if_pos rfl] at q5
      exact ⟨q5, a3⟩
theorem flt_snoc (L : List LK) (w y : Nat) : ((L ++ [(w, y)]).filter (fun q : LK => decide ((q.2 : Int) = (y : Int)))).length = (L.filter (fun q : LK => decide ((q.2 : Int) = (y : Int)))).length + 1 := by
  rw [List.filter_append, List.length_append, List.filter_cons_of_pos (by simp)]
  rfl
theorem flt_er {L : List LK} {f y : Nat} (h : (f, y) ∈ L) : ((L.erase (f, y)).filter (fun q : LK => decide ((q.2 : Int) = (y : Int)))).length + 1 = (L.filter (fun q : LK => decide ((q.2 : Int) = (y : Int)))).length := by
  obtain ⟨L1, L2, e1, e2, e3⟩ := er_split h
  rw [e3, e1, List.filter_append, List.filter_append, List.filter_cons_of_pos (by simp), List.length_append, List.length_append, List.length_cons]
  omega
theorem clone_fact {A : AS} (hI : InvA A) {r u z : Int} {A' : AS} (h : SpClone A r u z A') (hk : plZ A.2.2.2.2.2.2.2.2 r ≠ -2) (hw : plR A.2.2.2.2.2.2.2.2 u ≠ -2) :
    ((if u = -1 then 0 else spRow A.2.2.2.2 u 0) = spRow A.2.2.2.2 r 0 → z = -5) ∧ (z = -5 ∨ z = -4 ∨ (spNod A'.2.2.2.2 (spRow A.2.2.2.2 r 0) 0 = spNod A.2.2.2.2 (spRow A.2.2.2.2 r 0) 0 + 1 ∧ z = spNod A'.2.2.2.2 (spRow A.2.2.2.2 r 0) 1 ∧ 1 ≤ z)) := by
  have hI' := (inv_clone hI h).2.1
  unfold SpClone at h
  dsimp only at h
  obtain ⟨p, p1, p2⟩ := row_pos hk
  rw [(sp_row p1).1]
  have hgu : (if u = -1 then 0 else spRow A.2.2.2.2 u 0) = gN A.2.2.2.2.2.2.2.2 (plR A.2.2.2.2.2.2.2.2 u) := by
    by_cases e : u = -1
    · rw [if_pos e, e]; rfl
    · rw [if_neg e, plR_eq e]
      rw [plR_eq e] at hw
      obtain ⟨q, q1, q2⟩ := row_pos hw
      rw [(sp_row q1).1, q1, (gNVF _ q).1]
  rw [p1] at h
  rw [hgu]
  have hg := (gNVF A.2.2.2.2.2.2.2.2 p).1
  rcases h with q | q | ⟨q1, q2, q3⟩
  · exact absurd q.1 (fun e => e.elim (fun e => by omega) hw)
  · exact ⟨fun _ => q.2.2.1, Or.inl q.2.2.1⟩
  · refine ⟨fun e => absurd (Or.inl (by rw [hg]; exact e)) q2, ?_⟩
    rcases q3 with ⟨a1, a2, a3⟩ | ⟨a1, a2, a3⟩
    · right; right
      rw [hg, Int.toNat_natCast] at a2 a3
      have hf' : pFst A'.2.2.2.2.2.2.2.2 (pn A.2.2.2.2.2.2.2.2 p : Int) ≠ -2 := fst_new hI' (w := (gN A.2.2.2.2.2.2.2.2 (plR A.2.2.2.2.2.2.2.2 u)).toNat) (by rw [a3]; exact List.mem_append_right _ List.mem_cons_self)
      have hf : pFst A.2.2.2.2.2.2.2.2 (pn A.2.2.2.2.2.2.2.2 p : Int) ≠ -2 := fst_of p2
      have h1 := par_le hI' (pn A.2.2.2.2.2.2.2.2 p)
      have h2 := lk_len _ ((alv_lk hI' _).mp hf')
      rw [(sp_nod hf').1, (sp_nod hf').2.1, (sp_nod hf).1]
      have e1 : A'.2.2.2.2.2.2.2.1 = A.2.2.2.2.2.2.2.1 ++ [((gN A.2.2.2.2.2.2.2.2 (plR A.2.2.2.2.2.2.2.2 u)).toNat, pn A.2.2.2.2.2.2.2.2 p)] := by rw [a3]; rfl
      have e2 : A'.2.2.2.2.2.2.2.2 = lyO (A.2.2.2.2.2.2.2.1 ++ [((gN A.2.2.2.2.2.2.2.2 (plR A.2.2.2.2.2.2.2.2 u)).toNat, pn A.2.2.2.2.2.2.2.2 p)]) A.2.2.2.2.2.2.2.2 := by rw [a3]; rfl
      rw [← e2] at a2
      rw [e1] at h1 h2 ⊢
      rw [flt_snoc] at h1 h2 ⊢
      exact ⟨by omega, a2, by omega⟩
    · exact Or.inr (Or.inl a2)
theorem move_fact {A : AS} (hB : AsB A) (hI : InvA A) {r u z : Int} {A' : AS} (h : SpMove A r u z A') (hk : plZ A.2.2.2.2.2.2.2.2 r ≠ -2) (hw : plR A.2.2.2.2.2.2.2.2 u ≠ -2) :
    ((if u = -1 then 0 else spRow A.2.2.2.2 u 0) = spRow A.2.2.2.2 r 0 → z = -5) ∧ (z = -5 ∨ z = -4 ∨ (spNod A'.2.2.2.2 (spRow A.2.2.2.2 r 0) 0 = spNod A.2.2.2.2 (spRow A.2.2.2.2 r 0) 0 ∧ (∀ t hs t' hs', spCnt t' hs' A'.2.2.2.2 0 = spCnt t hs A.2.2.2.2 0) ∧ z = spNod A'.2.2.2.2 (spRow A.2.2.2.2 r 0) 1 ∧ 1 ≤ z)) := by
  have hIA := inv_move hB hI h
  have hI' := hIA.2.1
  unfold SpMove at h
  dsimp only at h
  obtain ⟨p, p1, p2⟩ := row_pos hk
  rw [(sp_row p1).1]
  have hgu : (if u = -1 then 0 else spRow A.2.2.2.2 u 0) = gN A.2.2.2.2.2.2.2.2 (plR A.2.2.2.2.2.2.2.2 u) := by
    by_cases e : u = -1
    · rw [if_pos e, e]; rfl
    · rw [if_neg e, plR_eq e]
      rw [plR_eq e] at hw
      obtain ⟨q, q1, q2⟩ := row_pos hw
      rw [(sp_row q1).1, q1, (gNVF _ q).1]
  rw [p1] at h
  rw [hgu]
  have hg := (gNVF A.2.2.2.2.2.2.2.2 p).1
  rcases h with q | q | ⟨q1, q2, q3⟩
  · exact absurd q.1 (fun e => e.elim (fun e => by omega) hw)
  · exact ⟨fun _ => q.2.2.1, Or.inl q.2.2.1⟩
  · refine ⟨fun e => absurd (Or.inl (by rw [hg]; exact e)) q2, ?_⟩
    rcases q3 with ⟨a1, a2, a3⟩ | ⟨a1, a2, a3⟩
    · right; right
      rw [hg, Int.toNat_natCast] at a2 a3
      have hlk := hI.2.1.lk hB.2.2.1.2.2 (p : Int) (by omega) (by omega)
      rw [hg, Int.toNat_natCast] at hlk
      have hf' : pFst A'.2.2.2.2.2.2.2.2 (pn A.2.2.2.2.2.2.2.2 p : Int) ≠ -2 := fst_new hI' (w := (gN A.2.2.2.2.2.2.2.2 (plR A.2.2.2.2.2.2.2.2 u)).toNat) (by rw [a3]; exact List.mem_append_right _ List.mem_cons_self)
      have hf : pFst A.2.2.2.2.2.2.2.2 (pn A.2.2.2.2.2.2.2.2 p : Int) ≠ -2 := fst_of p2
      have h1 := par_le hI' (pn A.2.2.2.2.2.2.2.2 p)
      have h2 := lk_len _ ((alv_lk hI' _).mp hf')
      have hlX : lkX A.2.2.2.2 (p : Int) = A.2.2.2.2.2.2.2.1.erase ((gN A.2.2.2.2.2.2.2.2 (pPar A.2.2.2.2.2.2.2.2 p)).toNat, pn A.2.2.2.2.2.2.2.2 p) := by
        unfold lkX
        rw [hg, Int.toNat_natCast]
      have h3 := flt_er hlk
      rw [← hlX] at h3
      rw [(sp_nod hf').1, (sp_nod hf').2.1, (sp_nod hf).1]
      have e1 : A'.2.2.2.2.2.2.2.1 = lkX A.2.2.2.2 (p : Int) ++ [((gN A.2.2.2.2.2.2.2.2 (plR A.2.2.2.2.2.2.2.2 u)).toNat, pn A.2.2.2.2.2.2.2.2 p)] := by rw [a3]; rfl
      have e2 : A'.2.2.2.2.2.2.2.2 = lyO (lkX A.2.2.2.2 (p : Int) ++ [((gN A.2.2.2.2.2.2.2.2 (plR A.2.2.2.2.2.2.2.2 u)).toNat, pn A.2.2.2.2.2.2.2.2 p)]) A.2.2.2.2.2.2.2.2 := by rw [a3]; rfl
      have e3 : A'.2.2.2.2.1 = A.2.2.2.2.1 := by rw [a3]; rfl
      rw [← e2] at a2
      have hB' : StB A'.2.2.2.2 ∨ True := Or.inr trivial
      refine ⟨?_, fun t hs t' hs' => ?_, a2, ?_⟩
      · rw [e1, flt_snoc]
        omega
      · show (popN (nbs (pWit A'.2.2.2.2.2.2.2.2 (-1))) : Int) = (popN (nbs (pWit A.2.2.2.2.2.2.2.2 (-1))) : Int)
        rw [pop_nbs, pop_nbs]
        congr 1
        refine cB_cong (fun k _ => decide_eq_decide.mpr ?_)
        rw [hI'.wall, hI.2.1.wall, ← hI'.al, ← hI.2.1.al]
        have hal : ∀ k : Nat, pFst A'.2.2.2.2.2.2.2.2 (k : Int) ≠ -2 ↔ pFst A.2.2.2.2.2.2.2.2 (k : Int) ≠ -2 := fun k => by
          by_cases e : k = pn A.2.2.2.2.2.2.2.2 p
          · rw [e]; exact ⟨fun _ => hf, fun _ => hf'⟩
          · rw [alv_lk hI', alv_lk hI.2.1, e1, hlX]
            constructor
            · rintro ⟨x, hx⟩
              rcases List.mem_append.mp hx with q | q
              · exact ⟨x, List.mem_of_mem_erase q⟩
              · have := List.mem_singleton.mp q
                exact absurd (congrArg (·.2) this) e
            · rintro ⟨x, hx⟩
              exact ⟨x, List.mem_append_left _ ((List.mem_erase_of_ne (fun q => e (congrArg (·.2) q))).mpr hx)⟩
        exact ⟨fun a => ⟨a.1, a.2.imp id (fun b => (hal k).mp b)⟩, fun a => ⟨a.1, a.2.imp id (fun b => (hal k).mpr b)⟩⟩
      · rw [e1] at h1 h2
        omega
    · exact Or.inr (Or.inl a2)
/-- ways without one pair -/
theorem Rc_del {K K1 : Nat → List Nat} {f x : Nat} (h1 : ∀ u y, y ∈ K u → ¬ (u = f ∧ y = x) → y ∈ K1 u) {a : Nat} : ∀ {n u : Nat}, RcN K a n u → Rc K1 a u ∨ Rc K x u
  | 0, u, h => Or.inl ⟨0, h⟩
  | n + 1, u, ⟨w, hw, hu⟩ => by
    rcases Rc_del h1 hw with q | q
    · by_cases e : w = f ∧ u = x
      · rw [e.2]; exact Or.inr (Rc.rf _ _)
      · exact Or.inl (q.st (h1 w u hu e))
    · exact Or.inr (q.st hu)
theorem Rc_keep {K K1 : Nat → List Nat} {f x : Nat} (h1 : ∀ u y, y ∈ K u → ¬ (u = f ∧ y = x) → y ∈ K1 u) {a : Nat} (hx : Rc K1 a x) : ∀ {n u : Nat}, RcN K a n u → Rc K1 a u
  | 0, u, h => ⟨0, h⟩
  | n + 1, u, ⟨w, hw, hu⟩ => by
    by_cases e : w = f ∧ u = x
    · rw [e.2]; exact hx
    · exact (Rc_keep h1 hx hw).st (h1 w u hu e)
theorem cut_fact {A : AS} (hB : AsB A) (hI : InvA A) {r z : Int} {A' : AS} (h : SpCut A r z A') (hk : plZ A.2.2.2.2.2.2.2.2 r ≠ -2) :
    (1 < spNod A.2.2.2.2 (spRow A.2.2.2.2 r 0) 0 → z = 0 ∧ spNod A'.2.2.2.2 (spRow A.2.2.2.2 r 0) 0 = spNod A.2.2.2.2 (spRow A.2.2.2.2 r 0) 0 - 1) ∧
    (spNod A.2.2.2.2 (spRow A.2.2.2.2 r 0) 0 ≤ 1 → (1 ≤ z ∧ z ≤ 48) ∧ spNod A'.2.2.2.2 (spRow A.2.2.2.2 r 0) 0 = -2 ∧ (∀ t hs t' hs', spCnt t' hs' A'.2.2.2.2 0 = spCnt t hs A.2.2.2.2 0 - z)) := by
  have hIA := inv_cut hB hI h
  have hI' := hIA.2.1
  unfold SpCut at h
  dsimp only at h
  obtain ⟨p, p1, p2⟩ := row_pos hk
  rw [(sp_row p1).1]
  rw [p1] at h
  have hg := (gNVF A.2.2.2.2.2.2.2.2 p).1
  have hP := hB.2.2.1.2.2
  obtain ⟨q1, q2, q3⟩ := h.resolve_left (fun q => by omega)
  clear q1
  have hlk := hI.2.1.lk hP (p : Int) (by omega) (by omega)
  rw [hg, Int.toNat_natCast] at hlk
  have hlX : lkX A.2.2.2.2 (p : Int) = A.2.2.2.2.2.2.2.1.erase ((gN A.2.2.2.2.2.2.2.2 (pPar A.2.2.2.2.2.2.2.2 p)).toNat, pn A.2.2.2.2.2.2.2.2 p) := by
    unfold lkX
    rw [hg, Int.toNat_natCast]
  have h3 := flt_er hlk
  rw [← hlX] at h3
  obtain ⟨-, -, hct, -⟩ := kd_ct hI.2.1 hP (k := (p : Int)) (by omega) (by omega)
  have hf : pFst A.2.2.2.2.2.2.2.2 (pn A.2.2.2.2.2.2.2.2 p : Int) ≠ -2 := fst_of p2
  have hnd := hI.2.1.nd (z := (p : Int)) (by omega) (by omega)
  rw [hg, Int.toNat_natCast] at hnd
  have hd40 := hI.2.1.1.1
  generalize hy : pn A.2.2.2.2.2.2.2.2 p = y at *
  generalize hf0 : (gN A.2.2.2.2.2.2.2.2 (pPar A.2.2.2.2.2.2.2.2 p)).toNat = f at *
  generalize hM : lkX A.2.2.2.2 (p : Int) = M at *
  generalize hQ : lyO M A.2.2.2.2.2.2.2.2 = Q at *
  have e1 : A'.2.2.2.2.2.2.2.1 = M.filter (fun e => decide (e.1 ∈ pWit Q (-1) ++ [0])) := by rw [q3]; rfl
  have e2 : A'.2.2.2.2.2.2.2.2 = Q := by rw [q3]; rfl
  have hsub : ∀ u w, w ∈ kid M u → w ∈ kid A.2.2.2.2.2.2.2.1 u := fun u w hw => kid_mem.mpr (by have := kid_mem.mp hw; rw [hlX] at this; exact List.mem_of_mem_erase this)
  have hdel : ∀ u w, w ∈ kid A.2.2.2.2.2.2.2.1 u → ¬ (u = f ∧ w = y) → w ∈ kid M u := fun u w hw hn => kid_mem.mpr (by
    rw [hlX]
    exact (List.mem_erase_of_ne (fun q => hn ⟨congrArg (·.1) q, congrArg (·.2) q⟩)).mpr (kid_mem.mp hw))
  refine ⟨fun hp => ?_, fun hp => ?_⟩
  · rw [(sp_nod hf).1] at hp
    obtain ⟨⟨w, y'⟩, hq⟩ := List.exists_mem_of_length_pos (l := M.filter (fun q : LK => decide ((q.2 : Int) = (y : Int)))) (by omega)
    obtain ⟨hq1, hq2⟩ := List.mem_filter.mp hq
    have hyy : y' = y := by have := of_decide_eq_true hq2; omega
    subst hyy
    have hyw : y' ∈ kid M w := kid_mem.mpr hq1
    have hyw2 := hsub w y' hyw
    obtain ⟨n, hn⟩ := (hI.2.1.1.2.2.2 w y' hyw2).2
    have hrw : Rc (kid M) 0 w := (Rc_del hdel hn).resolve_right (fun q => hI.2.1.1.2.1.no hyw2 q)
    have hry : Rc (kid M) 0 y' := hrw.st hyw
    have hall : ∀ u, Rc (kid A.2.2.2.2.2.2.2.1) 0 u → Rc (kid M) 0 u := fun u ⟨n, hn⟩ => Rc_keep hdel hry hn
    have hfil : A'.2.2.2.2.2.2.2.1 = M := by
      rw [e1, List.filter_eq_self]
      rintro ⟨a, b⟩ hq
      refine decide_eq_true ?_
      have h5 := hall a (hI.2.1.1.2.2.2 a b (hsub a b (kid_mem.mpr hq))).2
      by_cases e : a = 0
      · rw [e]; exact List.mem_append_right _ List.mem_cons_self
      · exact List.mem_append_left _ ((hct a).mpr ⟨e, h5⟩)
    have hf' : pFst A'.2.2.2.2.2.2.2.2 (y' : Int) ≠ -2 := fst_new hI' (w := w) (by rw [hfil]; exact hq1)
    refine ⟨?_, ?_⟩
    · rw [q2]
      unfold vaN
      rw [cB_zero _ (fun k _ => decide_eq_false (fun q => by
        obtain ⟨a, b⟩ := List.mem_filter.mp q
        have h6 := (hI.2.1.wall k).mp a
        exact absurd ((hct k).mpr ⟨h6.1, hall k h6.2⟩) (of_decide_eq_true b)))]
      rfl
    · rw [(sp_nod hf').1, (sp_nod hf).1, hfil]
      omega
  · rw [(sp_nod hf).1] at hp
    have hno : ∀ u, (u, y) ∉ M := fun u hu => by
      have := List.length_pos_of_mem (List.mem_filter.mpr ⟨hu, (by simp : decide (((u, y) : LK).2 = y) = true)⟩ : (u, y) ∈ M.filter (fun q : LK => decide (q.2 = y)))
      have h9 : M.filter (fun q : LK => decide (q.2 = y)) = M.filter (fun q : LK => decide ((q.2 : Int) = (y : Int))) := List.filter_congr (fun q _ => decide_eq_decide.mpr (by omega))
      rw [h9] at this
      omega
    have hnr : ¬ Rc (kid M) 0 y := by
      rintro ⟨n, hn⟩
      cases n with
      | zero => have : y = 0 := hn; omega
      | succ n =>
        obtain ⟨w, -, hw⟩ := hn
        exact hno w (kid_mem.mp hw)
    have hin : y ∈ pWit A.2.2.2.2.2.2.2.2 (-1) := (hI.2.1.wall y).mpr ⟨by omega, hnd.2.2.1⟩
    have hz : (1 : Int) ≤ vaN A.2.2.2.2.2.2.2.2 Q ∧ vaN A.2.2.2.2.2.2.2.2 Q ≤ 48 := by
      unfold vaN
      have h5 := cB_pos (p := fun k => decide (k ∈ (pWit A.2.2.2.2.2.2.2.2 (-1)).filter (fun x => decide (x ∉ pWit Q (-1))))) (k := y) (n := 48) (by omega) (decide_eq_true (List.mem_filter.mpr ⟨hin, decide_eq_true (fun q => hnr ((hct y).mp q).2)⟩))
      have h6 := cB_le (fun k => decide (k ∈ (pWit A.2.2.2.2.2.2.2.2 (-1)).filter (fun x => decide (x ∉ pWit Q (-1))))) 48
      omega
    refine ⟨by rw [q2]; exact hz, ?_, fun t hs t' hs' => ?_⟩
    · refine sp_nod0 0 ?_
      by_cases q : pFst A'.2.2.2.2.2.2.2.2 (y : Int) = -2
      · exact q
      · obtain ⟨u, hu⟩ := (alv_lk hI' y).mp q
        rw [e1] at hu
        exact absurd (List.mem_filter.mp hu).1 (hno u)
    · show (popN (nbs (pWit A'.2.2.2.2.2.2.2.2 (-1))) : Int) = (popN (nbs (pWit A.2.2.2.2.2.2.2.2 (-1))) : Int) - z
      rw [e2, pop_nbs, pop_nbs, q2]
      unfold vaN
      have h5 := cB_or (r := fun k => decide (k ∈ pWit A.2.2.2.2.2.2.2.2 (-1))) (p := fun k => decide (k ∈ pWit Q (-1))) (q := fun k => decide (k ∈ (pWit A.2.2.2.2.2.2.2.2 (-1)).filter (fun x => decide (x ∉ pWit Q (-1))))) (fun k => by
        have h7 : k ∈ pWit Q (-1) → k ∈ pWit A.2.2.2.2.2.2.2.2 (-1) := fun q => by
          have h8 := (hct k).mp q
          exact (hI.2.1.wall k).mpr ⟨h8.1, Rc.sub hsub h8.2⟩
        by_cases a : k ∈ pWit Q (-1)
        · simp [a, h7 a]
        · simp [a]) (fun k hk => by
        have := of_decide_eq_true hk
        simp [this]) 48
      omega
