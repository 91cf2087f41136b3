/-- what the model's reading holds -/
def RdM (w : Nat → Nat → Int) (made : Int) (s : RS) : Prop := made = (s.2.2.2.1 : Int) ∧ (∀ i, i < 26 → w 11 i = (s.2.1 i : Int)) ∧ (∀ k, 1 ≤ k → k ≤ s.2.2.2.1 → w 12 k = s.2.2.2.2.1 k) ∧ (∀ k, k ≤ s.2.2.2.1 → w 13 k = ((kid s.2.2.2.2.2 k).length : Int) ∧ ∀ j, j < (kid s.2.2.2.2.2 k).length → w 14 (28 * k + j) = ((kid s.2.2.2.2.2 k).getD j 0 : Int)) ∧ ∀ i, i < s.1.length → w 15 i = (s.1.getD i 0 : Int)
theorem RdM.ki {w : Nat → Nat → Int} {made : Int} {op : List Nat} {lt : Nat → Nat} {sg d : Nat} {le : Nat → Int} {L : List LK} {p y : Nat} (h : RdM w made (op, lt, sg, d, le, L)) (hK : InvK d (kid (L ++ [(p, y)]))) (hd : d ≤ 26) (hp : p ≤ d) {i0 i1 : Nat} (qe0q : i0 = 28 * p + (kid L p).length) (qe1q : i1 = p) : RdM (fU (fU w 14 (zU (w 14) i0 (y : Int))) 13 (zU (w 13) i1 (((kid L p).length : Int) + 1))) made (op, lt, sg, d, le, L ++ [(p, y)]) := by
  obtain ⟨h1, h2, h3, h4, h5⟩ := h
  refine ⟨h1, h2, h3, fun k hk => ?_, h5⟩
  dsimp only at h4 hk ⊢
  have h6 := h4 k hk
  have hl : ∀ u, (kid L u).length ≤ 26 := fun u => by
    have qe2q := nd_len (n := d) (hK.2.2.1 u) (fun z hz => (hK.2.2.2 u z hz).1.2)
    rw [kid_app, List.length_append] at qe2q
    omega
  have hlk := hl k
  have hlp := hl p
  rw [fU_s, fU_n (show (14 : Nat) ≠ 13 by omega), fU_s, kid_snoc]
  rw [qe0q, qe1q]
  by_cases q : k = p
  · rw [q] at h6 hlk ⊢
    rw [fU_s, zU_s, List.length_append, List.length_singleton]
    refine ⟨by omega, fun j hj => ?_⟩
    by_cases q2 : j = (kid L p).length
    · rw [q2, zU_s, gd_hi]
    · rw [zU_n (by omega), gd_lo (by omega)]
      exact h6.2 j (by omega)
  · rw [fU_n q, zU_n (by omega)]
    exact ⟨h6.1, fun j hj => by rw [zU_n (by omega)]; exact h6.2 j hj⟩
theorem c_X9_stands (sz : Nat) {h : AH} {m : Nat} {w : Nat → Nat → Int} {u : Nat → Int} (hM : MoW h m w u) {l : List Nat} {p n : Nat} (hp : p ≤ 26) (hl : l.length ≤ 27) (hk : w 13 p = (l.length : Int)) (hj : ∀ j, j < l.length → w 14 (28 * p + j) = (l.getD j 0 : Int)) (hm : ∀ y ∈ l, y ≤ 40) (hn : n ≤ 40) : CC mX9_stands 0 0 0 [.ref m, .int (zI p), .int (zI n)] sz h (QB (n ∈ l) h) := by
  refine CC.intro [some (.ref m), some (.int (zI p)), some (.int (zI n)), none] pfX9_stands rfl rfl ?_
  have hM0 := hM
  unfold MoW at hM
  refine x_iconst dX9_stands_0 ?_
  refine x_istore_n dX9_stands_1 rfl rfl rfl ?_
  refine x_loop (fun _ => h) (fun i : Int => [some (.ref m), some (.int (zI p)), some (.int (zI n)), some (.int (zI i))]) (fun i => 0 ≤ i ∧ i ≤ l.length ∧ n ∉ l.take i.toNat) (fun i => (l.length - i).toNat) 0 rfl rfl ⟨by omega, by omega, by simp⟩ ?_
  rintro i ⟨hi0, hi1, hI⟩ ihq
  have hpre : i < l.length → w 14 (28 * (p : Int) + i).toNat = (l.getD i.toNat 0 : Int) ∧ l.getD i.toNat 0 ≤ 40 ∧ l.getD i.toNat 0 ∈ l := fun q => by
    have q1 := hj i.toNat (by omega)
    have q2 : l.getD i.toNat 0 ∈ l := by
      rw [List.getD_eq_getElem?_getD, List.getElem?_eq_getElem (show i.toNat < l.length by omega)]
      exact List.getElem_mem _
    rw [show (28 * (p : Int) + i).toNat = 28 * p + i.toNat by omega]
    exact ⟨q1, hm _ q2, q2⟩
  refine x_iload_n dX9_stands_2 rfl ?_
  refine x_aload_n dX9_stands_3 rfl ?_
  refine s_get dX9_stands_4 fX9_51 hM rfl ?_
  refine x_iload_n dX9_stands_7 rfl ?_
  refine s_iald dX9_stands_8 hM rfl rfl ⟨by omega, by omega⟩ ?_
  rw [show w 13 ((p : Nat) : Int).toNat = (l.length : Int) from hk]
  refine x_icmp_ge dX9_stands_9 ⟨by omega, by omega⟩ ⟨by omega, by omega⟩ (fun qc9q => ?_) (fun qc9q => ?_)
  · refine x_iconst dX9_stands_35 ?_
    refine x_zreturn dX9_stands_36 rfl (by omega) ?_
    refine ⟨?_, rfl⟩
    rw [List.take_of_length_le (by omega)] at hI
    rw [if_neg hI]
  · obtain ⟨qe1q, qe2q, qe3q⟩ := hpre (by omega)
    refine x_aload_n dX9_stands_12 rfl ?_
    refine s_get dX9_stands_13 fX9_54 hM rfl ?_
    refine x_bipush dX9_stands_16 (by decide) ?_
    refine x_iload_n dX9_stands_18 rfl ?_
    refine x_imul dX9_stands_19 ?_
    refine x_iload_n dX9_stands_20 rfl ?_
    refine x_iadd dX9_stands_21 ?_
    refine s_iald dX9_stands_22 hM rfl rfl ⟨by omega, by omega⟩ ?_
    rw [qe1q]
    refine x_iload_n dX9_stands_23 rfl ?_
    refine x_icmp_ne dX9_stands_24 ⟨by omega, by omega⟩ ⟨by omega, by omega⟩ (fun qc24q => ?_) (fun qc24q => ?_)
    · refine x_iinc dX9_stands_29 rfl rfl rfl ?_
      refine x_goto dX9_stands_32 ?_
      refine ihq (i + 1) ⟨by omega, by omega, fun q => ?_⟩ (by omega)
      rw [take_nx hi0 (by omega)] at q
      rcases List.mem_append.mp q with q | q
      · exact hI q
      · have := List.mem_singleton.mp q
        omega
    · refine x_iconst dX9_stands_27 ?_
      refine x_zreturn dX9_stands_28 rfl (by omega) ?_
      refine ⟨?_, rfl⟩
      rw [if_pos (show n ∈ l by rw [show n = l.getD i.toNat 0 by omega]; exact qe3q)]
theorem c_X9_isOpen (sz : Nat) {h : AH} {m : Nat} {w : Nat → Nat → Int} {u : Nat → Int} (hM : MoW h m w u) {op : List Nat} {n : Nat} (ho : ∀ i, i < op.length → w 15 i = (op.getD i 0 : Int)) (h1 : 1 ≤ op.length) (h2 : op.length ≤ 61) (hm : ∀ i, op.getD i 0 ≤ 40) (hn : n ≤ 40) : CC mX9_isOpen 0 0 0 [.ref m, .int (zI n), .int (zI ((op.length : Int) - 1))] sz h (QB (n ∈ op.tail) h) := by
  refine CC.intro [some (.ref m), some (.int (zI n)), some (.int (zI ((op.length : Int) - 1))), none] pfX9_isOpen rfl rfl ?_
  have hM0 := hM
  unfold MoW at hM
  refine x_iconst dX9_isOpen_0 ?_
  refine x_istore_n dX9_isOpen_1 rfl rfl rfl ?_
  refine x_loop (fun _ => h) (fun i : Int => [some (.ref m), some (.int (zI n)), some (.int (zI ((op.length : Int) - 1))), some (.int (zI i))]) (fun i => 1 ≤ i ∧ i ≤ op.length ∧ ∀ j : Nat, 1 ≤ j → (j : Int) < i → op.getD j 0 ≠ n) (fun i => (op.length - i).toNat) 1 rfl rfl ⟨by omega, by omega, fun j j1 j2 => by omega⟩ ?_
  rintro i ⟨hi0, hi1, hI⟩ ihq
  have hpre : i < op.length → w 15 i.toNat = (op.getD i.toNat 0 : Int) ∧ op.getD i.toNat 0 ≤ 40 := fun q => ⟨ho i.toNat (by omega), hm _⟩
  refine x_iload_n dX9_isOpen_2 rfl ?_
  refine x_iload_n dX9_isOpen_3 rfl ?_
  refine x_icmp_gt dX9_isOpen_4 ⟨by omega, by omega⟩ ⟨by omega, by omega⟩ (fun qc4q => ?_) (fun qc4q => ?_)
  · refine x_iconst dX9_isOpen_25 ?_
    refine x_zreturn dX9_isOpen_26 rfl (by omega) ?_
    refine ⟨?_, rfl⟩
    rw [if_neg (fun q => by
      obtain ⟨j, j1, j2, j3⟩ := mem_tail.mp q
      exact hI j j1 (by omega) j3)]
  · obtain ⟨qe1q, qe2q⟩ := hpre (by omega)
    refine x_aload_n dX9_isOpen_7 rfl ?_
    refine s_get dX9_isOpen_8 fX9_57 hM rfl ?_
    refine x_iload_n dX9_isOpen_11 rfl ?_
    refine s_iald dX9_isOpen_12 hM rfl rfl ⟨by omega, by omega⟩ ?_
    rw [qe1q]
    refine x_iload_n dX9_isOpen_13 rfl ?_
    refine x_icmp_ne dX9_isOpen_14 ⟨by omega, by omega⟩ ⟨by omega, by omega⟩ (fun qc14q => ?_) (fun qc14q => ?_)
    · refine x_iinc dX9_isOpen_19 rfl rfl rfl ?_
      refine x_goto dX9_isOpen_22 ?_
      refine ihq (i + 1) ⟨by omega, by omega, fun j j1 j2 q => ?_⟩ (by omega)
      by_cases q2 : j = i.toNat
      · subst q2
        omega
      · exact hI j j1 (by omega) q
    · refine x_iconst dX9_isOpen_17 ?_
      refine x_zreturn dX9_isOpen_18 rfl (by omega) ?_
      refine ⟨?_, rfl⟩
      rw [if_pos (mem_tail.mpr ⟨i.toNat, by omega, by omega, by omega⟩)]
theorem c_X9_readsFault (sz : Nat) {h : AH} {m : Nat} {w : Nat → Nat → Int} {u : Nat → Int} (hM : MoW h m w u) {t : List Int} (hT : TxR w u t) (hTB : TyB t) : CC mX9_readsFault 1 0 0 [.ref m] sz h (QI (fun z h' => ∃ w' u', ((∃ x, RdBad t x ∧ z = (x : Int)) ∨ (∃ s, RdOk t s ∧ z = -6 ∧ RdM w' (u' 3) s)) ∧ (∀ j, j < 11 → w' j = w j) ∧ (u' 0 = u 0 ∧ u' 1 = u 1 ∧ u' 2 = u 2) ∧ MoW h' m w' u' ∧ Fr h h' m (m + 17))) := by
  refine CC.intro [some (.ref m), none, none, none, none, none, none] pfX9_readsFault rfl rfl ?_
  have hM0 := hM
  unfold MoW at hM
  have hl60 := hTB.1
  refine x_iconst dX9_readsFault_0 ?_
  refine x_istore_n dX9_readsFault_1 rfl rfl rfl ?_
  refine x_loop (fun s : AH × (Nat → Int) × Int => s.1) (fun s => [some (.ref m), some (.int (zI s.2.2)), none, none, none, none, none]) (fun s => 0 ≤ s.2.2 ∧ s.2.2 ≤ 26 ∧ (∀ i : Nat, (i : Int) < s.2.2 → s.2.1 i = 0) ∧ MoW s.1 m (fU w 11 s.2.1) u ∧ Fr h s.1 m (m + 17)) (fun s => (26 - s.2.2).toNat) (h, w 11, 0) rfl rfl ⟨by dsimp only; omega, by dsimp only; omega, fun i hi => by dsimp only at hi; omega, by dsimp only; exact hM0, Fr.rf⟩ ?_
  clear hM hM0
  rintro ⟨h1, r1, k⟩ ⟨hk0, hk1, hz, hM, hG⟩ ihq
  try dsimp only at *
  have hM1 := hM
  unfold MoW at hM
  refine x_iload_n dX9_readsFault_2 rfl ?_
  refine x_bipush dX9_readsFault_3 (by decide) ?_
  refine x_icmp_ge dX9_readsFault_5 ⟨by omega, by omega⟩ ⟨by omega, by omega⟩ (fun qc5q => ?_) (fun qc5q => ?_)
  · refine x_aload_n dX9_readsFault_21 rfl ?_
    refine x_iconst dX9_readsFault_22 ?_
    refine s_puti dX9_readsFault_23 fX9_167 hM rfl (fun h2 hM hF => ?_)
    have hM2 : MoW h2 m (fU w 11 r1) (fU u 3 0) := hM.st
    have hF2 := hM.fr
    have hM : SO h2 h2 m 17 9 (moF m (fU u 3 0)) (moA (fU w 11 r1)) := hM2
    refine x_aload_n dX9_readsFault_26 rfl ?_
    refine s_get dX9_readsFault_27 fX9_51 hM rfl ?_
    refine x_iconst dX9_readsFault_30 ?_
    refine x_iconst dX9_readsFault_31 ?_
    refine s_iast dX9_readsFault_32 hM rfl rfl ⟨by omega, by omega⟩ (fun h3 hM hF => ?_)
    have hM3 : MoW h3 m (fU (fU w 11 r1) 13 (zU (w 13) 0 0)) (fU u 3 0) := hM.st
    have hF3 := hM.fr
    have hM : SO h3 h3 m 17 9 (moF m (fU u 3 0)) (moA (fU (fU w 11 r1) 13 (zU (w 13) 0 0))) := hM3
    refine x_iconst dX9_readsFault_33 ?_
    refine x_istore_n dX9_readsFault_34 rfl rfl rfl ?_
    refine x_aload_n dX9_readsFault_35 rfl ?_
    refine s_get dX9_readsFault_36 fX9_57 hM rfl ?_
    refine x_iconst dX9_readsFault_39 ?_
    refine x_iconst dX9_readsFault_40 ?_
    refine s_iast dX9_readsFault_41 hM rfl rfl ⟨by omega, by omega⟩ (fun h4 hM hF => ?_)
    have hM4 : MoW h4 m (fU (fU (fU w 11 r1) 13 (zU (w 13) 0 0)) 15 (zU (w 15) 0 0)) (fU u 3 0) := hM.st
    have hF4 := hM.fr
    have hG4 := ((hG.tr hF2).tr hF3).tr hF4
    have hw0 : ∀ j, j < 11 → fU (fU (fU w 11 r1) 13 (zU (w 13) 0 0)) 15 (zU (w 15) 0 0) j = w j := fun j hj => by rw [fU_n (by omega), fU_n (by omega), fU_n (by omega)]
    have hR0 : RdM (fU (fU (fU w 11 r1) 13 (zU (w 13) 0 0)) 15 (zU (w 15) 0 0)) (fU u 3 0 3) rd0 := by
      refine ⟨rfl, fun i hi => hz i (by omega), fun i h1 h2 => ?_, fun k hk => ?_, fun i hi => ?_⟩
      · have h3 : i ≤ 0 := h2
        omega
      · have h3 : k ≤ 0 := hk
        have h4 : k = 0 := by omega
        subst h4
        exact ⟨rfl, fun j hj => by simp [rd0, kid_nil] at hj⟩
      · have h3 : i < 1 := hi
        have h4 : i = 0 := by omega
        subst h4
        rfl
    clear ihq
    refine x_iconst dX9_readsFault_42 ?_
    refine x_istore_n dX9_readsFault_43 rfl rfl rfl ?_
    refine x_iconst dX9_readsFault_44 ?_
    refine x_istore_n dX9_readsFault_45 rfl rfl rfl ?_
    refine x_loop (fun s : AH × (Nat → Nat → Int) × (Nat → Int) × RS × Int => s.1) (fun s => [some (.ref m), some (.int (zI ((s.2.2.2.1.1.length : Int) - 1))), some (.int (zI (s.2.2.2.1.2.2.1 : Int))), some (.int (zI s.2.2.2.2)), none, none, none]) (fun s => 0 ≤ s.2.2.2.2 ∧ s.2.2.2.2 ≤ t.length ∧ rdP t s.2.2.2.2.toNat = some s.2.2.2.1 ∧ RdM s.2.1 (s.2.2.1 3) s.2.2.2.1 ∧ (∀ j, j < 11 → s.2.1 j = w j) ∧ (s.2.2.1 0 = u 0 ∧ s.2.2.1 1 = u 1 ∧ s.2.2.1 2 = u 2) ∧ MoW s.1 m s.2.1 s.2.2.1 ∧ Fr h s.1 m (m + 17)) (fun s => (t.length - s.2.2.2.2).toNat) (h4, fU (fU (fU w 11 r1) 13 (zU (w 13) 0 0)) 15 (zU (w 15) 0 0), fU u 3 0, rd0, 0) rfl rfl ⟨by dsimp only; omega, by dsimp only; omega, rfl, hR0, hw0, ⟨rfl, rfl, rfl⟩, hM4, hG4⟩ ?_
    clear hM hM4
    rintro ⟨h1, w1, u1, s, x⟩ ⟨hx0, hx1, hrd, hR, hw1, hu1, hM, hG⟩ ihq
    try dsimp only at *
    have hM1 := hM
    unfold MoW at hM
    have hu2 : u1 2 = (t.length : Int) := hu1.2.2.trans hT.1
    have hB := rdP_B t _ s hrd
    have hI := rdP_I t _ s hrd
    have hop1 : 1 ≤ s.1.length := hB.1.1
    have hop3 := hB.1.2
    have hop2 : s.1.length ≤ 61 := by omega
    have hd26 : s.2.2.2.1 ≤ 26 := hB.2.2.1
    have hsg2 : s.2.2.1 ≤ 2 := hB.2.2.2.2.2.2.1
    have hopm : ∀ i, s.1.getD i 0 ≤ 40 := fun i => by
      by_cases q : i < s.1.length
      · have := hB.2.1 (s.1.getD i 0) (by
          rw [List.getD_eq_getElem?_getD, List.getElem?_eq_getElem q]
          exact List.getElem_mem _)
        omega
      · rw [List.getD_eq_getElem?_getD, List.getElem?_eq_none (by omega)]
        exact Nat.zero_le _
    have htd : rtp s.1 ≤ s.2.2.2.1 := rtp_le hop1 hB.2.1
    have ho1 : w1 15 ((s.1.length : Int) - 1).toNat = ((rtp s.1 : Nat) : Int) := by
      rw [show ((s.1.length : Int) - 1).toNat = s.1.length - 1 by omega]
      exact hR.2.2.2.2 _ (by omega)
    have hlt : (kid s.2.2.2.2.2 (rtp s.1)).length ≤ 27 := by
      have qe2q := nd_len (n := s.2.2.2.1) (hI.1.2.2.1 (rtp s.1)) (fun z hz => (hI.1.2.2.2 _ z hz).1.2)
      omega
    have hlm : ∀ y ∈ kid s.2.2.2.2.2 (rtp s.1), y ≤ 40 := fun y hy => by
      have := (hI.1.2.2.2 _ y hy).1
      omega
    have hch : w1 10 x.toNat = t.getD x.toNat 0 ∨ (t.length : Int) ≤ x := by
      by_cases q : x < t.length
      · left
        rw [hw1 10 (by omega)]
        exact hT.2 _ (by omega)
      · right
        omega
    have hcr := hTB.at x.toNat
    obtain ⟨cc, hcc⟩ : ∃ cc, cc = t.getD x.toNat 0 := ⟨_, rfl⟩
    rw [← hcc] at hch hcr
    refine x_iload_n dX9_readsFault_46 rfl ?_
    refine x_aload_n dX9_readsFault_47 rfl ?_
    refine s_get dX9_readsFault_48 fX9_95 hM rfl ?_
    rw [hu2]
    refine x_icmp_ge dX9_readsFault_51 ⟨by omega, by omega⟩ ⟨by omega, by omega⟩ (fun qc51q => ?_) (fun qc51q => ?_)
    · have hxt : x.toNat = t.length := by omega
      rw [hxt] at hrd
      refine x_iload_n dX9_readsFault_296 rfl ?_
      refine x_if_eq dX9_readsFault_297 ⟨by omega, by omega⟩ (fun qc297q => ?_) (fun qc297q => ?_)
      · refine x_aload_n dX9_readsFault_304 rfl ?_
        refine s_get dX9_readsFault_305 fX9_95 hM rfl ?_
        rw [hu2]
        refine x_goto dX9_readsFault_308 ?_
        refine x_ireturn dX9_readsFault_313 rfl ?_
        first
        | exact ⟨_, rfl, w1, u1, Or.inl ⟨t.length, ⟨s, hrd, Or.inr ⟨rfl, by omega⟩⟩, rfl⟩, hw1, hu1, hM1, hG⟩
        | exact ⟨_, rfl, w1, u1, Or.inr ⟨s, ⟨hrd, by omega, by omega⟩, rfl, hR⟩, hw1, hu1, hM1, hG⟩
      · refine x_iload_n dX9_readsFault_300 rfl ?_
        refine x_if_le dX9_readsFault_301 ⟨by omega, by omega⟩ (fun qc301q => ?_) (fun qc301q => ?_)
        · refine x_bipush dX9_readsFault_311 (by decide) ?_
          refine x_ireturn dX9_readsFault_313 rfl ?_
          first
          | exact ⟨_, rfl, w1, u1, Or.inl ⟨t.length, ⟨s, hrd, Or.inr ⟨rfl, by omega⟩⟩, rfl⟩, hw1, hu1, hM1, hG⟩
          | exact ⟨_, rfl, w1, u1, Or.inr ⟨s, ⟨hrd, by omega, by omega⟩, rfl, hR⟩, hw1, hu1, hM1, hG⟩
        · refine x_aload_n dX9_readsFault_304 rfl ?_
          refine s_get dX9_readsFault_305 fX9_95 hM rfl ?_
          rw [hu2]
          refine x_goto dX9_readsFault_308 ?_
          refine x_ireturn dX9_readsFault_313 rfl ?_
          first
          | exact ⟨_, rfl, w1, u1, Or.inl ⟨t.length, ⟨s, hrd, Or.inr ⟨rfl, by omega⟩⟩, rfl⟩, hw1, hu1, hM1, hG⟩
          | exact ⟨_, rfl, w1, u1, Or.inr ⟨s, ⟨hrd, by omega, by omega⟩, rfl, hR⟩, hw1, hu1, hM1, hG⟩
    · have K290 : ∀ (h5 : AH) (w5 : Nat → Nat → Int) (u5 : Nat → Int) (s' : RS) (dep st : Int), rdS s cc = some s' → dep = (s'.1.length : Int) - 1 → st = (s'.2.2.1 : Int) → RdM w5 (u5 3) s' → (∀ j, j < 11 → w5 j = w j) → (u5 0 = u 0 ∧ u5 1 = u 1 ∧ u5 2 = u 2) → MoW h5 m w5 u5 → Fr h h5 m (m + 17) → XM mX9_readsFault 1 0 0 (QI (fun z h' => ∃ w' u', ((∃ x, RdBad t x ∧ z = (x : Int)) ∨ (∃ s, RdOk t s ∧ z = -6 ∧ RdM w' (u' 3) s)) ∧ (∀ j, j < 11 → w' j = w j) ∧ (u' 0 = u 0 ∧ u' 1 = u 1 ∧ u' 2 = u 2) ∧ MoW h' m w' u' ∧ Fr h h' m (m + 17))) 0 0 sz h5 290 [some (.ref m), some (.int (zI (dep))), some (.int (zI (st))), some (.int (zI (x))), none, none, none] [] := by
        intro h5 w5 u5 s' dep st hs' hdep hst hR' hw' hu' hM' hG'
        subst hdep
        subst hst
        refine x_iinc dX9_readsFault_290 rfl rfl rfl ?_
        refine x_goto dX9_readsFault_293 ?_
        refine ihq (h5, w5, u5, s', x + 1) ⟨by dsimp only; omega, by dsimp only; omega, ?_, hR', hw', hu', hM', hG'⟩ (by dsimp only; omega)
        dsimp only
        rw [show (x + 1).toNat = x.toNat + 1 by omega, rdP_s, hrd]
        rw [hcc] at hs'
        exact hs'
      refine x_aload_n dX9_readsFault_54 rfl ?_
      refine s_get dX9_readsFault_55 fX9_41 hM rfl ?_
      refine x_iload_n dX9_readsFault_58 rfl ?_
      refine s_cald dX9_readsFault_59 hM rfl rfl ⟨by omega, by omega⟩ ?_
      rw [show w1 10 x.toNat = cc by omega]
      refine x_istore dX9_readsFault_60 rfl rfl rfl ?_
      refine x_iload_n dX9_readsFault_62 rfl ?_
      refine x_if_ne dX9_readsFault_63 ⟨by omega, by omega⟩ (fun qc63q => ?_) (fun qc63q => ?_)
      · refine x_iload dX9_readsFault_227 rfl ?_
        refine x_bipush dX9_readsFault_229 (by decide) ?_
        refine x_icmp_ne dX9_readsFault_231 ⟨by omega, by omega⟩ ⟨by omega, by omega⟩ (fun qc231q => ?_) (fun qc231q => ?_)
        · refine x_iload dX9_readsFault_239 rfl ?_
          refine x_bipush dX9_readsFault_241 (by decide) ?_
          refine x_icmp_ne dX9_readsFault_243 ⟨by omega, by omega⟩ ⟨by omega, by omega⟩ (fun qc243q => ?_) (fun qc243q => ?_)
          · refine x_iload dX9_readsFault_269 rfl ?_
            refine x_bipush dX9_readsFault_271 (by decide) ?_
            refine x_icmp_ne dX9_readsFault_273 ⟨by omega, by omega⟩ ⟨by omega, by omega⟩ (fun qc273q => ?_) (fun qc273q => ?_)
            · refine x_iload_n dX9_readsFault_288 rfl ?_
              refine x_ireturn dX9_readsFault_289 rfl ?_
              refine ⟨_, rfl, w1, u1, Or.inl ⟨x.toNat, ⟨s, hrd, Or.inl ⟨by omega, ?_⟩⟩, by omega⟩, hw1, hu1, hM1, hG⟩
              rw [← hcc]
              unfold rdS
              rw [if_neg (by omega), if_neg (by omega), if_neg (by omega), if_neg (by omega)]
            · refine x_iload_n dX9_readsFault_276 rfl ?_
              refine x_if_le dX9_readsFault_277 ⟨by omega, by omega⟩ (fun qc277q => ?_) (fun qc277q => ?_)
              · refine x_iload_n dX9_readsFault_288 rfl ?_
                refine x_ireturn dX9_readsFault_289 rfl ?_
                refine ⟨_, rfl, w1, u1, Or.inl ⟨x.toNat, ⟨s, hrd, Or.inl ⟨by omega, ?_⟩⟩, by omega⟩, hw1, hu1, hM1, hG⟩
                rw [← hcc]
                unfold rdS
                rw [if_neg (by omega), if_neg (by omega), if_neg (by omega), if_neg (by omega)]
              · refine x_iinc dX9_readsFault_280 rfl rfl rfl ?_
                refine x_iconst dX9_readsFault_283 ?_
                refine x_istore_n dX9_readsFault_284 rfl rfl rfl ?_
                refine x_goto dX9_readsFault_285 ?_
                refine x_kill 4 ?_
                first
                | exact K290 h2 _ u1 _ _ _ hs2 (by dsimp only; rw [List.length_append, List.length_singleton]; omega) rfl hR2 (fun j hj => by rw [fU_n (by omega)]; exact hw1 j hj) hu1 hM2 (hG.tr hF2)
                | exact K290 h1 w1 u1 (s.1, s.2.1, 0, s.2.2.2.1, s.2.2.2.2.1, s.2.2.2.2.2) _ _ (by
                    unfold rdS
                    rw [if_neg (by omega), if_pos (by omega)]) rfl rfl hR hw1 hu1 hM1 hG
                | exact K290 h1 w1 u1 (s.1.dropLast, s.2.1, 2, s.2.2.2.1, s.2.2.2.2.1, s.2.2.2.2.2) _ _ (by
                    unfold rdS
                    rw [if_neg (by omega), if_neg (by omega), if_neg (by omega), if_pos ⟨by omega, by omega⟩]) (by dsimp only; rw [List.length_dropLast]; omega) rfl (by
                    obtain ⟨g1, g2, g3, g4, g5⟩ := hR
                    refine ⟨g1, g2, g3, g4, fun i hi => ?_⟩
                    dsimp only at hi ⊢
                    rw [List.length_dropLast] at hi
                    rw [List.getD_eq_getElem?_getD, List.getElem?_dropLast, if_pos hi, ← List.getD_eq_getElem?_getD]
                    exact g5 i (by omega)) hw1 hu1 hM1 hG
          · refine x_iload_n dX9_readsFault_246 rfl ?_
            refine x_iconst dX9_readsFault_247 ?_
            refine x_icmp_ne dX9_readsFault_248 ⟨by omega, by omega⟩ ⟨by omega, by omega⟩ (fun qc248q => ?_) (fun qc248q => ?_)
            · refine x_iload dX9_readsFault_269 rfl ?_
              refine x_bipush dX9_readsFault_271 (by decide) ?_
              refine x_icmp_ne dX9_readsFault_273 ⟨by omega, by omega⟩ ⟨by omega, by omega⟩ (fun qc273q => ?_) (fun qc273q => ?_)
              · refine x_iload_n dX9_readsFault_288 rfl ?_
                refine x_ireturn dX9_readsFault_289 rfl ?_
                refine ⟨_, rfl, w1, u1, Or.inl ⟨x.toNat, ⟨s, hrd, Or.inl ⟨by omega, ?_⟩⟩, by omega⟩, hw1, hu1, hM1, hG⟩
                rw [← hcc]
                unfold rdS
                rw [if_neg (by omega), if_neg (by omega), if_neg (by omega), if_neg (by omega)]
              · refine x_iload_n dX9_readsFault_276 rfl ?_
                refine x_if_le dX9_readsFault_277 ⟨by omega, by omega⟩ (fun qc277q => ?_) (fun qc277q => ?_)
                · refine x_iload_n dX9_readsFault_288 rfl ?_
                  refine x_ireturn dX9_readsFault_289 rfl ?_
                  refine ⟨_, rfl, w1, u1, Or.inl ⟨x.toNat, ⟨s, hrd, Or.inl ⟨by omega, ?_⟩⟩, by omega⟩, hw1, hu1, hM1, hG⟩
                  rw [← hcc]
                  unfold rdS
                  rw [if_neg (by omega), if_neg (by omega), if_neg (by omega), if_neg (by omega)]
                · refine x_iinc dX9_readsFault_280 rfl rfl rfl ?_
                  refine x_iconst dX9_readsFault_283 ?_
                  refine x_istore_n dX9_readsFault_284 rfl rfl rfl ?_
                  refine x_goto dX9_readsFault_285 ?_
                  refine x_kill 4 ?_
                  first
                  | exact K290 h2 _ u1 _ _ _ hs2 (by dsimp only; rw [List.length_append, List.length_singleton]; omega) rfl hR2 (fun j hj => by rw [fU_n (by omega)]; exact hw1 j hj) hu1 hM2 (hG.tr hF2)
                  | exact K290 h1 w1 u1 (s.1, s.2.1, 0, s.2.2.2.1, s.2.2.2.2.1, s.2.2.2.2.2) _ _ (by
                      unfold rdS
                      rw [if_neg (by omega), if_pos (by omega)]) rfl rfl hR hw1 hu1 hM1 hG
                  | exact K290 h1 w1 u1 (s.1.dropLast, s.2.1, 2, s.2.2.2.1, s.2.2.2.2.1, s.2.2.2.2.2) _ _ (by
                      unfold rdS
                      rw [if_neg (by omega), if_neg (by omega), if_neg (by omega), if_pos ⟨by omega, by omega⟩]) (by dsimp only; rw [List.length_dropLast]; omega) rfl (by
                      obtain ⟨g1, g2, g3, g4, g5⟩ := hR
                      refine ⟨g1, g2, g3, g4, fun i hi => ?_⟩
                      dsimp only at hi ⊢
                      rw [List.length_dropLast] at hi
                      rw [List.getD_eq_getElem?_getD, List.getElem?_dropLast, if_pos hi, ← List.getD_eq_getElem?_getD]
                      exact g5 i (by omega)) hw1 hu1 hM1 hG
            · refine x_iinc dX9_readsFault_251 rfl rfl rfl ?_
              refine x_aload_n dX9_readsFault_254 rfl ?_
              refine s_get dX9_readsFault_255 fX9_57 hM rfl ?_
              refine x_iload_n dX9_readsFault_258 rfl ?_
              refine x_aload_n dX9_readsFault_259 rfl ?_
              refine s_get dX9_readsFault_260 fX9_167 hM rfl ?_
              refine s_iast dX9_readsFault_263 hM rfl rfl ⟨by omega, by omega⟩ (fun h2 hM hF => ?_)
              have hM2 : MoW h2 m (fU w1 15 (zU (w1 15) ((s.1.length : Int) - 1 + 1).toNat (u1 3))) u1 := hM.st
              have hF2 := hM.fr
              have hR2 : RdM (fU w1 15 (zU (w1 15) ((s.1.length : Int) - 1 + 1).toNat (u1 3))) (u1 3) (s.1 ++ [s.2.2.2.1], s.2.1, 0, s.2.2.2.1, s.2.2.2.2.1, s.2.2.2.2.2) := by
                obtain ⟨g1, g2, g3, g4, g5⟩ := hR
                refine ⟨g1, g2, g3, g4, fun i hi => ?_⟩
                dsimp only at hi ⊢
                rw [fU_s, show ((s.1.length : Int) - 1 + 1).toNat = s.1.length by omega]
                rw [List.length_append, List.length_singleton] at hi
                by_cases q : i = s.1.length
                · rw [q, zU_s, gd_hi, g1]
                · rw [zU_n q, gd_lo (by omega)]
                  exact g5 i (by omega)
              have hs2 : rdS s cc = some (s.1 ++ [s.2.2.2.1], s.2.1, 0, s.2.2.2.1, s.2.2.2.2.1, s.2.2.2.2.2) := by
                unfold rdS
                rw [if_neg (by omega), if_neg (by omega), if_pos ⟨by omega, by omega⟩]
              refine x_iconst dX9_readsFault_264 ?_
              refine x_istore_n dX9_readsFault_265 rfl rfl rfl ?_
              refine x_goto dX9_readsFault_266 ?_
              refine x_kill 4 ?_
              first
              | exact K290 h2 _ u1 _ _ _ hs2 (by dsimp only; rw [List.length_append, List.length_singleton]; omega) rfl hR2 (fun j hj => by rw [fU_n (by omega)]; exact hw1 j hj) hu1 hM2 (hG.tr hF2)
              | exact K290 h1 w1 u1 (s.1, s.2.1, 0, s.2.2.2.1, s.2.2.2.2.1, s.2.2.2.2.2) _ _ (by
                  unfold rdS
                  rw [if_neg (by omega), if_pos (by omega)]) rfl rfl hR hw1 hu1 hM1 hG
              | exact K290 h1 w1 u1 (s.1.dropLast, s.2.1, 2, s.2.2.2.1, s.2.2.2.2.1, s.2.2.2.2.2) _ _ (by
                  unfold rdS
                  rw [if_neg (by omega), if_neg (by omega), if_neg (by omega), if_pos ⟨by omega, by omega⟩]) (by dsimp only; rw [List.length_dropLast]; omega) rfl (by
                  obtain ⟨g1, g2, g3, g4, g5⟩ := hR
                  refine ⟨g1, g2, g3, g4, fun i hi => ?_⟩
                  dsimp only at hi ⊢
                  rw [List.length_dropLast] at hi
                  rw [List.getD_eq_getElem?_getD, List.getElem?_dropLast, if_pos hi, ← List.getD_eq_getElem?_getD]
                  exact g5 i (by omega)) hw1 hu1 hM1 hG
        · refine x_iconst dX9_readsFault_234 ?_
          refine x_istore_n dX9_readsFault_235 rfl rfl rfl ?_
          refine x_goto dX9_readsFault_236 ?_
          refine x_kill 4 ?_
          first
          | exact K290 h2 _ u1 _ _ _ hs2 (by dsimp only; rw [List.length_append, List.length_singleton]; omega) rfl hR2 (fun j hj => by rw [fU_n (by omega)]; exact hw1 j hj) hu1 hM2 (hG.tr hF2)
          | exact K290 h1 w1 u1 (s.1, s.2.1, 0, s.2.2.2.1, s.2.2.2.2.1, s.2.2.2.2.2) _ _ (by
              unfold rdS
              rw [if_neg (by omega), if_pos (by omega)]) rfl rfl hR hw1 hu1 hM1 hG
          | exact K290 h1 w1 u1 (s.1.dropLast, s.2.1, 2, s.2.2.2.1, s.2.2.2.2.1, s.2.2.2.2.2) _ _ (by
              unfold rdS
              rw [if_neg (by omega), if_neg (by omega), if_neg (by omega), if_pos ⟨by omega, by omega⟩]) (by dsimp only; rw [List.length_dropLast]; omega) rfl (by
              obtain ⟨g1, g2, g3, g4, g5⟩ := hR
              refine ⟨g1, g2, g3, g4, fun i hi => ?_⟩
              dsimp only at hi ⊢
              rw [List.length_dropLast] at hi
              rw [List.getD_eq_getElem?_getD, List.getElem?_dropLast, if_pos hi, ← List.getD_eq_getElem?_getD]
              exact g5 i (by omega)) hw1 hu1 hM1 hG
      · have hsg : s.2.2.1 = 0 := by omega
        refine x_iload dX9_readsFault_66 rfl ?_
        refine x_bipush dX9_readsFault_68 (by decide) ?_
        refine x_bipush dX9_readsFault_70 (by decide) ?_
        refine p_S dX9_readsFault_72 lX9_101 (c_X9_in sz h1 (a := cc) (b := 97) (c := 122) ⟨by omega, by omega⟩ ⟨by omega, by omega⟩ ⟨by omega, by omega⟩) rfl rfl rfl (by decide) ?_
        refine x_ifB_ne dX9_readsFault_75 (fun qc75q => ?_) (fun qc75q => ?_)
        · refine x_aload_n dX9_readsFault_80 rfl ?_
          refine s_get dX9_readsFault_81 fX9_45 hM rfl ?_
          refine x_iload dX9_readsFault_84 rfl ?_
          refine x_bipush dX9_readsFault_86 (by decide) ?_
          refine x_isub dX9_readsFault_88 ?_
          refine s_iald dX9_readsFault_89 hM rfl rfl ⟨by omega, by omega⟩ ?_
          rw [show w1 11 (cc - 97).toNat = ((s.2.1 (cc - 97).toNat : Nat) : Int) from hR.2.1 _ (by omega)]
          have hndd : s.2.1 (cc - 97).toNat ≤ s.2.2.2.1 := hB.2.2.2.1 _ (by omega)
          generalize hnd : s.2.1 (cc - 97).toNat = nd at *
          have K102 : ∀ st : Nat, (nd = 0 ∧ st = 1 ∨ nd ≠ 0 ∧ st = 2) → XM mX9_readsFault 1 0 0 (QI (fun z h' => ∃ w' u', ((∃ x, RdBad t x ∧ z = (x : Int)) ∨ (∃ s, RdOk t s ∧ z = -6 ∧ RdM w' (u' 3) s)) ∧ (∀ j, j < 11 → w' j = w j) ∧ (u' 0 = u 0 ∧ u' 1 = u 1 ∧ u' 2 = u 2) ∧ MoW h' m w' u' ∧ Fr h h' m (m + 17))) 0 0 sz h1 102 [some (.ref m), some (.int (zI ((s.1.length : Int) - 1))), some (.int (zI ((s.2.2.1 : Int)))), some (.int (zI (x))), some (.int (zI (cc))), some (.int (zI ((nd : Int)))), none] [.int (zI (st : Int))] := by
            intro st hst
            have K185 : ∀ (h5 : AH) (w5 : Nat → Nat → Int) (u5 : Nat → Int) (y : Nat) (lt : Nat → Nat) (d : Nat) (le : Nat → Int), rdS s cc = some (s.1, lt, st, d, le, s.2.2.2.2.2 ++ [(rtp s.1, y)]) → RdM w5 (u5 3) (s.1, lt, st, d, le, s.2.2.2.2.2) → rtp s.1 ≤ d → y ≤ d → (∀ j, j < 11 → w5 j = w j) → (u5 0 = u 0 ∧ u5 1 = u 1 ∧ u5 2 = u 2) → MoW h5 m w5 u5 → Fr h h5 m (m + 17) → XM mX9_readsFault 1 0 0 (QI (fun z h' => ∃ w' u', ((∃ x, RdBad t x ∧ z = (x : Int)) ∨ (∃ s, RdOk t s ∧ z = -6 ∧ RdM w' (u' 3) s)) ∧ (∀ j, j < 11 → w' j = w j) ∧ (u' 0 = u 0 ∧ u' 1 = u 1 ∧ u' 2 = u 2) ∧ MoW h' m w' u' ∧ Fr h h' m (m + 17))) 0 0 sz h5 185 [some (.ref m), some (.int (zI ((s.1.length : Int) - 1))), some (.int (zI ((st : Int)))), some (.int (zI (x))), some (.int (zI (cc))), some (.int (zI ((y : Int)))), none] [] := by
              intro h5 w5 u5 y lt d le hs' hR5 htd hyd hw5 hu5 hM5 hG5
              have hI5 := RdI.step hB hI hs'
              have hB5 := RdB.step hB hs'
              have hd26 : d ≤ 26 := hB5.2.2.1
              have hK5 : InvK d (kid (s.2.2.2.2.2 ++ [(rtp s.1, y)])) := hI5.1
              have hl5 : (kid s.2.2.2.2.2 (rtp s.1)).length < 26 := by
                have qe2q := nd_len (n := d) (hK5.2.2.1 (rtp s.1)) (fun z hz => (hK5.2.2.2 _ z hz).1.2)
                rw [kid_snoc, fU_s, List.length_append, List.length_singleton] at qe2q
                omega
              have ho5 : w5 15 ((s.1.length : Int) - 1).toNat = ((rtp s.1 : Nat) : Int) := by
                rw [show ((s.1.length : Int) - 1).toNat = s.1.length - 1 by omega]
                exact hR5.2.2.2.2 _ (by dsimp only; omega)
              have hk5 : w5 13 ((rtp s.1 : Nat) : Int).toNat = ((kid s.2.2.2.2.2 (rtp s.1)).length : Int) := (hR5.2.2.2.1 _ htd).1
              clear hM
              have hM : SO h5 h5 m 17 9 (moF m u5) (moA w5) := hM5
              refine x_aload_n dX9_readsFault_185 rfl ?_
              refine s_get dX9_readsFault_186 fX9_57 hM rfl ?_
              refine x_iload_n dX9_readsFault_189 rfl ?_
              refine s_iald dX9_readsFault_190 hM rfl rfl ⟨by omega, by omega⟩ ?_
              rw [ho5]
              refine x_istore dX9_readsFault_191 rfl rfl rfl ?_
              refine x_aload_n dX9_readsFault_193 rfl ?_
              refine s_get dX9_readsFault_194 fX9_54 hM rfl ?_
              refine x_bipush dX9_readsFault_197 (by decide) ?_
              refine x_iload dX9_readsFault_199 rfl ?_
              refine x_imul dX9_readsFault_201 ?_
              refine x_aload_n dX9_readsFault_202 rfl ?_
              refine s_get dX9_readsFault_203 fX9_51 hM rfl ?_
              refine x_iload dX9_readsFault_206 rfl ?_
              refine s_iald dX9_readsFault_208 hM rfl rfl ⟨by omega, by omega⟩ ?_
              rw [hk5]
              refine x_iadd dX9_readsFault_209 ?_
              refine x_iload dX9_readsFault_210 rfl ?_
              refine s_iast dX9_readsFault_212 hM rfl rfl ⟨by omega, by omega⟩ (fun h6 hM hF => ?_)
              have hM6 : MoW h6 m (fU w5 14 (zU (w5 14) (28 * ((rtp s.1 : Nat) : Int) + ((kid s.2.2.2.2.2 (rtp s.1)).length : Int)).toNat (y : Int))) u5 := hM.st
              have hF6 := hM.fr
              have hM : SO h6 h6 m 17 9 (moF m u5) (moA (fU w5 14 (zU (w5 14) (28 * ((rtp s.1 : Nat) : Int) + ((kid s.2.2.2.2.2 (rtp s.1)).length : Int)).toNat (y : Int)))) := hM6
              refine x_aload_n dX9_readsFault_213 rfl ?_
              refine s_get dX9_readsFault_214 fX9_51 hM rfl ?_
              refine x_iload dX9_readsFault_217 rfl ?_
              refine x_dup2 dX9_readsFault_219 rfl rfl ?_
              refine s_iald dX9_readsFault_220 hM rfl rfl ⟨by omega, by omega⟩ ?_
              rw [show fU w5 14 (zU (w5 14) (28 * ((rtp s.1 : Nat) : Int) + ((kid s.2.2.2.2.2 (rtp s.1)).length : Int)).toNat (y : Int)) 13 ((rtp s.1 : Nat) : Int).toNat = ((kid s.2.2.2.2.2 (rtp s.1)).length : Int) from hk5]
              refine x_iconst dX9_readsFault_221 ?_
              refine x_iadd dX9_readsFault_222 ?_
              refine s_iast dX9_readsFault_223 hM rfl rfl ⟨by omega, by omega⟩ (fun h7 hM hF => ?_)
              have hM7 : MoW h7 m (fU (fU w5 14 (zU (w5 14) (28 * ((rtp s.1 : Nat) : Int) + ((kid s.2.2.2.2.2 (rtp s.1)).length : Int)).toNat (y : Int))) 13 (zU (w5 13) ((rtp s.1 : Nat) : Int).toNat (((kid s.2.2.2.2.2 (rtp s.1)).length : Int) + 1))) u5 := hM.st
              have hF7 := hM.fr
              have hR7 := hR5.ki hK5 hd26 htd (y := y) (i0 := (28 * ((rtp s.1 : Nat) : Int) + ((kid s.2.2.2.2.2 (rtp s.1)).length : Int)).toNat) (i1 := ((rtp s.1 : Nat) : Int).toNat) (by omega) rfl
              refine x_goto dX9_readsFault_224 ?_
              refine x_kill 4 (x_kill 5 (x_kill 6 ?_))
              refine K290 h7 _ u5 _ _ _ hs' rfl rfl hR7 (fun j hj => ?_) hu5 hM7 ((hG5.tr hF6).tr hF7)
              rw [fU_n (by omega), fU_n (by omega)]
              exact hw5 j hj
            have K135 : (nd = 0 ∨ (nd ≠ 0 ∧ nd ∉ s.1.tail ∧ nd ∉ kid s.2.2.2.2.2 (rtp s.1))) → XM mX9_readsFault 1 0 0 (QI (fun z h' => ∃ w' u', ((∃ x, RdBad t x ∧ z = (x : Int)) ∨ (∃ s, RdOk t s ∧ z = -6 ∧ RdM w' (u' 3) s)) ∧ (∀ j, j < 11 → w' j = w j) ∧ (u' 0 = u 0 ∧ u' 1 = u 1 ∧ u' 2 = u 2) ∧ MoW h' m w' u' ∧ Fr h h' m (m + 17))) 0 0 sz h1 135 [some (.ref m), some (.int (zI ((s.1.length : Int) - 1))), some (.int (zI ((st : Int)))), some (.int (zI (x))), some (.int (zI (cc))), some (.int (zI ((nd : Int)))), none] [] := by
              intro hcase
              refine x_iload dX9_readsFault_135 rfl ?_
              refine x_if_ne dX9_readsFault_137 ⟨by omega, by omega⟩ (fun qc137q => ?_) (fun qc137q => ?_)
              · first
                | exact K185 h1 w1 u1 nd s.2.1 s.2.2.2.1 s.2.2.2.2.1 (by
                    unfold rdS
                    rw [if_pos hsg, if_pos ⟨by omega, by omega⟩, if_neg (by rw [hnd]; omega), if_neg (by
                      rw [hnd]
                      rintro (q | q)
                      · exact (hcase.resolve_left (by omega)).2.1 q
                      · exact (hcase.resolve_left (by omega)).2.2 (kid_mem.mpr q)), hnd, show st = 2 by omega]) hR htd hndd hw1 hu1 hM1 hG
                | exact K185 h8 (fU (fU (fU w1 11 (zU (w1 11) (cc - 97).toNat ((s.2.2.2.1 + 1 : Nat) : Int))) 12 (zU (w1 12) ((s.2.2.2.1 + 1 : Nat) : Int).toNat cc)) 13 (zU (w1 13) ((s.2.2.2.1 + 1 : Nat) : Int).toNat 0)) (fU u1 3 ((s.2.2.2.1 + 1 : Nat) : Int)) (s.2.2.2.1 + 1) _ _ _ hs8 hR8 (by omega) (by omega) (fun j hj => by rw [fU_n (by omega), fU_n (by omega), fU_n (by omega)]; exact hw1 j hj) hu1 hM8 ((((hG.tr hF2).tr hF3).tr hF4).tr hF8)
              · refine x_aload_n dX9_readsFault_140 rfl ?_
                have hnd0 : nd = 0 := by omega
                have hst1 : st = 1 := by omega
                have hd25 : s.2.2.2.1 < 26 := hB.room (i := (cc - 97).toNat) (by omega) (hnd.trans hnd0)
                refine x_dup dX9_readsFault_141 rfl ?_
                refine s_get dX9_readsFault_142 fX9_167 hM rfl ?_
                refine x_iconst dX9_readsFault_145 ?_
                refine x_iadd dX9_readsFault_146 ?_
                rw [show u1 3 + 1 = ((s.2.2.2.1 + 1 : Nat) : Int) by rw [hR.1]; omega]
                refine s_puti dX9_readsFault_147 fX9_167 hM rfl (fun h2 hM hF => ?_)
                have hM2 : MoW h2 m w1 (fU u1 3 ((s.2.2.2.1 + 1 : Nat) : Int)) := hM.st
                have hF2 := hM.fr
                have hM : SO h2 h2 m 17 9 (moF m (fU u1 3 ((s.2.2.2.1 + 1 : Nat) : Int))) (moA w1) := hM2
                refine x_aload_n dX9_readsFault_150 rfl ?_
                refine s_get dX9_readsFault_151 fX9_167 hM rfl ?_
                rw [show fU u1 3 ((s.2.2.2.1 + 1 : Nat) : Int) 3 = ((s.2.2.2.1 + 1 : Nat) : Int) from rfl]
                refine x_istore dX9_readsFault_154 rfl rfl rfl ?_
                refine x_aload_n dX9_readsFault_156 rfl ?_
                refine s_get dX9_readsFault_157 fX9_45 hM rfl ?_
                refine x_iload dX9_readsFault_160 rfl ?_
                refine x_bipush dX9_readsFault_162 (by decide) ?_
                refine x_isub dX9_readsFault_164 ?_
                refine x_iload dX9_readsFault_165 rfl ?_
                refine s_iast dX9_readsFault_167 hM rfl rfl ⟨by omega, by omega⟩ (fun h3 hM hF => ?_)
                have hM3 : MoW h3 m (fU w1 11 (zU (w1 11) (cc - 97).toNat ((s.2.2.2.1 + 1 : Nat) : Int))) (fU u1 3 ((s.2.2.2.1 + 1 : Nat) : Int)) := hM.st
                have hF3 := hM.fr
                have hM : SO h3 h3 m 17 9 (moF m (fU u1 3 ((s.2.2.2.1 + 1 : Nat) : Int))) (moA (fU w1 11 (zU (w1 11) (cc - 97).toNat ((s.2.2.2.1 + 1 : Nat) : Int)))) := hM3
                refine x_aload_n dX9_readsFault_168 rfl ?_
                refine s_get dX9_readsFault_169 fX9_48 hM rfl ?_
                refine x_iload dX9_readsFault_172 rfl ?_
                refine x_iload dX9_readsFault_174 rfl ?_
                refine s_iast dX9_readsFault_176 hM rfl rfl ⟨by omega, by omega⟩ (fun h4 hM hF => ?_)
                have hM4 : MoW h4 m (fU (fU w1 11 (zU (w1 11) (cc - 97).toNat ((s.2.2.2.1 + 1 : Nat) : Int))) 12 (zU (w1 12) ((s.2.2.2.1 + 1 : Nat) : Int).toNat cc)) (fU u1 3 ((s.2.2.2.1 + 1 : Nat) : Int)) := hM.st
                have hF4 := hM.fr
                have hM : SO h4 h4 m 17 9 (moF m (fU u1 3 ((s.2.2.2.1 + 1 : Nat) : Int))) (moA (fU (fU w1 11 (zU (w1 11) (cc - 97).toNat ((s.2.2.2.1 + 1 : Nat) : Int))) 12 (zU (w1 12) ((s.2.2.2.1 + 1 : Nat) : Int).toNat cc))) := hM4
                refine x_aload_n dX9_readsFault_177 rfl ?_
                refine s_get dX9_readsFault_178 fX9_51 hM rfl ?_
                refine x_iload dX9_readsFault_181 rfl ?_
                refine x_iconst dX9_readsFault_183 ?_
                refine s_iast dX9_readsFault_184 hM rfl rfl ⟨by omega, by omega⟩ (fun h8 hM hF => ?_)
                have hM8 : MoW h8 m (fU (fU (fU w1 11 (zU (w1 11) (cc - 97).toNat ((s.2.2.2.1 + 1 : Nat) : Int))) 12 (zU (w1 12) ((s.2.2.2.1 + 1 : Nat) : Int).toNat cc)) 13 (zU (w1 13) ((s.2.2.2.1 + 1 : Nat) : Int).toNat 0)) (fU u1 3 ((s.2.2.2.1 + 1 : Nat) : Int)) := hM.st
                have hF8 := hM.fr
                have hno : kid s.2.2.2.2.2 (s.2.2.2.1 + 1) = [] := hI.1.out (by omega)
                have hR8 : RdM (fU (fU (fU w1 11 (zU (w1 11) (cc - 97).toNat ((s.2.2.2.1 + 1 : Nat) : Int))) 12 (zU (w1 12) ((s.2.2.2.1 + 1 : Nat) : Int).toNat cc)) 13 (zU (w1 13) ((s.2.2.2.1 + 1 : Nat) : Int).toNat 0)) ((s.2.2.2.1 + 1 : Nat) : Int) (s.1, fU s.2.1 (cc - 97).toNat (s.2.2.2.1 + 1), st, s.2.2.2.1 + 1, fU s.2.2.2.2.1 (s.2.2.2.1 + 1) cc, s.2.2.2.2.2) := by
                  obtain ⟨g1, g2, g3, g4, g5⟩ := hR
                  refine ⟨rfl, fun i hi => ?_, fun k hk1 hk2 => ?_, fun k hk => ?_, fun i hi => g5 i hi⟩
                  · show zU (w1 11) (cc - 97).toNat ((s.2.2.2.1 + 1 : Nat) : Int) i = ((fU s.2.1 (cc - 97).toNat (s.2.2.2.1 + 1) i : Nat) : Int)
                    by_cases q : i = (cc - 97).toNat
                    · rw [q, zU_s, fU_s]
                    · rw [zU_n q, fU_n q]
                      exact g2 i hi
                  · show zU (w1 12) ((s.2.2.2.1 + 1 : Nat) : Int).toNat cc k = fU s.2.2.2.2.1 (s.2.2.2.1 + 1) cc k
                    rw [Int.toNat_natCast]
                    by_cases q : k = s.2.2.2.1 + 1
                    · rw [q, zU_s, fU_s]
                    · rw [zU_n q, fU_n q]
                      dsimp only at hk2
                      exact g3 k hk1 (by omega)
                  · show zU (w1 13) ((s.2.2.2.1 + 1 : Nat) : Int).toNat 0 k = ((kid s.2.2.2.2.2 k).length : Int) ∧ ∀ j, j < (kid s.2.2.2.2.2 k).length → w1 14 (28 * k + j) = ((kid s.2.2.2.2.2 k).getD j 0 : Int)
                    rw [Int.toNat_natCast]
                    by_cases q : k = s.2.2.2.1 + 1
                    · rw [q, zU_s, hno]
                      exact ⟨rfl, fun j hj => by simp at hj⟩
                    · rw [zU_n q]
                      dsimp only at hk
                      exact g4 k (by omega)
                have hs8 : rdS s cc = some (s.1, fU s.2.1 (cc - 97).toNat (s.2.2.2.1 + 1), st, s.2.2.2.1 + 1, fU s.2.2.2.2.1 (s.2.2.2.1 + 1) cc, s.2.2.2.2.2 ++ [(rtp s.1, s.2.2.2.1 + 1)]) := by
                  unfold rdS
                  rw [if_pos hsg, if_pos ⟨by omega, by omega⟩, if_pos (hnd.trans hnd0), hst1]
                first
                | exact K185 h1 w1 u1 nd s.2.1 s.2.2.2.1 s.2.2.2.2.1 (by
                    unfold rdS
                    rw [if_pos hsg, if_pos ⟨by omega, by omega⟩, if_neg (by rw [hnd]; omega), if_neg (by
                      rw [hnd]
                      rintro (q | q)
                      · exact (hcase.resolve_left (by omega)).2.1 q
                      · exact (hcase.resolve_left (by omega)).2.2 (kid_mem.mpr q)), hnd, show st = 2 by omega]) hR htd hndd hw1 hu1 hM1 hG
                | exact K185 h8 (fU (fU (fU w1 11 (zU (w1 11) (cc - 97).toNat ((s.2.2.2.1 + 1 : Nat) : Int))) 12 (zU (w1 12) ((s.2.2.2.1 + 1 : Nat) : Int).toNat cc)) 13 (zU (w1 13) ((s.2.2.2.1 + 1 : Nat) : Int).toNat 0)) (fU u1 3 ((s.2.2.2.1 + 1 : Nat) : Int)) (s.2.2.2.1 + 1) _ _ _ hs8 hR8 (by omega) (by omega) (fun j hj => by rw [fU_n (by omega), fU_n (by omega), fU_n (by omega)]; exact hw1 j hj) hu1 hM8 ((((hG.tr hF2).tr hF3).tr hF4).tr hF8)
            refine x_istore_n dX9_readsFault_102 rfl rfl rfl ?_
            refine x_iload dX9_readsFault_103 rfl ?_
            refine x_if_le dX9_readsFault_105 ⟨by omega, by omega⟩ (fun qc105q => ?_) (fun qc105q => ?_)
            · first | exact K135 (Or.inl (by omega)) | exact K135 (Or.inr ⟨by omega, qc115q, qc130q⟩)
            · refine x_aload_n dX9_readsFault_108 rfl ?_
              refine x_iload dX9_readsFault_109 rfl ?_
              refine x_iload_n dX9_readsFault_111 rfl ?_
              refine p_V dX9_readsFault_112 lX9_170 (c_X9_isOpen sz hM1 hR.2.2.2.2 hop1 hop2 hopm (n := nd) (by omega)) hM.1 rfl rfl rfl rfl (by decide) ?_
              refine x_ifB_ne dX9_readsFault_115 (fun qc115q => ?_) (fun qc115q => ?_)
              · refine x_iload_n dX9_readsFault_133 rfl ?_
                refine x_ireturn dX9_readsFault_134 rfl ?_
                refine ⟨_, rfl, w1, u1, Or.inl ⟨x.toNat, ⟨s, hrd, Or.inl ⟨by omega, ?_⟩⟩, by omega⟩, hw1, hu1, hM1, hG⟩
                rw [← hcc]
                unfold rdS
                rw [if_pos hsg, if_pos ⟨by omega, by omega⟩, if_neg (by rw [hnd]; omega)]
                first | (rw [if_pos (Or.inl (by rw [hnd]; exact qc115q))]) | (rw [if_pos (Or.inr (by rw [hnd]; exact kid_mem.mp qc130q))])
              · refine x_aload_n dX9_readsFault_118 rfl ?_
                refine x_aload_n dX9_readsFault_119 rfl ?_
                refine s_get dX9_readsFault_120 fX9_57 hM rfl ?_
                refine x_iload_n dX9_readsFault_123 rfl ?_
                refine s_iald dX9_readsFault_124 hM rfl rfl ⟨by omega, by omega⟩ ?_
                rw [ho1]
                refine x_iload dX9_readsFault_125 rfl ?_
                refine p_V dX9_readsFault_127 lX9_173 (c_X9_stands sz hM1 (l := kid s.2.2.2.2.2 (rtp s.1)) (p := rtp s.1) (n := nd) (by omega) hlt (hR.2.2.2.1 _ htd).1 (hR.2.2.2.1 _ htd).2 hlm (by omega)) hM.1 rfl rfl rfl rfl (by decide) ?_
                refine x_ifB_eq dX9_readsFault_130 (fun qc130q => ?_) (fun qc130q => ?_)
                · first | exact K135 (Or.inl (by omega)) | exact K135 (Or.inr ⟨by omega, qc115q, qc130q⟩)
                · refine x_iload_n dX9_readsFault_133 rfl ?_
                  refine x_ireturn dX9_readsFault_134 rfl ?_
                  refine ⟨_, rfl, w1, u1, Or.inl ⟨x.toNat, ⟨s, hrd, Or.inl ⟨by omega, ?_⟩⟩, by omega⟩, hw1, hu1, hM1, hG⟩
                  rw [← hcc]
                  unfold rdS
                  rw [if_pos hsg, if_pos ⟨by omega, by omega⟩, if_neg (by rw [hnd]; omega)]
                  first | (rw [if_pos (Or.inl (by rw [hnd]; exact qc115q))]) | (rw [if_pos (Or.inr (by rw [hnd]; exact kid_mem.mp qc130q))])
          refine x_istore dX9_readsFault_90 rfl rfl rfl ?_
          refine x_iload dX9_readsFault_92 rfl ?_
          refine x_if_ne dX9_readsFault_94 ⟨by omega, by omega⟩ (fun qc94q => ?_) (fun qc94q => ?_)
          · refine x_iconst dX9_readsFault_101 ?_
            first | exact K102 1 (Or.inl ⟨by omega, rfl⟩) | exact K102 2 (Or.inr ⟨by omega, rfl⟩)
          · refine x_iconst dX9_readsFault_97 ?_
            refine x_goto dX9_readsFault_98 ?_
            first | exact K102 1 (Or.inl ⟨by omega, rfl⟩) | exact K102 2 (Or.inr ⟨by omega, rfl⟩)
        · refine x_iload_n dX9_readsFault_78 rfl ?_
          refine x_ireturn dX9_readsFault_79 rfl ?_
          refine ⟨_, rfl, w1, u1, Or.inl ⟨x.toNat, ⟨s, hrd, Or.inl ⟨by omega, ?_⟩⟩, by omega⟩, hw1, hu1, hM1, hG⟩
          rw [← hcc]
          unfold rdS
          rw [if_pos hsg, if_neg (by omega)]
  · refine x_aload_n dX9_readsFault_8 rfl ?_
    refine s_get dX9_readsFault_9 fX9_45 hM rfl ?_
    refine x_iload_n dX9_readsFault_12 rfl ?_
    refine x_iconst dX9_readsFault_13 ?_
    refine s_iast dX9_readsFault_14 hM rfl rfl ⟨by omega, by omega⟩ (fun h2 hM hF => ?_)
    have hM2 : MoW h2 m (fU w 11 (zU r1 k.toNat 0)) u := hM.st
    have hF2 := hM.fr
    refine x_iinc dX9_readsFault_15 rfl rfl rfl ?_
    refine x_goto dX9_readsFault_18 ?_
    refine ihq (h2, zU r1 k.toNat 0, k + 1) ⟨by dsimp only; omega, by dsimp only; omega, fun i hi => ?_, hM2, hG.tr hF2⟩ (by dsimp only; omega)
    dsimp only at hi ⊢
    by_cases q : i = k.toNat
    · rw [q, zU_s]
    · rw [zU_n q]
      exact hz i (by omega)
