/-! changes: shift, mark, edit, fold, foldLevel, show. -/
theorem shift_no {A : AS} {r v z : Int} {A' : AS} (h : SpShift A r v z A') (hr : plZ A.2.2.2.2.2.2.2.2 r = -2) : z = -2 ∧ A' = A := by
  unfold SpShift at h
  dsimp only at h
  rcases h with q | q | q | q
  · exact q.2
  · exact absurd hr q.1
  · exact absurd hr q.1
  · exact absurd hr q.1
theorem shift_bad {A : AS} {r v z : Int} {A' : AS} (h : SpShift A r v z A') (hr : plZ A.2.2.2.2.2.2.2.2 r ≠ -2) (hv : 39 < v) : z = -3 ∧ A' = A := by
  unfold SpShift at h
  dsimp only at h
  rcases h with q | q | q | q
  · exact absurd q.1 hr
  · exact q.2.2
  · exact absurd q.2.1.1.2 (by omega)
  · exact absurd q.2.1.1.2 (by omega)
theorem mark_no {A : AS} {r v z : Int} {A' : AS} (h : SpMark A r v z A') (hr : plZ A.2.2.2.2.2.2.2.2 r = -2) : z = -2 ∧ A' = A := by
  unfold SpMark at h
  dsimp only at h
  rcases h with q | q | q
  · exact q.2
  · exact absurd hr q.1
  · exact absurd hr q.1
theorem fold_no {A : AS} {r f z : Int} {A' : AS} (h : SpFold A r f z A') (hr : plZ A.2.2.2.2.2.2.2.2 r = -2) : z = -2 ∧ A' = A := by
  unfold SpFold at h
  dsimp only at h
  rcases h with q | q | q | q
  · exact q.2
  · exact absurd hr q.1
  · exact absurd hr q.1
  · exact absurd hr q.1
theorem edit_no {A : AS} {r z : Int} {A' : AS} (h : SpEdit A r z A') (hr : plZ A.2.2.2.2.2.2.2.2 r = -2) : z = -2 ∧ A' = A := by
  unfold SpEdit at h
  dsimp only at h
  rcases h with q | q | q | q
  · exact q.2
  · exact absurd hr q.1
  · exact absurd hr q.1
  · exact absurd hr q.1
theorem nod5_r {S : CS} (hI : InvS S) (hB : StB S) {z : Int} (hz : 0 ≤ z) : -6 ≤ spNod S z 5 ∧ spNod S z 5 ≤ 120 := by
  obtain ⟨y, rfl⟩ : ∃ y : Nat, z = y := ⟨z.toNat, by omega⟩
  by_cases q : pFst S.2.2.2.2 (y : Int) = -2
  · rw [sp_nod0 5 q]
    omega
  · have := nod_at hI hB q
    omega
theorem nod6_r {S : CS} (hI : InvS S) (hB : StB S) {z : Int} (hz : 0 ≤ z) : -2 ≤ spNod S z 6 ∧ spNod S z 6 ≤ 8 := by
  obtain ⟨y, rfl⟩ : ∃ y : Nat, z = y := ⟨z.toNat, by omega⟩
  by_cases q : pFst S.2.2.2.2 (y : Int) = -2
  · rw [sp_nod0 6 q]
    omega
  · obtain ⟨k, k1, k2, k3, k4, k5, k6⟩ := alv_of hI q
    have := hB.1.2 y k4 k5
    rw [(sp_nod q).2.2.2.2.2.2.1]
    omega
theorem shl_z : ∀ m : Nat, m < 5 → zI 1 <<< (zI (m : Int) &&& 31) = zI ((2 ^ m : Nat) : Int) := by decide +kernel
theorem xor_z {a : Int} (h0 : 0 ≤ a) (h1 : a < 32) {m : Nat} (hm : m < 5) : zI a ^^^ zI ((2 ^ m : Nat) : Int) = zI ((a.toNat ^^^ 2 ^ m : Nat) : Int) := by
  obtain ⟨n, rfl⟩ : ∃ n : Nat, a = n := ⟨a.toNat, by omega⟩
  rw [Int.toNat_natCast, zI_nat, zI_nat, zI_nat]
  apply Int32.toBitVec_inj.mp
  simp [Int32.toBitVec_xor, BitVec.ofNat_xor]
theorem xor_r {a : Int} (h1 : a < 32) {m : Nat} (hm : m < 5) : ((a.toNat ^^^ 2 ^ m : Nat) : Int) < 32 := by
  have h2 : 2 ^ m < 2 ^ 5 := Nat.pow_lt_pow_right (by decide) hm
  have : a.toNat ^^^ 2 ^ m < 2 ^ 5 := Nat.xor_lt_two_pow (by omega) h2
  omega
theorem row_up {S : CS} (hI : InvS S) (hB : StB S) {r : Int} (h0 : 0 ≤ r) (h1 : r < rwN S) : (spRow S r 7 = -1 ∨ (0 ≤ spRow S r 7 ∧ spRow S r 7 < r)) := by
  have := (snd_up hI hB h0 h1).1
  omega
/-- the texts are the same, as far as the first n letters -/
def txP (l : List Int) (k : Int) (len n : Int) : Prop := (l.length : Int) = len ∧ ∀ j : Nat, (j : Int) < n → l.getD j 0 = ltr k j
theorem txP_s {l : List Int} {k len n : Int} (h0 : 0 ≤ n) : txP l k len (n + 1) ↔ txP l k len n ∧ l.getD n.toNat 0 = ltr k n.toNat := by
  constructor
  · rintro ⟨a, b⟩
    exact ⟨⟨a, fun j hj => b j (by omega)⟩, b n.toNat (by omega)⟩
  · rintro ⟨⟨a, b⟩, c⟩
    refine ⟨a, fun j hj => ?_⟩
    by_cases e : (j : Int) < n
    · exact b j e
    · rw [show j = n.toNat by omega]
      exact c
theorem txP_all {l : List Int} {k len : Int} (h : txP l k len len) : l = ltx k len.toNat := by
  have hl : l.length = len.toNat := by have := h.1; omega
  refine List.ext_getElem (by rw [ltx_len, hl]) (fun i h1 h2 => ?_)
  have h3 := h.2 i (by have := h.1; omega)
  rw [List.getD_eq_getElem?_getD, List.getElem?_eq_getElem h1] at h3
  have h4 : (ltx k len.toNat)[i]? = some (ltr k i) := by
    unfold ltx
    rw [List.getElem?_map, List.getElem?_range (by rw [← hl]; exact h1)]
    rfl
  rw [List.getElem?_eq_getElem h2] at h4
  exact h3.trans (Option.some.inj h4).symm
theorem txP_of {l : List Int} {k len n : Int} (h0 : 0 ≤ len) (hn : n ≤ len) (h : l = ltx k len.toNat) : txP l k len n := by
  refine ⟨by rw [h, ltx_len]; omega, fun j hj => ?_⟩
  rw [h, List.getD_eq_getElem?_getD]
  unfold ltx
  rw [List.getElem?_map, List.getElem?_range (by omega)]
  rfl
theorem chr_at {S : CS} (hB : StB S) {r v : Int} (h0 : 0 ≤ r) (h1 : r < rwN S) (hv : 0 ≤ v) (hl : v < ((S.2.1 (spRow S r 0).toNat).length : Int)) : spChr S r v = (S.2.1 (spRow S r 0).toNat).getD v.toNat 0 := by
  obtain ⟨p, p1, p2, p3, p4⟩ := row_ex h0 h1
  rw [(sp_row p4).1, Int.toNat_natCast] at hl ⊢
  unfold spChr
  rw [p4, if_neg (by omega), if_neg (by omega), (gNVF _ p).1, Int.toNat_natCast, if_neg (by omega)]
theorem chr_r {S : CS} (hI : InvS S) (hB : StB S) (r v : Int) : -6 ≤ spChr S r v ∧ spChr S r v < 65536 := by
  unfold spChr
  split
  · omega
  · rename_i h
    split
    · omega
    · split
      · omega
      · rename_i a b
        have h1 := plZ_ok h
        have hnd := hI.nd h1.1 h1.2
        have hno := hB.1.2 _ hnd.1 hnd.2.1
        have hm : (S.2.1 (gN S.2.2.2.2 (plZ S.2.2.2.2 r)).toNat).getD v.toNat 0 ∈ S.2.1 (gN S.2.2.2.2 (plZ S.2.2.2.2 r)).toNat := by
          rw [List.getD_eq_getElem?_getD, List.getElem?_eq_getElem (by omega)]
          exact List.getElem_mem _
        have := hno.2.1 _ hm
        omega
set_option maxHeartbeats 8000000 in
theorem c_L_changes (sz : Nat) {h : AH} {x b c d : Nat} {t : List Int} {hs : List CS} {sp S D : CS} (hO : OuR h x t hs sp b c d S D) (hI : InvA (t, hs, sp, b, S)) (hT : InvT (t, hs, sp, b, S)) {so g k : Int} (hso : 9 ≤ so ∧ so ≤ 16) : CC mL_changes 63 0 0 [.ref x, .int (zI (so)), .int (zI (g)), .int (zI (k))] sz h (QI (fun z h' => z = 1 ∧ ∃ A', OuA h' x A' ∧ InvA A' ∧ InvT A' ∧ Stpd (t, hs, sp, b, S) A' ∧ Fr h h' x (x + 107))) := by
  refine CC.intro [some (.ref x), some (.int (zI (so))), some (.int (zI (g))), some (.int (zI (k))), none, none, none, none, none, none, none, none, none] pfL_changes rfl rfl ?_
  have hS : InvS S := hI.2.1
  have hAB := hO.AB
  have hB : StB S := hAB.2.2.1
  have hWf := hS.wf
  have hLk := hS.lk hB.2.2
  have hcr := cnt_rows hS hB t hs
  have hc3 : spCnt t hs S 3 = rwN S := rfl
  have hc1 : spCnt t hs S 1 = S.1 := rfl
  have hd40 := hS.1.1
  have J67 : ∀ r : Int, 0 ≤ r → r < rwN S → XM mL_changes 63 0 0 (QI (fun z h' => z = 1 ∧ ∃ A', OuA h' x A' ∧ InvA A' ∧ InvT A' ∧ Stpd (t, hs, sp, b, S) A' ∧ Fr h h' x (x + 107))) 0 0 sz h 67 [some (.ref x), some (.int (zI (so))), some (.int (zI (g))), some (.int (zI (k))), some (.int (zI (spCnt t hs S 3))), none, none, none, none, none, none, none, none] [.int (zI r)] := by
    intro r r0 r1
    obtain ⟨a0, a1, a3, a4, a8, -, -, -⟩ := snd_at hS hB r0 r1
    have hsn := snd_nod hS hB hT.1 r0 r1
    have hn5 := hsn.2.2.2.2.2.2.2.2.1
    have hn6 := hsn.2.2.2.2.1
    clear hsn
    have J84 : so = 9 → XM mL_changes 63 0 0 (QI (fun z h' => z = 1 ∧ ∃ A', OuA h' x A' ∧ InvA A' ∧ InvT A' ∧ Stpd (t, hs, sp, b, S) A' ∧ Fr h h' x (x + 107))) 0 0 sz h 84 [some (.ref x), some (.int (zI (so))), some (.int (zI (g))), some (.int (zI (k))), some (.int (zI (spCnt t hs S 3))), some (.int (zI (r))), some (.int (zI (spRow S r 0))), none, none, none, none, none, none] [] := by
      intro hso9
      have hlk := lwZ_r k (n := 7) (by decide)
      have hr2 := row2_le hS hB r0 r1
      have hru := row_up hS hB r0 r1
      have J170 : ∀ v tp kk : Int, v = (if spRow S r 7 < 0 then topN S else spRow S (spRow S r 7) 3) → (0 ≤ v ∧ v ≤ 120) → XM mL_changes 63 0 0 (QI (fun z h' => z = 1 ∧ ∃ A', OuA h' x A' ∧ InvA A' ∧ InvT A' ∧ Stpd (t, hs, sp, b, S) A' ∧ Fr h h' x (x + 107))) 0 0 sz h 170 [some (.ref x), some (.int (zI (so))), some (.int (zI (g))), some (.int (zI (k))), some (.int (zI (spCnt t hs S 3))), some (.int (zI (r))), some (.int (zI (spRow S r 0))), some (.int (zI (lwZ k 7 - 3))), some (.int (zI (spRow S r 2))), some (.int (zI (spRow S r 7))), some (.int (zI (tp))), some (.int (zI (kk))), none] [.int (zI v)] := by
        intro v tp kk hall hvr
        refine x_istore dL_changes_170 rfl rfl rfl ?_
        refine x_aload_n dL_changes_172 rfl ?_
        refine x_iload dL_changes_173 rfl ?_
        refine x_iload dL_changes_175 rfl ?_
        refine i_V dL_changes_177 lL_65 (c_X8_shift sz hO hWf hLk ⟨by omega, by omega⟩ ⟨by omega, by omega⟩ (fun _ M a b hm => ⟨(kd_sh hS hm).1.dp, by rw [(kd_sh hS hm).2]; exact hB.2.2.1⟩)) hO.1.1 rfl rfl rfl rfl (by decide) (fun z2 h2 ⟨A2, hSp2, hOu2, hF2⟩ => ?_)
        have hAF := shift_fact hAB hI hSp2 r0 r1
        have hI2 := inv_shift hI hSp2
        obtain ⟨hT2, hSt2⟩ := stp_shift hT hSp2
        obtain ⟨t2, hs2, sp2, b2, S2⟩ := A2
        dsimp only at hAF
        obtain ⟨qc2q, d2, D2, hO⟩ := id hOu2
        have hO : OuR h2 x t2 hs2 sp2 b2 qc2q d2 S2 D2 := hO
        have hAB2 := hO.AB
        have hS2 : InvS S2 := hI2.2.1
        have hB2 : StB S2 := hAB2.2.2.1
        have hWf := hS2.wf
        have hLk2 := hS2.lk hB2.2.2
        have hcr2 := cnt_rows hS2 hB2 t2 hs2
        have hc32 : spCnt t2 hs2 S2 3 = rwN S2 := rfl
        have hd402 := hS2.1.1
        rw [← hall] at hAF
        have hA0 : lwZ k 7 - 3 = 0 → z2 = -3 := fun q => (hAF.1 q).1
        have hA1 := hAF.2.1
        have hzr := hAF.2.2.2.2.2
        clear hAF
        refine x_istore dL_changes_180 rfl rfl rfl ?_
        refine x_iload dL_changes_182 rfl ?_
        refine x_if_ne dL_changes_184 ⟨by omega, by omega⟩ (fun qc184q => ?_) (fun qc184q => ?_)
        · refine x_iload dL_changes_202 rfl ?_
          refine x_iload dL_changes_204 rfl ?_
          refine x_iadd dL_changes_206 ?_
          refine x_if_lt dL_changes_207 ⟨by omega, by omega⟩ (fun qc207q => ?_) (fun qc207q => ?_)
          · refine x_iload dL_changes_220 rfl ?_
            refine x_bipush dL_changes_222 (by decide) ?_
            refine x_icmp_ne dL_changes_224 ⟨by omega, by omega⟩ ⟨by omega, by omega⟩ (fun qc224q => ?_) (fun qc224q => ?_)
            · exfalso; omega
            · refine x_iconst dL_changes_227 ?_
              refine x_goto dL_changes_228 ?_
              refine x_zreturn dL_changes_272 rfl (by omega) ?_
              exact ⟨1, rfl, rfl, _, hOu2, hI2, hT2, hSt2, hF2⟩
          · refine x_iload dL_changes_210 rfl ?_
            refine x_iload dL_changes_212 rfl ?_
            refine x_iadd dL_changes_214 ?_
            refine x_iload dL_changes_215 rfl ?_
            refine x_icmp_lt dL_changes_217 ⟨by omega, by omega⟩ ⟨by omega, by omega⟩ (fun qc217q => ?_) (fun qc217q => ?_)
            · refine x_iload dL_changes_235 rfl ?_
              refine x_iload dL_changes_237 rfl ?_
              refine x_iload dL_changes_239 rfl ?_
              refine x_iadd dL_changes_241 ?_
              refine x_icmp_ne dL_changes_242 ⟨by omega, by omega⟩ ⟨by omega, by omega⟩ (fun qc242q => ?_) (fun qc242q => ?_)
              · exfalso; omega
              · refine x_aload_n dL_changes_245 rfl ?_
                refine x_iconst dL_changes_246 ?_
                refine p_V dL_changes_247 lL_13 (c_X8_count sz hO ⟨by omega, by omega⟩) hO.1.1 rfl rfl rfl rfl (by decide) ?_
                refine x_iload dL_changes_250 rfl ?_
                refine x_icmp_ne dL_changes_252 ⟨by omega, by omega⟩ ⟨by omega, by omega⟩ (fun qc252q => ?_) (fun qc252q => ?_)
                · exfalso; omega
                · refine x_aload_n dL_changes_255 rfl ?_
                  refine x_iconst dL_changes_256 ?_
                  refine x_bipush dL_changes_257 (by decide) ?_
                  refine i_V dL_changes_259 lL_65 (c_X8_shift sz hO hWf hLk2 ⟨by omega, by omega⟩ ⟨by omega, by omega⟩ (fun _ M a b hm => ⟨(kd_sh hS2 hm).1.dp, by rw [(kd_sh hS2 hm).2]; exact hB2.2.2.1⟩)) hO.1.1 rfl rfl rfl rfl (by decide) (fun z3 h3 ⟨A3, hSp3, hOu3, hF3⟩ => ?_)
                  obtain ⟨hz3, rfl⟩ := shift_bad hSp3 (plZ_in (S := S2) (by omega) (by omega)) (by omega)
                  subst hz3
                  have hOu2 := hOu3
                  have hF2 := hF2.tr hF3
                  refine x_bipush dL_changes_262 (by decide) ?_
                  refine x_icmp_ne dL_changes_264 ⟨by omega, by omega⟩ ⟨by omega, by omega⟩ (fun qc264q => ?_) (fun qc264q => ?_)
                  · exfalso; omega
                  · refine x_iconst dL_changes_267 ?_
                    refine x_goto dL_changes_268 ?_
                    refine x_zreturn dL_changes_272 rfl (by omega) ?_
                    exact ⟨1, rfl, rfl, _, hOu2, hI2, hT2, hSt2, hF2⟩
            · refine x_iload dL_changes_220 rfl ?_
              refine x_bipush dL_changes_222 (by decide) ?_
              refine x_icmp_ne dL_changes_224 ⟨by omega, by omega⟩ ⟨by omega, by omega⟩ (fun qc224q => ?_) (fun qc224q => ?_)
              · exfalso; omega
              · refine x_iconst dL_changes_227 ?_
                refine x_goto dL_changes_228 ?_
                refine x_zreturn dL_changes_272 rfl (by omega) ?_
                exact ⟨1, rfl, rfl, _, hOu2, hI2, hT2, hSt2, hF2⟩
        · refine x_iload dL_changes_187 rfl ?_
          refine x_bipush dL_changes_189 (by decide) ?_
          refine x_icmp_ne dL_changes_191 ⟨by omega, by omega⟩ ⟨by omega, by omega⟩ (fun qc191q => ?_) (fun qc191q => ?_)
          · exfalso; omega
          · refine x_iconst dL_changes_194 ?_
            refine x_goto dL_changes_195 ?_
            refine x_zreturn dL_changes_272 rfl (by omega) ?_
            exact ⟨1, rfl, rfl, _, hOu2, hI2, hT2, hSt2, hF2⟩
      refine x_iload_n dL_changes_84 rfl ?_
      refine x_bipush dL_changes_85 (by decide) ?_
      refine p_S dL_changes_87 lL_40 (c_L_low sz _ ⟨by omega, by omega⟩) rfl rfl rfl (by decide) ?_
      refine x_iconst dL_changes_90 ?_
      refine x_isub dL_changes_91 ?_
      refine x_istore dL_changes_92 rfl rfl rfl ?_
      refine x_aload_n dL_changes_94 rfl ?_
      refine x_iload dL_changes_95 rfl ?_
      refine x_iconst dL_changes_97 ?_
      refine p_V dL_changes_98 lL_21 (c_X8_row sz hO hWf ⟨by omega, by omega⟩ ⟨by omega, by omega⟩) hO.1.1 rfl rfl rfl rfl (by decide) ?_
      refine x_istore dL_changes_101 rfl rfl rfl ?_
      refine x_aload_n dL_changes_103 rfl ?_
      refine x_iload dL_changes_104 rfl ?_
      refine x_bipush dL_changes_106 (by decide) ?_
      refine p_V dL_changes_108 lL_21 (c_X8_row sz hO hWf ⟨by omega, by omega⟩ ⟨by omega, by omega⟩) hO.1.1 rfl rfl rfl rfl (by decide) ?_
      refine x_istore dL_changes_111 rfl rfl rfl ?_
      refine x_iconst dL_changes_113 ?_
      refine x_istore dL_changes_114 rfl rfl rfl ?_
      refine x_iconst dL_changes_116 ?_
      refine x_istore dL_changes_117 rfl rfl rfl ?_
      refine x_loop (fun _ : Int × Int => h) (fun s => [some (.ref x), some (.int (zI (so))), some (.int (zI (g))), some (.int (zI (k))), some (.int (zI (spCnt t hs S 3))), some (.int (zI (r))), some (.int (zI (spRow S r 0))), some (.int (zI (lwZ k 7 - 3))), some (.int (zI (spRow S r 2))), some (.int (zI (spRow S r 7))), some (.int (zI (s.2))), some (.int (zI (s.1))), none]) (fun s => (0 ≤ s.1 ∧ s.1 ≤ rwN S) ∧ s.2 = cZ (fun m => decide (spRow S (m : Int) 1 = 1)) s.1) (fun s => (rwN S - s.1).toNat) (0, 0) rfl rfl ⟨by dsimp only; omega, rfl⟩ ?_
      rintro ⟨kk, tp⟩ ⟨k1, k2⟩ ihq
      dsimp only at k1 k2 ihq ⊢
      have htr := cZ_r (fun m => decide (spRow S (m : Int) 1 = 1)) (i := kk) k1.1
      refine x_iload dL_changes_119 rfl ?_
      refine x_iload dL_changes_121 rfl ?_
      refine x_icmp_ge dL_changes_123 ⟨by omega, by omega⟩ ⟨by omega, by omega⟩ (fun qc123q => ?_) (fun qc123q => ?_)
      · have hkk : kk = rwN S := by omega
        have htop : topN S = tp := by rw [k2, hkk]; rfl
        refine x_iload dL_changes_153 rfl ?_
        refine x_if_ge dL_changes_155 ⟨by omega, by omega⟩ (fun qc155q => ?_) (fun qc155q => ?_)
        · have hsu := snd_at hS hB (r := spRow S r 7) (by omega) (by omega)
          have hsu3 := hsu.2.2.1
          clear hsu
          refine x_aload_n dL_changes_163 rfl ?_
          refine x_iload dL_changes_164 rfl ?_
          refine x_iconst dL_changes_166 ?_
          refine p_V dL_changes_167 lL_21 (c_X8_row sz hO hWf ⟨by omega, by omega⟩ ⟨by omega, by omega⟩) hO.1.1 rfl rfl rfl rfl (by decide) ?_
          first | exact J170 _ _ _ (by rw [if_pos (by omega), ← htop]) (by omega) | exact J170 _ _ _ (by rw [if_neg (by omega)]) (by omega)
        · refine x_iload dL_changes_158 rfl ?_
          refine x_goto dL_changes_160 ?_
          first | exact J170 _ _ _ (by rw [if_pos (by omega), ← htop]) (by omega) | exact J170 _ _ _ (by rw [if_neg (by omega)]) (by omega)
      · have hsk := rw1_r S kk hS hB
        have J144 : ∀ v : Int, (0 ≤ v ∧ v ≤ 1) → (v = 1 ↔ spRow S kk 1 = 1) → XM mL_changes 63 0 0 (QI (fun z h' => z = 1 ∧ ∃ A', OuA h' x A' ∧ InvA A' ∧ InvT A' ∧ Stpd (t, hs, sp, b, S) A' ∧ Fr h h' x (x + 107))) 0 0 sz h 144 [some (.ref x), some (.int (zI (so))), some (.int (zI (g))), some (.int (zI (k))), some (.int (zI (spCnt t hs S 3))), some (.int (zI (r))), some (.int (zI (spRow S r 0))), some (.int (zI (lwZ k 7 - 3))), some (.int (zI (spRow S r 2))), some (.int (zI (spRow S r 7))), some (.int (zI (tp))), some (.int (zI (kk))), none] [.int (zI v), .int (zI tp)] := by
          intro v hv1 hv2
          refine x_iadd dL_changes_144 ?_
          refine x_istore dL_changes_145 rfl rfl rfl ?_
          refine x_iinc dL_changes_147 rfl rfl rfl ?_
          refine x_goto dL_changes_150 ?_
          have htp : cZ (fun m => decide (spRow S (m : Int) 1 = 1)) (kk + 1) = cZ (fun m => decide (spRow S (m : Int) 1 = 1)) kk + v := by
            by_cases q : spRow S kk 1 = 1
            · rw [cZ_t k1.1 (decide_eq_true (by rw [show ((kk.toNat : Nat) : Int) = kk by omega]; exact q))]
              omega
            · rw [cZ_f k1.1 (decide_eq_false (by rw [show ((kk.toNat : Nat) : Int) = kk by omega]; exact q))]
              omega
          exact ihq (kk + 1, tp + v) ⟨by dsimp only; omega, by dsimp only; omega⟩ (by dsimp only; omega)
        refine x_iload dL_changes_126 rfl ?_
        refine x_aload_n dL_changes_128 rfl ?_
        refine x_iload dL_changes_129 rfl ?_
        refine x_iconst dL_changes_131 ?_
        refine p_V dL_changes_132 lL_21 (c_X8_row sz hO hWf ⟨by omega, by omega⟩ ⟨by omega, by omega⟩) hO.1.1 rfl rfl rfl rfl (by decide) ?_
        refine x_iconst dL_changes_135 ?_
        refine x_icmp_ne dL_changes_136 ⟨by omega, by omega⟩ ⟨by omega, by omega⟩ (fun qc136q => ?_) (fun qc136q => ?_)
        · refine x_iconst dL_changes_143 ?_
          exact J144 _ (by omega) (by omega)
        · refine x_iconst dL_changes_139 ?_
          refine x_goto dL_changes_140 ?_
          exact J144 _ (by omega) (by omega)
    have J279 : so = 10 → XM mL_changes 63 0 0 (QI (fun z h' => z = 1 ∧ ∃ A', OuA h' x A' ∧ InvA A' ∧ InvT A' ∧ Stpd (t, hs, sp, b, S) A' ∧ Fr h h' x (x + 107))) 0 0 sz h 279 [some (.ref x), some (.int (zI (so))), some (.int (zI (g))), some (.int (zI (k))), some (.int (zI (spCnt t hs S 3))), some (.int (zI (r))), some (.int (zI (spRow S r 0))), none, none, none, none, none, none] [] := by
      intro hso10
      have hlk := lwZ_r k (n := 5) (by decide)
      obtain ⟨m, hmk⟩ : ∃ m : Nat, lwZ k 5 = (m : Int) := ⟨(lwZ k 5).toNat, by omega⟩
      have hm5 : m < 5 := by omega
      refine x_iload_n dL_changes_279 rfl ?_
      refine x_iconst dL_changes_280 ?_
      refine p_S dL_changes_281 lL_40 (c_L_low sz _ ⟨by omega, by omega⟩) rfl rfl rfl (by decide) ?_
      refine x_istore dL_changes_284 rfl rfl rfl ?_
      rw [hmk]
      refine x_aload_n dL_changes_286 rfl ?_
      refine x_iload dL_changes_287 rfl ?_
      refine x_iconst dL_changes_289 ?_
      refine p_V dL_changes_290 lL_21 (c_X8_row sz hO hWf ⟨by omega, by omega⟩ ⟨by omega, by omega⟩) hO.1.1 rfl rfl rfl rfl (by decide) ?_
      refine x_istore dL_changes_293 rfl rfl rfl ?_
      refine x_aload_n dL_changes_295 rfl ?_
      refine x_iload dL_changes_296 rfl ?_
      refine x_iload dL_changes_298 rfl ?_
      refine i_V dL_changes_300 lL_68 (c_X8_mark sz hO hWf ⟨by omega, by omega⟩ ⟨by omega, by omega⟩) hO.1.1 rfl rfl rfl rfl (by decide) (fun z2 h2 ⟨A2, hSp2, hOu2, hF2⟩ => ?_)
      have hAF := mark_fact hSp2 r0 r1 hm5
      have hI2 := inv_mark hI hSp2
      obtain ⟨hT2, hSt2⟩ := stp_mark hT hSp2
      obtain ⟨t2, hs2, sp2, b2, S2⟩ := A2
      dsimp only at hAF
      obtain ⟨qc2q, d2, D2, hO⟩ := id hOu2
      have hO : OuR h2 x t2 hs2 sp2 b2 qc2q d2 S2 D2 := hO
      have hAB2 := hO.AB
      have hS2 : InvS S2 := hI2.2.1
      have hB2 : StB S2 := hAB2.2.2.1
      have hWf := hS2.wf
      have hLk2 := hS2.lk hB2.2.2
      have hcr2 := cnt_rows hS2 hB2 t2 hs2
      have hc32 : spCnt t2 hs2 S2 3 = rwN S2 := rfl
      have hd402 := hS2.1.1
      obtain ⟨hA1, hA2, hA3⟩ := hAF
      have hxr := xor_r hn5.2 hm5
      refine x_iload dL_changes_303 rfl ?_
      refine x_iconst dL_changes_305 ?_
      refine x_iload dL_changes_306 rfl ?_
      refine x_ishl dL_changes_308 (shl_z m hm5) ?_
      refine x_ixor dL_changes_309 (xor_z hn5.1 hn5.2 hm5) ?_
      refine x_icmp_ne dL_changes_310 ⟨by omega, by omega⟩ ⟨by omega, by omega⟩ (fun qc310q => ?_) (fun qc310q => ?_)
      · exfalso; omega
      · refine x_aload_n dL_changes_313 rfl ?_
        refine x_iload dL_changes_314 rfl ?_
        refine x_iconst dL_changes_316 ?_
        refine p_V dL_changes_317 lL_27 (c_X8_node sz hO hWf ⟨by omega, by omega⟩ ⟨by omega, by omega⟩) hO.1.1 rfl rfl rfl rfl (by decide) ?_
        refine x_iload dL_changes_320 rfl ?_
        refine x_iconst dL_changes_322 ?_
        refine x_iload dL_changes_323 rfl ?_
        refine x_ishl dL_changes_325 (shl_z m hm5) ?_
        refine x_ixor dL_changes_326 (xor_z hn5.1 hn5.2 hm5) ?_
        refine x_icmp_ne dL_changes_327 ⟨by omega, by omega⟩ ⟨by omega, by omega⟩ (fun qc327q => ?_) (fun qc327q => ?_)
        · exfalso; omega
        · refine x_aload_n dL_changes_330 rfl ?_
          refine x_iload dL_changes_331 rfl ?_
          refine x_iconst dL_changes_333 ?_
          refine i_V dL_changes_334 lL_68 (c_X8_mark sz hO hWf ⟨by omega, by omega⟩ ⟨by omega, by omega⟩) hO.1.1 rfl rfl rfl rfl (by decide) (fun z3 h3 ⟨A3, hSp3, hOu3, hF3⟩ => ?_)
          obtain ⟨hz3, rfl⟩ := mark_bad hSp3 r0 (show r < rwN S2 by omega)
          subst hz3
          have hOu2 := hOu3
          have hF2 := hF2.tr hF3
          refine x_bipush dL_changes_337 (by decide) ?_
          refine x_icmp_ne dL_changes_339 ⟨by omega, by omega⟩ ⟨by omega, by omega⟩ (fun qc339q => ?_) (fun qc339q => ?_)
          · exfalso; omega
          · refine x_iconst dL_changes_342 ?_
            refine x_goto dL_changes_343 ?_
            refine x_zreturn dL_changes_347 rfl (by omega) ?_
            exact ⟨1, rfl, rfl, _, hOu2, hI2, hT2, hSt2, hF2⟩
    have J354 : so = 11 → XM mL_changes 63 0 0 (QI (fun z h' => z = 1 ∧ ∃ A', OuA h' x A' ∧ InvA A' ∧ InvT A' ∧ Stpd (t, hs, sp, b, S) A' ∧ Fr h h' x (x + 107))) 0 0 sz h 354 [some (.ref x), some (.int (zI (so))), some (.int (zI (g))), some (.int (zI (k))), some (.int (zI (spCnt t hs S 3))), some (.int (zI (r))), some (.int (zI (spRow S r 0))), none, none, none, none, none, none] [] := by
      intro hso11
      have hlk := lwZ_r (shZ k 7) (n := 8) (by decide)
      refine x_iconst dL_changes_354 ?_
      refine x_iload_n dL_changes_355 rfl ?_
      refine x_bipush dL_changes_356 (by decide) ?_
      refine x_ishr dL_changes_358 (show zI k >>> (zI 7 &&& 31) = zI (shZ k 7) from (zI_sI _).symm) ?_
      refine x_bipush dL_changes_359 (by decide) ?_
      refine p_S dL_changes_361 lL_40 (c_L_low sz _ ⟨by omega, by omega⟩) rfl rfl rfl (by decide) ?_
      refine x_iadd dL_changes_364 ?_
      refine x_istore dL_changes_365 rfl rfl rfl ?_
      refine x_aload_n dL_changes_367 rfl ?_
      refine x_iload_n dL_changes_368 rfl ?_
      refine x_iload dL_changes_369 rfl ?_
      refine i_S dL_changes_371 lL_49 (c_L_texts sz hO (by omega)) rfl rfl rfl (by decide) (fun z1 h1 ⟨hz1, hOu1, hF1⟩ => ?_)
      subst hz1
      have hI1 : InvA (ltx k (1 + lwZ (shZ k 7) 8).toNat, hs, sp, b, S) := hI
      have hT1 : InvT (ltx k (1 + lwZ (shZ k 7) 8).toNat, hs, sp, b, S) := hT
      have hlen := ltx_len k (1 + lwZ (shZ k 7) 8).toNat
      obtain ⟨qc1q, d1, D1, hO⟩ := id hOu1
      have hO : OuR h1 x (ltx k (1 + lwZ (shZ k 7) 8).toNat) hs sp b qc1q d1 S D1 := hO
      have J449 : ∀ sm kk : Int, (0 ≤ sm ∧ sm ≤ 1) → (sm = 1 ↔ S.2.1 (spRow S r 0).toNat = ltx k (1 + lwZ (shZ k 7) 8).toNat) → XM mL_changes 63 0 0 (QI (fun z h' => z = 1 ∧ ∃ A', OuA h' x A' ∧ InvA A' ∧ InvT A' ∧ Stpd (t, hs, sp, b, S) A' ∧ Fr h h' x (x + 107))) 0 0 sz h1 449 [some (.ref x), some (.int (zI (so))), some (.int (zI (g))), some (.int (zI (k))), some (.int (zI (spCnt t hs S 3))), some (.int (zI (r))), some (.int (zI (spRow S r 0))), some (.int (zI (1 + lwZ (shZ k 7) 8))), some (.int (zI (sm))), some (.int (zI (kk))), none, none, none] [] := by
        intro sm kk hsr hsm
        refine x_aload_n dL_changes_449 rfl ?_
        refine x_iload dL_changes_450 rfl ?_
        refine i_V dL_changes_452 lL_75 (c_X8_edit sz hO hWf ⟨by omega, by omega⟩) hO.1.1 rfl rfl rfl rfl (by decide) (fun z2 h2 ⟨A2, hSp2, hOu2, hF2⟩ => ?_)
        have hAF := edit_fact hI1 hSp2 r0 r1 (by dsimp only; omega)
        have hI2 := inv_edit hI1 hSp2
        obtain ⟨hT2, hSt2⟩ := stp_edit hT1 hSp2
        obtain ⟨t2, hs2, sp2, b2, S2⟩ := A2
        dsimp only at hAF
        obtain ⟨qc2q, d2, D2, hO⟩ := id hOu2
        have hO : OuR h2 x t2 hs2 sp2 b2 qc2q d2 S2 D2 := hO
        have hAB2 := hO.AB
        have hS2 : InvS S2 := hI2.2.1
        have hB2 : StB S2 := hAB2.2.2.1
        have hWf := hS2.wf
        have hLk2 := hS2.lk hB2.2.2
        have hcr2 := cnt_rows hS2 hB2 t2 hs2
        have hc32 : spCnt t2 hs2 S2 3 = rwN S2 := rfl
        have hd402 := hS2.1.1
        have hF2 := hF1.tr hF2
        obtain ⟨hA1, hA2, hA3, hA4, hA5⟩ := hAF
        rw [hlen] at hA3
        have hr1n := nod1_r hS2 hB2 (z := spRow S r 0) (by omega)
        have hr6n := nod6_r hS2 hB2 (z := spRow S r 0) (by omega)
        have J476 : ∀ v : Int, v = z2 → XM mL_changes 63 0 0 (QI (fun z h' => z = 1 ∧ ∃ A', OuA h' x A' ∧ InvA A' ∧ InvT A' ∧ Stpd (t, hs, sp, b, S) A' ∧ Fr h h' x (x + 107))) 0 0 sz h2 476 [some (.ref x), some (.int (zI (so))), some (.int (zI (g))), some (.int (zI (k))), some (.int (zI (spCnt t hs S 3))), some (.int (zI (r))), some (.int (zI (spRow S r 0))), some (.int (zI (1 + lwZ (shZ k 7) 8))), some (.int (zI (sm))), some (.int (zI (z2))), none, none, none] [.int (zI v), .int (zI z2)] := by
          intro v hv
          subst hv
          have hzr : -6 ≤ v ∧ v ≤ 120 := by
            by_cases q : S.2.1 (spRow S r 0).toNat = ltx k (1 + lwZ (shZ k 7) 8).toNat
            · have := hA1 q; omega
            · have := hA2 q; omega
          refine x_icmp_ne dL_changes_476 ⟨by omega, by omega⟩ ⟨by omega, by omega⟩ (fun qc476q => ?_) (fun qc476q => ?_)
          · exfalso; omega
          · refine x_aload_n dL_changes_479 rfl ?_
            refine x_iload dL_changes_480 rfl ?_
            refine x_bipush dL_changes_482 (by decide) ?_
            refine p_V dL_changes_484 lL_27 (c_X8_node sz hO hWf ⟨by omega, by omega⟩ ⟨by omega, by omega⟩) hO.1.1 rfl rfl rfl rfl (by decide) ?_
            refine x_iload dL_changes_487 rfl ?_
            refine x_icmp_ne dL_changes_489 ⟨by omega, by omega⟩ ⟨by omega, by omega⟩ (fun qc489q => ?_) (fun qc489q => ?_)
            · exfalso; omega
            · refine x_aload_n dL_changes_492 rfl ?_
              refine x_iload dL_changes_493 rfl ?_
              refine x_iconst dL_changes_495 ?_
              refine x_isub dL_changes_496 ?_
              refine p_V dL_changes_497 lL_78 (c_X8_find sz hO hWf ⟨by omega, by omega⟩) hO.1.1 rfl rfl rfl rfl (by decide) ?_
              refine x_iload dL_changes_500 rfl ?_
              refine x_icmp_ne dL_changes_502 ⟨by omega, by omega⟩ ⟨by omega, by omega⟩ (fun qc502q => ?_) (fun qc502q => ?_)
              · exfalso; omega
              · refine x_iconst dL_changes_505 ?_
                refine x_goto dL_changes_506 ?_
                refine x_zreturn dL_changes_510 rfl (by omega) ?_
                exact ⟨1, rfl, rfl, _, hOu2, hI2, hT2, hSt2, hF2⟩
        refine x_istore dL_changes_455 rfl rfl rfl ?_
        refine x_iload dL_changes_457 rfl ?_
        refine x_iload dL_changes_459 rfl ?_
        refine x_if_eq dL_changes_461 ⟨by omega, by omega⟩ (fun qc461q => ?_) (fun qc461q => ?_)
        · refine x_aload_n dL_changes_469 rfl ?_
          refine x_iload dL_changes_470 rfl ?_
          refine x_iconst dL_changes_472 ?_
          refine p_V dL_changes_473 lL_27 (c_X8_node sz hO hWf ⟨by omega, by omega⟩ ⟨by omega, by omega⟩) hO.1.1 rfl rfl rfl rfl (by decide) ?_
          first | exact J476 _ (hA1 (hsm.mp (by omega))).symm | exact J476 _ (hA2 (fun q => by have := hsm.mpr q; omega)).symm
        · refine x_bipush dL_changes_464 (by decide) ?_
          refine x_goto dL_changes_466 ?_
          first | exact J476 _ (hA1 (hsm.mp (by omega))).symm | exact J476 _ (hA2 (fun q => by have := hsm.mpr q; omega)).symm
      have J395 : ∀ v : Int, (0 ≤ v ∧ v ≤ 1) → (v = 1 ↔ txP (S.2.1 (spRow S r 0).toNat) k (1 + lwZ (shZ k 7) 8) 0) → XM mL_changes 63 0 0 (QI (fun z h' => z = 1 ∧ ∃ A', OuA h' x A' ∧ InvA A' ∧ InvT A' ∧ Stpd (t, hs, sp, b, S) A' ∧ Fr h h' x (x + 107))) 0 0 sz h1 395 [some (.ref x), some (.int (zI (so))), some (.int (zI (g))), some (.int (zI (k))), some (.int (zI (spCnt t hs S 3))), some (.int (zI (r))), some (.int (zI (spRow S r 0))), some (.int (zI (1 + lwZ (shZ k 7) 8))), none, none, none, none, none] [.int (zI v)] := by
        intro v hv1 hv2
        refine x_istore dL_changes_395 rfl rfl rfl ?_
        refine x_iconst dL_changes_397 ?_
        refine x_istore dL_changes_398 rfl rfl rfl ?_
        refine x_loop (fun _ : Int × Int => h1) (fun s => [some (.ref x), some (.int (zI (so))), some (.int (zI (g))), some (.int (zI (k))), some (.int (zI (spCnt t hs S 3))), some (.int (zI (r))), some (.int (zI (spRow S r 0))), some (.int (zI (1 + lwZ (shZ k 7) 8))), some (.int (zI (s.2))), some (.int (zI (s.1))), none, none, none]) (fun s => (0 ≤ s.1 ∧ s.1 ≤ 1 + lwZ (shZ k 7) 8) ∧ (0 ≤ s.2 ∧ s.2 ≤ 1) ∧ (s.2 = 1 ↔ txP (S.2.1 (spRow S r 0).toNat) k (1 + lwZ (shZ k 7) 8) s.1)) (fun s => (1 + lwZ (shZ k 7) 8 - s.1).toNat) (0, v) rfl rfl ⟨by dsimp only; omega, hv1, hv2⟩ ?_
        rintro ⟨kk, sm⟩ ⟨k1, k2, k3⟩ ihq
        dsimp only at k1 k2 k3 ihq ⊢
        refine x_iload dL_changes_400 rfl ?_
        refine x_iload dL_changes_402 rfl ?_
        refine x_icmp_ge dL_changes_404 ⟨by omega, by omega⟩ ⟨by omega, by omega⟩ (fun qc404q => ?_) (fun qc404q => ?_)
        · have hkk : kk = 1 + lwZ (shZ k 7) 8 := by omega
          have hsmx : sm = 1 ↔ S.2.1 (spRow S r 0).toNat = ltx k (1 + lwZ (shZ k 7) 8).toNat := by
            rw [hkk] at k3
            exact ⟨fun q => txP_all (k3.mp q), fun q => k3.mpr (txP_of (by omega) (by omega) q)⟩
          exact J449 sm kk k2 hsmx
        · refine x_iload dL_changes_407 rfl ?_
          refine x_if_eq dL_changes_409 ⟨by omega, by omega⟩ (fun qc409q => ?_) (fun qc409q => ?_)
          · have hsmx : sm = 1 ↔ S.2.1 (spRow S r 0).toNat = ltx k (1 + lwZ (shZ k 7) 8).toNat := ⟨fun q => by omega, fun q => k3.mpr (txP_of (by omega) (by omega) q)⟩
            exact J449 sm kk k2 hsmx
          · have hsm1 : sm = 1 := by omega
            have htx := k3.mp hsm1
            have htl := htx.1
            have hch := chr_at hB r0 r1 (v := kk) k1.1 (by omega)
            have hcr3 := chr_r hS hB r kk
            have hlw4 := lwZ_r (shZ k (2 * kk)) (n := 4) (by decide)
            have hltr : ltr k kk.toNat = 97 + lwZ (shZ k (2 * kk)) 4 := by
              unfold ltr
              rw [show ((kk.toNat : Nat) : Int) = kk by omega]
            have J441 : ∀ v : Int, (0 ≤ v ∧ v ≤ 1) → (v = 1 ↔ spChr S r kk = 97 + lwZ (shZ k (2 * kk)) 4) → XM mL_changes 63 0 0 (QI (fun z h' => z = 1 ∧ ∃ A', OuA h' x A' ∧ InvA A' ∧ InvT A' ∧ Stpd (t, hs, sp, b, S) A' ∧ Fr h h' x (x + 107))) 0 0 sz h1 441 [some (.ref x), some (.int (zI (so))), some (.int (zI (g))), some (.int (zI (k))), some (.int (zI (spCnt t hs S 3))), some (.int (zI (r))), some (.int (zI (spRow S r 0))), some (.int (zI (1 + lwZ (shZ k 7) 8))), some (.int (zI (sm))), some (.int (zI (kk))), none, none, none] [.int (zI v)] := by
              intro v hv1 hv2
              refine x_istore dL_changes_441 rfl rfl rfl ?_
              refine x_iinc dL_changes_443 rfl rfl rfl ?_
              refine x_goto dL_changes_446 ?_
              refine ihq (kk + 1, v) ⟨by dsimp only; omega, hv1, ?_⟩ (by dsimp only; omega)
              dsimp only
              rw [hv2, txP_s k1.1, hch, hltr]
              exact ⟨fun q => ⟨htx, q⟩, fun q => q.2⟩
            refine x_aload_n dL_changes_412 rfl ?_
            refine x_iload dL_changes_413 rfl ?_
            refine x_iload dL_changes_415 rfl ?_
            refine p_V dL_changes_417 lL_33 (c_X8_charAt sz hO hWf ⟨by omega, by omega⟩ ⟨by omega, by omega⟩) hO.1.1 rfl rfl rfl rfl (by decide) ?_
            refine x_bipush dL_changes_420 (by decide) ?_
            refine x_iload_n dL_changes_422 rfl ?_
            refine x_iconst dL_changes_423 ?_
            refine x_iload dL_changes_424 rfl ?_
            refine x_imul dL_changes_426 ?_
            refine x_ishr dL_changes_427 (show zI k >>> (zI (2 * kk) &&& 31) = zI (shZ k (2 * kk)) from (zI_sI _).symm) ?_
            refine x_iconst dL_changes_428 ?_
            refine p_S dL_changes_429 lL_40 (c_L_low sz _ ⟨by omega, by omega⟩) rfl rfl rfl (by decide) ?_
            refine x_iadd dL_changes_432 ?_
            refine x_icmp_ne dL_changes_433 ⟨by omega, by omega⟩ ⟨by omega, by omega⟩ (fun qc433q => ?_) (fun qc433q => ?_)
            · refine x_iconst dL_changes_440 ?_
              exact J441 _ (by omega) (by omega)
            · refine x_iconst dL_changes_436 ?_
              refine x_goto dL_changes_437 ?_
              exact J441 _ (by omega) (by omega)
      have hy6 : spNod S (spRow S r 0) 6 = ((S.2.1 (spRow S r 0).toNat).length : Int) := by
        obtain ⟨p, p1, p2, p3, p4⟩ := row_ex r0 r1
        rw [(sp_row p4).1, (sp_nod (fst_of p1)).2.2.2.2.2.2.1, Int.toNat_natCast]
      refine x_if_eq dL_changes_374 ⟨by omega, by omega⟩ (fun qc374q => ?_) (fun qc374q => ?_)
      · exfalso; omega
      · refine x_aload_n dL_changes_377 rfl ?_
        refine x_iload dL_changes_378 rfl ?_
        refine x_bipush dL_changes_380 (by decide) ?_
        refine p_V dL_changes_382 lL_27 (c_X8_node sz hO hWf ⟨by omega, by omega⟩ ⟨by omega, by omega⟩) hO.1.1 rfl rfl rfl rfl (by decide) ?_
        refine x_iload dL_changes_385 rfl ?_
        refine x_icmp_ne dL_changes_387 ⟨by omega, by omega⟩ ⟨by omega, by omega⟩ (fun qc387q => ?_) (fun qc387q => ?_)
        · refine x_iconst dL_changes_394 ?_
          exact J395 _ (by omega) ⟨fun q => by first | (exfalso; omega) | exact ⟨by omega, fun j hj => by omega⟩, fun q => by have := q.1; omega⟩
        · refine x_iconst dL_changes_390 ?_
          refine x_goto dL_changes_391 ?_
          exact J395 _ (by omega) ⟨fun q => by first | (exfalso; omega) | exact ⟨by omega, fun j hj => by omega⟩, fun q => by have := q.1; omega⟩
    have J517 : so = 12 ∨ so = 13 → XM mL_changes 63 0 0 (QI (fun z h' => z = 1 ∧ ∃ A', OuA h' x A' ∧ InvA A' ∧ InvT A' ∧ Stpd (t, hs, sp, b, S) A' ∧ Fr h h' x (x + 107))) 0 0 sz h 517 [some (.ref x), some (.int (zI (so))), some (.int (zI (g))), some (.int (zI (k))), some (.int (zI (spCnt t hs S 3))), some (.int (zI (r))), some (.int (zI (spRow S r 0))), none, none, none, none, none, none] [] := by
      intro hso12
      obtain ⟨b3, hb0, hb3, hbe⟩ := and31s k 3
      have hrS2 : ∀ S2 : CS, InvS S2 → StB S2 → (-6 ≤ spRow S2 r 3 ∧ spRow S2 r 3 ≤ 120) ∧ (-6 ≤ spRow S2 r 4 ∧ spRow S2 r 4 ≤ 120) := fun S2 hS2 hB2 => by
        by_cases q : r < rwN S2
        · have := snd_at hS2 hB2 r0 q
          omega
        · rw [row_no (by omega), row_no (by omega)]
          omega
      have J528 : ∀ f : Nat, f ≤ 1 → XM mL_changes 63 0 0 (QI (fun z h' => z = 1 ∧ ∃ A', OuA h' x A' ∧ InvA A' ∧ InvT A' ∧ Stpd (t, hs, sp, b, S) A' ∧ Fr h h' x (x + 107))) 0 0 sz h 528 [some (.ref x), some (.int (zI (so))), some (.int (zI (g))), some (.int (zI (k))), some (.int (zI (spCnt t hs S 3))), some (.int (zI (r))), some (.int (zI (spRow S r 0))), none, none, none, none, none, none] [.int (zI (f : Int))] := by
        intro f hf
        have J546 : ∀ v : Int, v = spRow S r 4 → XM mL_changes 63 0 0 (QI (fun z h' => z = 1 ∧ ∃ A', OuA h' x A' ∧ InvA A' ∧ InvT A' ∧ Stpd (t, hs, sp, b, S) A' ∧ Fr h h' x (x + 107))) 0 0 sz h 546 [some (.ref x), some (.int (zI (so))), some (.int (zI (g))), some (.int (zI (k))), some (.int (zI (spCnt t hs S 3))), some (.int (zI (r))), some (.int (zI (spRow S r 0))), some (.int (zI (f))), none, none, none, none, none] [.int (zI v)] := by
          intro v hv
          subst hv
          refine x_istore dL_changes_546 rfl rfl rfl ?_
          refine x_aload_n dL_changes_548 rfl ?_
          refine x_iload dL_changes_549 rfl ?_
          refine x_bipush dL_changes_551 (by decide) ?_
          refine p_V dL_changes_553 lL_21 (c_X8_row sz hO hWf ⟨by omega, by omega⟩ ⟨by omega, by omega⟩) hO.1.1 rfl rfl rfl rfl (by decide) ?_
          refine x_istore dL_changes_556 rfl rfl rfl ?_
          refine x_aload_n dL_changes_558 rfl ?_
          refine x_iload dL_changes_559 rfl ?_
          refine x_iload dL_changes_561 rfl ?_
          refine i_V dL_changes_563 lL_71 (c_X8_fold sz hO ⟨by omega, by omega⟩ (f := f) hf) hO.1.1 rfl rfl rfl rfl (by decide) (fun z2 h2 ⟨A2, hSp2, hOu2, hF2⟩ => ?_)
          have hAF := fold_fact hAB hI hSp2 hf r0 r1
          have hI2 := inv_fold hI hSp2
          obtain ⟨hT2, hSt2⟩ := stp_fold hT hSp2
          obtain ⟨t2, hs2, sp2, b2, S2⟩ := A2
          dsimp only at hAF
          obtain ⟨qc2q, d2, D2, hO⟩ := id hOu2
          have hO : OuR h2 x t2 hs2 sp2 b2 qc2q d2 S2 D2 := hO
          have hAB2 := hO.AB
          have hS2 : InvS S2 := hI2.2.1
          have hB2 : StB S2 := hAB2.2.2.1
          have hWf := hS2.wf
          have hLk2 := hS2.lk hB2.2.2
          have hcr2 := cnt_rows hS2 hB2 t2 hs2
          have hc32 : spCnt t2 hs2 S2 3 = rwN S2 := rfl
          have hd402 := hS2.1.1
          have hsd2 := hrS2 S2 hS2 hB2
          obtain ⟨hA1, hA2, hA3, hA4⟩ := hAF
          have J639 : spRow S r 3 ≠ 0 → spRow S r 4 ≠ f → ∀ v : Int, v = f → XM mL_changes 63 0 0 (QI (fun z h' => z = 1 ∧ ∃ A', OuA h' x A' ∧ InvA A' ∧ InvT A' ∧ Stpd (t, hs, sp, b, S) A' ∧ Fr h h' x (x + 107))) 0 0 sz h2 639 [some (.ref x), some (.int (zI (so))), some (.int (zI (g))), some (.int (zI (k))), some (.int (zI (spCnt t hs S 3))), some (.int (zI (r))), some (.int (zI (spRow S r 0))), some (.int (zI (f))), some (.int (zI (spRow S r 4))), some (.int (zI (spRow S r 8))), some (.int (zI (z2))), none, none] [.int (zI v)] := by
            intro hk3 hk4 v hv
            have hA5 := (hA3 hk3).2 hk4
            refine x_iload dL_changes_639 rfl ?_
            refine x_icmp_ne dL_changes_641 ⟨by omega, by omega⟩ ⟨by omega, by omega⟩ (fun qc641q => ?_) (fun qc641q => ?_)
            · exfalso; omega
            · refine x_iload dL_changes_644 rfl ?_
              refine x_if_eq dL_changes_646 ⟨by omega, by omega⟩ (fun qc646q => ?_) (fun qc646q => ?_)
              · refine x_iload dL_changes_662 rfl ?_
                refine x_iload dL_changes_664 rfl ?_
                refine x_icmp_lt dL_changes_666 ⟨by omega, by omega⟩ ⟨by omega, by omega⟩ (fun qc666q => ?_) (fun qc666q => ?_)
                · exfalso; omega
                · refine x_iconst dL_changes_669 ?_
                  refine x_goto dL_changes_670 ?_
                  refine x_zreturn dL_changes_674 rfl (by omega) ?_
                  exact ⟨1, rfl, rfl, _, hOu2, hI2, hT2, hSt2, hF2⟩
              · refine x_iload dL_changes_649 rfl ?_
                refine x_iload dL_changes_651 rfl ?_
                refine x_iload dL_changes_653 rfl ?_
                refine x_isub dL_changes_655 ?_
                refine x_icmp_ne dL_changes_656 ⟨by omega, by omega⟩ ⟨by omega, by omega⟩ (fun qc656q => ?_) (fun qc656q => ?_)
                · exfalso; omega
                · refine x_goto dL_changes_659 ?_
                  refine x_iconst dL_changes_669 ?_
                  refine x_goto dL_changes_670 ?_
                  refine x_zreturn dL_changes_674 rfl (by omega) ?_
                  exact ⟨1, rfl, rfl, _, hOu2, hI2, hT2, hSt2, hF2⟩
          refine x_istore dL_changes_566 rfl rfl rfl ?_
          refine x_aload_n dL_changes_568 rfl ?_
          refine x_iload dL_changes_569 rfl ?_
          refine x_iconst dL_changes_571 ?_
          refine p_V dL_changes_572 lL_21 (c_X8_row sz hO hWf ⟨by omega, by omega⟩ ⟨by omega, by omega⟩) hO.1.1 rfl rfl rfl rfl (by decide) ?_
          refine x_if_ne dL_changes_575 ⟨by omega, by omega⟩ (fun qc575q => ?_) (fun qc575q => ?_)
          · refine x_iload dL_changes_591 rfl ?_
            refine x_iload dL_changes_593 rfl ?_
            refine x_icmp_ne dL_changes_595 ⟨by omega, by omega⟩ ⟨by omega, by omega⟩ (fun qc595q => ?_) (fun qc595q => ?_)
            · have hk3 : spRow S r 3 ≠ 0 := by omega
              have hk4 : spRow S r 4 ≠ f := by omega
              have hA5 := (hA3 hk3).2 hk4
              refine x_iload dL_changes_613 rfl ?_
              refine x_aload_n dL_changes_615 rfl ?_
              refine x_iconst dL_changes_616 ?_
              refine p_V dL_changes_617 lL_13 (c_X8_count sz hO ⟨by omega, by omega⟩) hO.1.1 rfl rfl rfl rfl (by decide) ?_
              refine x_icmp_ne dL_changes_620 ⟨by omega, by omega⟩ ⟨by omega, by omega⟩ (fun qc620q => ?_) (fun qc620q => ?_)
              · exfalso; omega
              · refine x_aload_n dL_changes_623 rfl ?_
                refine x_iload dL_changes_624 rfl ?_
                refine x_iconst dL_changes_626 ?_
                refine p_V dL_changes_627 lL_21 (c_X8_row sz hO hWf ⟨by omega, by omega⟩ ⟨by omega, by omega⟩) hO.1.1 rfl rfl rfl rfl (by decide) ?_
                refine x_iconst dL_changes_630 ?_
                refine x_icmp_ne dL_changes_631 ⟨by omega, by omega⟩ ⟨by omega, by omega⟩ (fun qc631q => ?_) (fun qc631q => ?_)
                · refine x_iconst dL_changes_638 ?_
                  exact J639 hk3 hk4 _ (by omega)
                · refine x_iconst dL_changes_634 ?_
                  refine x_goto dL_changes_635 ?_
                  exact J639 hk3 hk4 _ (by omega)
            · have hA5 := (hA3 (by omega)).1 (by omega)
              refine x_iload dL_changes_598 rfl ?_
              refine x_bipush dL_changes_600 (by decide) ?_
              refine x_icmp_ne dL_changes_602 ⟨by omega, by omega⟩ ⟨by omega, by omega⟩ (fun qc602q => ?_) (fun qc602q => ?_)
              · exfalso; omega
              · refine x_iconst dL_changes_605 ?_
                refine x_goto dL_changes_606 ?_
                refine x_zreturn dL_changes_674 rfl (by omega) ?_
                exact ⟨1, rfl, rfl, _, hOu2, hI2, hT2, hSt2, hF2⟩
          · refine x_iload dL_changes_578 rfl ?_
            refine x_bipush dL_changes_580 (by decide) ?_
            refine x_icmp_ne dL_changes_582 ⟨by omega, by omega⟩ ⟨by omega, by omega⟩ (fun qc582q => ?_) (fun qc582q => ?_)
            · exfalso; omega
            · refine x_iconst dL_changes_585 ?_
              refine x_goto dL_changes_586 ?_
              refine x_zreturn dL_changes_590 rfl (by omega) ?_
              exact ⟨1, rfl, rfl, _, hOu2, hI2, hT2, hSt2, hF2⟩
        refine x_istore dL_changes_528 rfl rfl rfl ?_
        refine x_aload_n dL_changes_530 rfl ?_
        refine x_iload dL_changes_531 rfl ?_
        refine x_iconst dL_changes_533 ?_
        refine p_V dL_changes_534 lL_21 (c_X8_row sz hO hWf ⟨by omega, by omega⟩ ⟨by omega, by omega⟩) hO.1.1 rfl rfl rfl rfl (by decide) ?_
        refine x_iconst dL_changes_537 ?_
        refine x_icmp_ne dL_changes_538 ⟨by omega, by omega⟩ ⟨by omega, by omega⟩ (fun qc538q => ?_) (fun qc538q => ?_)
        · refine x_iconst dL_changes_545 ?_
          exact J546 _ (by omega)
        · refine x_iconst dL_changes_541 ?_
          refine x_goto dL_changes_542 ?_
          exact J546 _ (by omega)
      refine x_iload_n dL_changes_517 rfl ?_
      refine x_iconst dL_changes_518 ?_
      refine x_iand dL_changes_519 hbe ?_
      refine x_if_le dL_changes_520 ⟨by omega, by omega⟩ (fun qc520q => ?_) (fun qc520q => ?_)
      · refine x_iconst dL_changes_527 ?_
        first | exact J528 0 (by omega) | exact J528 1 (by omega)
      · refine x_iconst dL_changes_523 ?_
        refine x_goto dL_changes_524 ?_
        first | exact J528 0 (by omega) | exact J528 1 (by omega)
    have J681 : so = 14 → XM mL_changes 63 0 0 (QI (fun z h' => z = 1 ∧ ∃ A', OuA h' x A' ∧ InvA A' ∧ InvT A' ∧ Stpd (t, hs, sp, b, S) A' ∧ Fr h h' x (x + 107))) 0 0 sz h 681 [some (.ref x), some (.int (zI (so))), some (.int (zI (g))), some (.int (zI (k))), some (.int (zI (spCnt t hs S 3))), some (.int (zI (r))), some (.int (zI (spRow S r 0))), none, none, none, none, none, none] [] := by
      intro hso14
      have hlk := lwZ_r k (n := 4) (by decide)
      refine x_iconst dL_changes_681 ?_
      refine x_iload_n dL_changes_682 rfl ?_
      refine x_iconst dL_changes_683 ?_
      refine p_S dL_changes_684 lL_40 (c_L_low sz _ ⟨by omega, by omega⟩) rfl rfl rfl (by decide) ?_
      refine x_iadd dL_changes_687 ?_
      refine x_istore dL_changes_688 rfl rfl rfl ?_
      refine x_aload_n dL_changes_690 rfl ?_
      refine x_iload dL_changes_691 rfl ?_
      refine i_V dL_changes_693 lL_81 (c_X8_foldLevel sz hO ⟨by omega, by omega⟩) hO.1.1 rfl rfl rfl rfl (by decide) (fun z2 h2 ⟨A2, hSp2, hOu2, hF2⟩ => ?_)
      have hABx := hOu2.AB
      have hAF := flev_fact hAB hI hABx hSp2 (by omega)
      have hI2 := inv_flev hI hSp2
      obtain ⟨hT2, hSt2⟩ := stp_flev hT hSp2
      obtain ⟨t2, hs2, sp2, b2, S2⟩ := A2
      dsimp only at hAF
      obtain ⟨qc2q, d2, D2, hO⟩ := id hOu2
      have hO : OuR h2 x t2 hs2 sp2 b2 qc2q d2 S2 D2 := hO
      have hAB2 := hO.AB
      have hS2 : InvS S2 := hI2.2.1
      have hB2 : StB S2 := hAB2.2.2.1
      have hWf := hS2.wf
      have hLk2 := hS2.lk hB2.2.2
      have hcr2 := cnt_rows hS2 hB2 t2 hs2
      have hc32 : spCnt t2 hs2 S2 3 = rwN S2 := rfl
      have hd402 := hS2.1.1
      obtain ⟨hA1, hA2, hA3⟩ := hAF
      refine x_istore dL_changes_696 rfl rfl rfl ?_
      refine x_aload_n dL_changes_698 rfl ?_
      refine x_iconst dL_changes_699 ?_
      refine p_V dL_changes_700 lL_13 (c_X8_count sz hO ⟨by omega, by omega⟩) hO.1.1 rfl rfl rfl rfl (by decide) ?_
      refine x_istore dL_changes_703 rfl rfl rfl ?_
      refine x_iconst dL_changes_705 ?_
      refine x_istore dL_changes_706 rfl rfl rfl ?_
      refine x_loop (fun _ : Int => h2) (fun kk => [some (.ref x), some (.int (zI (so))), some (.int (zI (g))), some (.int (zI (k))), some (.int (zI (spCnt t hs S 3))), some (.int (zI (r))), some (.int (zI (spRow S r 0))), some (.int (zI (1 + lwZ k 4))), some (.int (zI (z2))), some (.int (zI (spCnt t2 hs2 S2 3))), some (.int (zI (kk))), none, none]) (fun kk => 0 ≤ kk ∧ kk ≤ rwN S2) (fun kk => (rwN S2 - kk).toNat) 0 rfl rfl (by omega) ?_
      intro kk ⟨k1, k2⟩ ihq
      try dsimp only at k1 k2 ihq ⊢
      refine x_iload dL_changes_708 rfl ?_
      refine x_iload dL_changes_710 rfl ?_
      refine x_icmp_ge dL_changes_712 ⟨by omega, by omega⟩ ⟨by omega, by omega⟩ (fun qc712q => ?_) (fun qc712q => ?_)
      · refine x_iload dL_changes_780 rfl ?_
        refine x_bipush dL_changes_782 (by decide) ?_
        refine x_icmp_eq dL_changes_784 ⟨by omega, by omega⟩ ⟨by omega, by omega⟩ (fun qc784q => ?_) (fun qc784q => ?_)
        · refine x_iconst dL_changes_794 ?_
          refine x_goto dL_changes_795 ?_
          refine x_zreturn dL_changes_799 rfl (by omega) ?_
          exact ⟨1, rfl, rfl, _, hOu2, hI2, hT2, hSt2, hF2⟩
        · refine x_iload dL_changes_787 rfl ?_
          refine x_iload dL_changes_789 rfl ?_
          refine x_icmp_ne dL_changes_791 ⟨by omega, by omega⟩ ⟨by omega, by omega⟩ (fun qc791q => ?_) (fun qc791q => ?_)
          · exfalso; omega
          · refine x_iconst dL_changes_794 ?_
            refine x_goto dL_changes_795 ?_
            refine x_zreturn dL_changes_799 rfl (by omega) ?_
            exact ⟨1, rfl, rfl, _, hOu2, hI2, hT2, hSt2, hF2⟩
      · obtain ⟨w1, w4, w3, wa, wb⟩ := hA2 kk k1 (by omega)
        refine x_aload_n dL_changes_715 rfl ?_
        refine x_iload dL_changes_716 rfl ?_
        refine x_iconst dL_changes_718 ?_
        refine p_V dL_changes_719 lL_21 (c_X8_row sz hO hWf ⟨by omega, by omega⟩ ⟨by omega, by omega⟩) hO.1.1 rfl rfl rfl rfl (by decide) ?_
        refine x_istore dL_changes_722 rfl rfl rfl ?_
        refine x_aload_n dL_changes_724 rfl ?_
        refine x_iload dL_changes_725 rfl ?_
        refine x_iconst dL_changes_727 ?_
        refine p_V dL_changes_728 lL_21 (c_X8_row sz hO hWf ⟨by omega, by omega⟩ ⟨by omega, by omega⟩) hO.1.1 rfl rfl rfl rfl (by decide) ?_
        refine x_istore dL_changes_731 rfl rfl rfl ?_
        refine x_iload dL_changes_733 rfl ?_
        refine x_iload dL_changes_735 rfl ?_
        refine x_icmp_gt dL_changes_737 ⟨by omega, by omega⟩ ⟨by omega, by omega⟩ (fun qc737q => ?_) (fun qc737q => ?_)
        · exfalso; omega
        · have J769 : ∀ v : Int, v = spRow S2 kk 4 → XM mL_changes 63 0 0 (QI (fun z h' => z = 1 ∧ ∃ A', OuA h' x A' ∧ InvA A' ∧ InvT A' ∧ Stpd (t, hs, sp, b, S) A' ∧ Fr h h' x (x + 107))) 0 0 sz h2 769 [some (.ref x), some (.int (zI (so))), some (.int (zI (g))), some (.int (zI (k))), some (.int (zI (spCnt t hs S 3))), some (.int (zI (r))), some (.int (zI (spRow S r 0))), some (.int (zI (1 + lwZ k 4))), some (.int (zI (z2))), some (.int (zI (spCnt t2 hs2 S2 3))), some (.int (zI (kk))), some (.int (zI (spRow S2 kk 1))), some (.int (zI (spRow S2 kk 4)))] [.int (zI v), .int (zI (spRow S2 kk 4))] := by
            intro v hv
            refine x_icmp_eq dL_changes_769 ⟨by omega, by omega⟩ ⟨by omega, by omega⟩ (fun qc769q => ?_) (fun qc769q => ?_)
            · refine x_iinc dL_changes_774 rfl rfl rfl ?_
              refine x_goto dL_changes_777 ?_
              refine x_kill 12 ?_
              refine x_kill 11 ?_
              exact ihq (kk + 1) ⟨by omega, by omega⟩ (by omega)
            · exfalso; omega
          refine x_iload dL_changes_740 rfl ?_
          refine x_iload dL_changes_742 rfl ?_
          refine x_iload dL_changes_744 rfl ?_
          refine x_icmp_lt dL_changes_746 ⟨by omega, by omega⟩ ⟨by omega, by omega⟩ (fun qc746q => ?_) (fun qc746q => ?_)
          · refine x_iconst dL_changes_764 ?_
            refine x_goto dL_changes_765 ?_
            exact J769 _ (by omega)
          · refine x_iload dL_changes_749 rfl ?_
            refine x_if_ne dL_changes_751 ⟨by omega, by omega⟩ (fun qc751q => ?_) (fun qc751q => ?_)
            · refine x_iconst dL_changes_768 ?_
              exact J769 _ (by omega)
            · refine x_aload_n dL_changes_754 rfl ?_
              refine x_iload dL_changes_755 rfl ?_
              refine x_iconst dL_changes_757 ?_
              refine p_V dL_changes_758 lL_21 (c_X8_row sz hO hWf ⟨by omega, by omega⟩ ⟨by omega, by omega⟩) hO.1.1 rfl rfl rfl rfl (by decide) ?_
              refine x_if_ne dL_changes_761 ⟨by omega, by omega⟩ (fun qc761q => ?_) (fun qc761q => ?_)
              · exfalso; have := wb (by omega) (by omega); omega
              · refine x_iconst dL_changes_764 ?_
                refine x_goto dL_changes_765 ?_
                exact J769 _ (by omega)
    have J800 : 15 ≤ so → XM mL_changes 63 0 0 (QI (fun z h' => z = 1 ∧ ∃ A', OuA h' x A' ∧ InvA A' ∧ InvT A' ∧ Stpd (t, hs, sp, b, S) A' ∧ Fr h h' x (x + 107))) 0 0 sz h 800 [some (.ref x), some (.int (zI (so))), some (.int (zI (g))), some (.int (zI (k))), some (.int (zI (spCnt t hs S 3))), some (.int (zI (r))), some (.int (zI (spRow S r 0))), none, none, none, none, none, none] [] := by
      intro hso15
      have hlk := lwZ_r k (n := spCnt t hs S 1) (by omega)
      have hr0m := nod0_r hS hB (z := 1 + lwZ k (spCnt t hs S 1)) (by omega)
      have hr5m := nod5_r hS hB (z := 1 + lwZ k (spCnt t hs S 1)) (by omega)
      refine x_iconst dL_changes_800 ?_
      refine x_iload_n dL_changes_801 rfl ?_
      refine x_aload_n dL_changes_802 rfl ?_
      refine x_iconst dL_changes_803 ?_
      refine p_V dL_changes_804 lL_13 (c_X8_count sz hO ⟨by omega, by omega⟩) hO.1.1 rfl rfl rfl rfl (by decide) ?_
      refine p_S dL_changes_807 lL_40 (c_L_low sz _ ⟨by omega, by omega⟩) rfl rfl rfl (by decide) ?_
      refine x_iadd dL_changes_810 ?_
      refine x_istore dL_changes_811 rfl rfl rfl ?_
      refine x_aload_n dL_changes_813 rfl ?_
      refine x_iload dL_changes_814 rfl ?_
      refine x_iconst dL_changes_816 ?_
      refine p_V dL_changes_817 lL_27 (c_X8_node sz hO hWf ⟨by omega, by omega⟩ ⟨by omega, by omega⟩) hO.1.1 rfl rfl rfl rfl (by decide) ?_
      refine x_istore dL_changes_820 rfl rfl rfl ?_
      refine x_aload_n dL_changes_822 rfl ?_
      refine x_iload dL_changes_823 rfl ?_
      refine i_V dL_changes_825 lL_84 (c_X8_show sz hO ⟨by omega, by omega⟩) hO.1.1 rfl rfl rfl rfl (by decide) (fun z2 h2 ⟨A2, hSp2, hOu2, hF2⟩ => ?_)
      have hABx := hOu2.AB
      have hAF := show_fact hAB hI hABx hSp2
      have hI2 := inv_show hI hSp2
      obtain ⟨hT2, hSt2⟩ := stp_show hT hSp2
      obtain ⟨t2, hs2, sp2, b2, S2⟩ := A2
      dsimp only at hAF
      obtain ⟨qc2q, d2, D2, hO⟩ := id hOu2
      have hO : OuR h2 x t2 hs2 sp2 b2 qc2q d2 S2 D2 := hO
      have hAB2 := hO.AB
      have hS2 : InvS S2 := hI2.2.1
      have hB2 : StB S2 := hAB2.2.2.1
      have hWf := hS2.wf
      have hLk2 := hS2.lk hB2.2.2
      have hcr2 := cnt_rows hS2 hB2 t2 hs2
      have hc32 : spCnt t2 hs2 S2 3 = rwN S2 := rfl
      have hd402 := hS2.1.1
      obtain ⟨hA1, hA2, hA3, hA4⟩ := hAF
      have hr0n := nod0_r hS2 hB2 (z := 1 + lwZ k (spCnt t hs S 1)) (by omega)
      have hr5n := nod5_r hS2 hB2 (z := 1 + lwZ k (spCnt t hs S 1)) (by omega)
      refine x_istore dL_changes_828 rfl rfl rfl ?_
      refine x_aload_n dL_changes_830 rfl ?_
      refine x_iload dL_changes_831 rfl ?_
      refine x_iconst dL_changes_833 ?_
      refine p_V dL_changes_834 lL_27 (c_X8_node sz hO hWf ⟨by omega, by omega⟩ ⟨by omega, by omega⟩) hO.1.1 rfl rfl rfl rfl (by decide) ?_
      refine x_bipush dL_changes_837 (by decide) ?_
      refine x_icmp_ne dL_changes_839 ⟨by omega, by omega⟩ ⟨by omega, by omega⟩ (fun qc839q => ?_) (fun qc839q => ?_)
      · refine x_iload dL_changes_855 rfl ?_
        refine x_bipush dL_changes_857 (by decide) ?_
        refine x_icmp_ne dL_changes_859 ⟨by omega, by omega⟩ ⟨by omega, by omega⟩ (fun qc859q => ?_) (fun qc859q => ?_)
        · have hA5 := (hA3 (by omega)).resolve_left (fun q => by omega)
          refine x_aload_n dL_changes_875 rfl ?_
          refine x_iload dL_changes_876 rfl ?_
          refine x_iconst dL_changes_878 ?_
          refine p_V dL_changes_879 lL_27 (c_X8_node sz hO hWf ⟨by omega, by omega⟩ ⟨by omega, by omega⟩) hO.1.1 rfl rfl rfl rfl (by decide) ?_
          refine x_iload dL_changes_882 rfl ?_
          refine x_icmp_ne dL_changes_884 ⟨by omega, by omega⟩ ⟨by omega, by omega⟩ (fun qc884q => ?_) (fun qc884q => ?_)
          · exfalso; omega
          · refine x_aload_n dL_changes_887 rfl ?_
            refine x_iload dL_changes_888 rfl ?_
            refine x_iconst dL_changes_890 ?_
            refine p_V dL_changes_891 lL_21 (c_X8_row sz hO hWf ⟨by omega, by omega⟩ ⟨by omega, by omega⟩) hO.1.1 rfl rfl rfl rfl (by decide) ?_
            refine x_iload dL_changes_894 rfl ?_
            refine x_icmp_ne dL_changes_896 ⟨by omega, by omega⟩ ⟨by omega, by omega⟩ (fun qc896q => ?_) (fun qc896q => ?_)
            · exfalso; omega
            · refine x_iconst dL_changes_899 ?_
              refine x_goto dL_changes_900 ?_
              refine x_zreturn dL_changes_904 rfl (by omega) ?_
              exact ⟨1, rfl, rfl, _, hOu2, hI2, hT2, hSt2, hF2⟩
        · have hA5 := hA3 (by omega)
          refine x_iload dL_changes_862 rfl ?_
          refine x_if_lt dL_changes_864 ⟨by omega, by omega⟩ (fun qc864q => ?_) (fun qc864q => ?_)
          · exfalso; omega
          · refine x_iconst dL_changes_867 ?_
            refine x_goto dL_changes_868 ?_
            refine x_zreturn dL_changes_904 rfl (by omega) ?_
            exact ⟨1, rfl, rfl, _, hOu2, hI2, hT2, hSt2, hF2⟩
      · refine x_iload dL_changes_842 rfl ?_
        refine x_bipush dL_changes_844 (by decide) ?_
        refine x_icmp_ne dL_changes_846 ⟨by omega, by omega⟩ ⟨by omega, by omega⟩ (fun qc846q => ?_) (fun qc846q => ?_)
        · exfalso; omega
        · refine x_iconst dL_changes_849 ?_
          refine x_goto dL_changes_850 ?_
          refine x_zreturn dL_changes_854 rfl (by omega) ?_
          exact ⟨1, rfl, rfl, _, hOu2, hI2, hT2, hSt2, hF2⟩
    refine x_istore dL_changes_67 rfl rfl rfl ?_
    refine x_aload_n dL_changes_69 rfl ?_
    refine x_iload dL_changes_70 rfl ?_
    refine x_iconst dL_changes_72 ?_
    refine p_V dL_changes_73 lL_21 (c_X8_row sz hO hWf ⟨by omega, by omega⟩ ⟨by omega, by omega⟩) hO.1.1 rfl rfl rfl rfl (by decide) ?_
    refine x_istore dL_changes_76 rfl rfl rfl ?_
    refine x_iload_n dL_changes_78 rfl ?_
    refine x_bipush dL_changes_79 (by decide) ?_
    refine x_icmp_ne dL_changes_81 ⟨by omega, by omega⟩ ⟨by omega, by omega⟩ (fun qc81q => ?_) (fun qc81q => ?_)
    · refine x_iload_n dL_changes_273 rfl ?_
      refine x_bipush dL_changes_274 (by decide) ?_
      refine x_icmp_ne dL_changes_276 ⟨by omega, by omega⟩ ⟨by omega, by omega⟩ (fun qc276q => ?_) (fun qc276q => ?_)
      · refine x_iload_n dL_changes_348 rfl ?_
        refine x_bipush dL_changes_349 (by decide) ?_
        refine x_icmp_ne dL_changes_351 ⟨by omega, by omega⟩ ⟨by omega, by omega⟩ (fun qc351q => ?_) (fun qc351q => ?_)
        · refine x_iload_n dL_changes_511 rfl ?_
          refine x_bipush dL_changes_512 (by decide) ?_
          refine x_icmp_ge dL_changes_514 ⟨by omega, by omega⟩ ⟨by omega, by omega⟩ (fun qc514q => ?_) (fun qc514q => ?_)
          · refine x_iload_n dL_changes_675 rfl ?_
            refine x_bipush dL_changes_676 (by decide) ?_
            refine x_icmp_ne dL_changes_678 ⟨by omega, by omega⟩ ⟨by omega, by omega⟩ (fun qc678q => ?_) (fun qc678q => ?_)
            · exact J800 (by omega)
            · exact J681 (by omega)
          · exact J517 (by omega)
        · exact J354 (by omega)
      · exact J279 (by omega)
    · exact J84 (by omega)
  refine x_aload_n dL_changes_0 rfl ?_
  refine x_iconst dL_changes_1 ?_
  refine p_V dL_changes_2 lL_13 (c_X8_count sz hO ⟨by omega, by omega⟩) hO.1.1 rfl rfl rfl rfl (by decide) ?_
  refine x_istore dL_changes_5 rfl rfl rfl ?_
  refine x_iload dL_changes_7 rfl ?_
  refine x_if_ne dL_changes_9 ⟨by omega, by omega⟩ (fun qc9q => ?_) (fun qc9q => ?_)
  · have hgr := lwZ_r g (n := spCnt t hs S 3) (by omega)
    refine x_iload_n dL_changes_61 rfl ?_
    refine x_iload dL_changes_62 rfl ?_
    refine p_S dL_changes_64 lL_40 (c_L_low sz _ ⟨by omega, by omega⟩) rfl rfl rfl (by decide) ?_
    exact J67 _ (by omega) (by omega)
  · have hpn : plZ S.2.2.2.2 0 = -2 := plZ_no (by right; show rwN S ≤ 0; omega)
    have hF0 : Fr h h x (x + 107) := Fr.rf
    refine x_aload_n dL_changes_12 rfl ?_
    refine x_iconst dL_changes_13 ?_
    refine x_iconst dL_changes_14 ?_
    refine i_V dL_changes_15 lL_65 (c_X8_shift sz hO hWf hLk ⟨by omega, by omega⟩ ⟨by omega, by omega⟩ (fun _ M a b hm => ⟨(kd_sh hS hm).1.dp, by rw [(kd_sh hS hm).2]; exact hB.2.2.1⟩)) hO.1.1 rfl rfl rfl rfl (by decide) (fun z2 h2 ⟨A2, hSp2, hOu2, hF2⟩ => ?_)
    obtain ⟨hz2, rfl⟩ := shift_no hSp2 hpn
    subst hz2
    obtain ⟨qc2q, d2, D2, hO⟩ := id hOu2
    have hO : OuR h2 x t hs sp b qc2q d2 S D2 := hO
    have hF0 := hF0.tr hF2
    refine x_bipush dL_changes_18 (by decide) ?_
    refine x_icmp_ne dL_changes_20 ⟨by omega, by omega⟩ ⟨by omega, by omega⟩ (fun qc20q => ?_) (fun qc20q => ?_)
    · exfalso; omega
    · refine x_aload_n dL_changes_23 rfl ?_
      refine x_iconst dL_changes_24 ?_
      refine x_iconst dL_changes_25 ?_
      refine i_V dL_changes_26 lL_68 (c_X8_mark sz hO hWf ⟨by omega, by omega⟩ ⟨by omega, by omega⟩) hO.1.1 rfl rfl rfl rfl (by decide) (fun z3 h3 ⟨A3, hSp3, hOu3, hF3⟩ => ?_)
      obtain ⟨hz3, rfl⟩ := mark_no hSp3 hpn
      subst hz3
      obtain ⟨qc3q, d3, D3, hO⟩ := id hOu3
      have hO : OuR h3 x t hs sp b qc3q d3 S D3 := hO
      have hF0 := hF0.tr hF3
      refine x_bipush dL_changes_29 (by decide) ?_
      refine x_icmp_ne dL_changes_31 ⟨by omega, by omega⟩ ⟨by omega, by omega⟩ (fun qc31q => ?_) (fun qc31q => ?_)
      · exfalso; omega
      · refine x_aload_n dL_changes_34 rfl ?_
        refine x_iconst dL_changes_35 ?_
        refine x_iconst dL_changes_36 ?_
        refine i_V dL_changes_37 lL_71 (c_X8_fold sz hO ⟨by omega, by omega⟩ (f := 1) (by omega)) hO.1.1 rfl rfl rfl rfl (by decide) (fun z4 h4 ⟨A4, hSp4, hOu4, hF4⟩ => ?_)
        obtain ⟨hz4, rfl⟩ := fold_no hSp4 hpn
        subst hz4
        obtain ⟨qc4q, d4, D4, hO⟩ := id hOu4
        have hO : OuR h4 x t hs sp b qc4q d4 S D4 := hO
        have hF0 := hF0.tr hF4
        refine x_bipush dL_changes_40 (by decide) ?_
        refine x_icmp_ne dL_changes_42 ⟨by omega, by omega⟩ ⟨by omega, by omega⟩ (fun qc42q => ?_) (fun qc42q => ?_)
        · exfalso; omega
        · refine x_aload_n dL_changes_45 rfl ?_
          refine x_iconst dL_changes_46 ?_
          refine i_V dL_changes_47 lL_75 (c_X8_edit sz hO hWf ⟨by omega, by omega⟩) hO.1.1 rfl rfl rfl rfl (by decide) (fun z5 h5 ⟨A5, hSp5, hOu5, hF5⟩ => ?_)
          obtain ⟨hz5, rfl⟩ := edit_no hSp5 hpn
          subst hz5
          obtain ⟨qc5q, d5, D5, hO⟩ := id hOu5
          have hO : OuR h5 x t hs sp b qc5q d5 S D5 := hO
          have hF0 := hF0.tr hF5
          refine x_bipush dL_changes_50 (by decide) ?_
          refine x_icmp_ne dL_changes_52 ⟨by omega, by omega⟩ ⟨by omega, by omega⟩ (fun qc52q => ?_) (fun qc52q => ?_)
          · exfalso; omega
          · refine x_iconst dL_changes_55 ?_
            refine x_goto dL_changes_56 ?_
            refine x_zreturn dL_changes_60 rfl (by omega) ?_
            exact ⟨1, rfl, rfl, _, hOu5, hI, hT, Stpd.no _, hF0⟩

