/-! nodes: how many there are, their places and rows. -/
theorem nod_atZ {S : CS} (hI : InvS S) (hB : StB S) {z : Int} (hz : 0 ≤ z) (h : ¬ spNod S z 0 = -2) :
    (1 ≤ spNod S z 0 ∧ spNod S z 0 ≤ 120) ∧ (spNod S z 0 ≤ spNod S z 1 ∧ spNod S z 1 ≤ 120) ∧ (0 ≤ spNod S z 2 ∧ spNod S z 2 ≤ 120) ∧ (spNod S z 5 = -6 ↔ spNod S z 2 = 0) ∧ (-6 ≤ spNod S z 5 ∧ spNod S z 5 ≤ 120) ∧ (0 ≤ spNod S z 3 ∧ spNod S z 3 ≤ spNod S z 7 ∧ spNod S z 7 ≤ 48) ∧ spNod S z 8 = -3 := by
  obtain ⟨y, rfl⟩ : ∃ y : Nat, z = y := ⟨z.toNat, by omega⟩
  exact nod_at hI hB (fun q => h (sp_nod0 0 q))
theorem nod0_r {S : CS} (hI : InvS S) (hB : StB S) {z : Int} (hz : 0 ≤ z) : -2 ≤ spNod S z 0 ∧ spNod S z 0 ≤ 120 := by
  by_cases h : spNod S z 0 = -2
  · omega
  · have := nod_atZ hI hB hz h
    omega
theorem nod_dead {S : CS} {z : Int} (h1 : 1 ≤ z) (h : spNod S z 0 = -2) : cZ (alF S) z = cZ (alF S) (z - 1) ∧ (∀ v, sZ (nuF S v) z = sZ (nuF S v) (z - 1)) ∧ cZ (shF S) z = cZ (shF S) (z - 1) := by
  obtain ⟨y, rfl⟩ : ∃ y : Nat, z = (y : Int) + 1 := ⟨(z - 1).toNat, by omega⟩
  rw [show (y : Int) + 1 - 1 = y by omega]
  have e : ((y + 1 : Nat) : Int) = (y : Int) + 1 := by omega
  refine ⟨cZ_f (by omega) ?_, fun v => ?_, cZ_f (by omega) ?_⟩
  · rw [Int.toNat_natCast]
    unfold alF
    rw [e]
    exact decide_eq_false (fun q => q h)
  · rw [sZ_s _ (by omega), Int.toNat_natCast]
    unfold nuF
    rw [e, if_pos h]
    omega
  · rw [Int.toNat_natCast]
    unfold shF
    rw [e]
    exact decide_eq_false (by omega)
theorem nod_live {S : CS} {z : Int} (h1 : 1 ≤ z) (h : ¬ spNod S z 0 = -2) : cZ (alF S) z = cZ (alF S) (z - 1) + 1 ∧ (∀ v, 0 ≤ spNod S z v → sZ (nuF S v) z = sZ (nuF S v) (z - 1) + spNod S z v) ∧ cZ (shF S) z = cZ (shF S) (z - 1) + (if 1 < spNod S z 0 then 1 else 0) := by
  obtain ⟨y, rfl⟩ : ∃ y : Nat, z = (y : Int) + 1 := ⟨(z - 1).toNat, by omega⟩
  rw [show (y : Int) + 1 - 1 = y by omega]
  have e : ((y + 1 : Nat) : Int) = (y : Int) + 1 := by omega
  refine ⟨cZ_t (by omega) ?_, fun v hv => ?_, ?_⟩
  · rw [Int.toNat_natCast]
    unfold alF
    rw [e]
    exact decide_eq_true h
  · rw [sZ_s _ (by omega), Int.toNat_natCast]
    unfold nuF
    rw [e, if_neg h]
    omega
  · by_cases q : 1 < spNod S ((y : Int) + 1) 0
    · rw [if_pos q]
      refine cZ_t (by omega) ?_
      rw [Int.toNat_natCast]
      unfold shF
      rw [e]
      exact decide_eq_true q
    · rw [if_neg q, Int.add_zero]
      refine cZ_f (by omega) ?_
      rw [Int.toNat_natCast]
      unfold shF
      rw [e]
      exact decide_eq_false q
theorem fst_no {S : CS} (hI : InvS S) {y : Int} (h : y ≤ 0 ∨ (S.1 : Int) < y) : spNod S y 0 = -2 := sp_nod0 0 (fst_0 hI h)
set_option maxHeartbeats 4000000 in
theorem c_L_nodes (sz : Nat) {h : AH} {x b c d : Nat} {t : List Int} {hs : List CS} {sp S D : CS} (hO : OuR h x t hs sp b c d S D) (hI : InvS S) : CC mL_nodes 6 0 0 [.ref x] sz h (QR 1 h) := by
  refine CC.intro [some (.ref x), none, none, none, none, none, none, none, none, none] pfL_nodes rfl rfl ?_
  have hB : StB S := hO.AB.2.2.1
  have hWf := hI.wf
  obtain ⟨u0, u2, u3, u5, u120, u00⟩ := cnt_all hI hB t hs
  obtain ⟨v4, vt, v120, v0, v41, v42⟩ := cnt_rows hI hB t hs
  have hc3 : spCnt t hs S 3 = rwN S := rfl
  have hc1 : spCnt t hs S 1 = S.1 := rfl
  have hd40 := hI.1.1
  have J197 : ∀ a1 a2 a3 a4 z : Int, a1 = cZ (alF S) S.1 → a2 = sZ (nuF S 1) S.1 → a3 = sZ (nuF S 2) S.1 → a4 = cZ (shF S) S.1 → XM mL_nodes 6 0 0 (QR 1 h) 0 0 sz h 197 [some (.ref x), some (.int (zI (a1))), some (.int (zI (a2))), some (.int (zI (a3))), some (.int (zI (a4))), some (.int (zI (0))), some (.int (zI (spCnt t hs S 1))), some (.int (zI (spCnt t hs S 3))), some (.int (zI (z))), none] [] := by
    intro a1 a2 a3 a4 z g1 g2 g3 g4
    have ga1 := cZ_r (alF S) (i := (S.1 : Int)) (by omega)
    have ga4 := cZ_r (shF S) (i := (S.1 : Int)) (by omega)
    refine x_iconst dL_nodes_197 ?_
    refine x_istore dL_nodes_198 rfl rfl rfl ?_
    refine x_iconst dL_nodes_200 ?_
    refine x_istore dL_nodes_201 rfl rfl rfl ?_
    refine x_loop (fun _ : Int × Int × Int => h) (fun s => [some (.ref x), some (.int (zI (a1))), some (.int (zI (a2))), some (.int (zI (a3))), some (.int (zI (a4))), some (.int (zI (s.2.1))), some (.int (zI (spCnt t hs S 1))), some (.int (zI (spCnt t hs S 3))), some (.int (zI (s.2.2))), some (.int (zI (s.1)))]) (fun s => (0 ≤ s.1 ∧ s.1 ≤ rwN S) ∧ s.2.1 = cZ (fun m => decide (spRow S (m : Int) 1 = 1)) s.1 ∧ s.2.2 = sZ (fun r => (spRow S (r : Int) 4).toNat) s.1 ∧ (0 ≤ s.2.2 ∧ s.2.2 ≤ s.1)) (fun s => (rwN S - s.1).toNat) (0, 0, 0) rfl rfl ⟨by dsimp only; omega, rfl, rfl, by dsimp only; omega⟩ ?_
    rintro ⟨r, tp, fo⟩ ⟨r1, r2, r3, r4⟩ ihq
    dsimp only at r1 r2 r3 r4 ihq ⊢
    have htr := cZ_r (fun m => decide (spRow S (m : Int) 1 = 1)) (i := r) r1.1
    refine x_iload dL_nodes_203 rfl ?_
    refine x_iload dL_nodes_205 rfl ?_
    refine x_icmp_ge dL_nodes_207 ⟨by omega, by omega⟩ ⟨by omega, by omega⟩ (fun qc207q => ?_) (fun qc207q => ?_)
    · have hrr : r = rwN S := by omega
      have k1 : spNod S (spCnt t hs S 1 + 1) 0 = -2 := fst_no hI (y := (S.1 : Int) + 1) (by omega)
      have k2 := fst_no hI (y := 0) (by omega)
      have k3 : spRow S (spCnt t hs S 3) 0 = -2 := row_no (S := S) (r := rwN S) (by omega) 0
      have k4 := row_no (S := S) (r := -1) (by omega) 0
      have htpr : 0 ≤ tp ∧ tp ≤ 120 := by omega
      rw [hrr] at r2 r3
      have J318 : ∀ v u : Int, v = u → (0 ≤ v ∧ v ≤ 1) → XM mL_nodes 6 0 0 (QR 1 h) 0 0 sz h 318 [some (.ref x), some (.int (zI (a1))), some (.int (zI (a2))), some (.int (zI (a3))), some (.int (zI (a4))), some (.int (zI (tp))), some (.int (zI (spCnt t hs S 1))), some (.int (zI (spCnt t hs S 3))), some (.int (zI (fo))), some (.int (zI (r)))] [.int (zI u), .int (zI v)] := by
        intro v u hvu hv1
        refine x_icmp_ne dL_nodes_318 ⟨by omega, by omega⟩ ⟨by omega, by omega⟩ (fun qc318q => ?_) (fun qc318q => ?_)
        · exfalso; omega
        · refine x_aload_n dL_nodes_321 rfl ?_
          refine x_iload dL_nodes_322 rfl ?_
          refine x_iconst dL_nodes_324 ?_
          refine x_iadd dL_nodes_325 ?_
          refine x_iconst dL_nodes_326 ?_
          refine p_V dL_nodes_327 lL_27 (c_X8_node sz hO hWf ⟨by omega, by omega⟩ ⟨by omega, by omega⟩) hO.1.1 rfl rfl rfl rfl (by decide) ?_
          refine x_bipush dL_nodes_330 (by decide) ?_
          refine x_icmp_ne dL_nodes_332 ⟨by omega, by omega⟩ ⟨by omega, by omega⟩ (fun qc332q => ?_) (fun qc332q => ?_)
          · exfalso; omega
          · refine x_aload_n dL_nodes_335 rfl ?_
            refine x_iconst dL_nodes_336 ?_
            refine x_iconst dL_nodes_337 ?_
            refine p_V dL_nodes_338 lL_27 (c_X8_node sz hO hWf ⟨by omega, by omega⟩ ⟨by omega, by omega⟩) hO.1.1 rfl rfl rfl rfl (by decide) ?_
            refine x_bipush dL_nodes_341 (by decide) ?_
            refine x_icmp_ne dL_nodes_343 ⟨by omega, by omega⟩ ⟨by omega, by omega⟩ (fun qc343q => ?_) (fun qc343q => ?_)
            · exfalso; omega
            · refine x_aload_n dL_nodes_346 rfl ?_
              refine x_iload dL_nodes_347 rfl ?_
              refine x_iconst dL_nodes_349 ?_
              refine p_V dL_nodes_350 lL_21 (c_X8_row sz hO hWf ⟨by omega, by omega⟩ ⟨by omega, by omega⟩) hO.1.1 rfl rfl rfl rfl (by decide) ?_
              refine x_bipush dL_nodes_353 (by decide) ?_
              refine x_icmp_ne dL_nodes_355 ⟨by omega, by omega⟩ ⟨by omega, by omega⟩ (fun qc355q => ?_) (fun qc355q => ?_)
              · exfalso; omega
              · refine x_aload_n dL_nodes_358 rfl ?_
                refine x_iconst dL_nodes_359 ?_
                refine x_iconst dL_nodes_360 ?_
                refine p_V dL_nodes_361 lL_21 (c_X8_row sz hO hWf ⟨by omega, by omega⟩ ⟨by omega, by omega⟩) hO.1.1 rfl rfl rfl rfl (by decide) ?_
                refine x_bipush dL_nodes_364 (by decide) ?_
                refine x_icmp_ne dL_nodes_366 ⟨by omega, by omega⟩ ⟨by omega, by omega⟩ (fun qc366q => ?_) (fun qc366q => ?_)
                · exfalso; omega
                · refine x_iconst dL_nodes_369 ?_
                  refine x_goto dL_nodes_370 ?_
                  refine x_zreturn dL_nodes_374 rfl (by omega) ?_
                  exact ⟨rfl, rfl⟩
      have J308 : ∀ v : Int, (0 ≤ v ∧ v ≤ 1) → (v = 1 ↔ a1 = 0) → XM mL_nodes 6 0 0 (QR 1 h) 0 0 sz h 308 [some (.ref x), some (.int (zI (a1))), some (.int (zI (a2))), some (.int (zI (a3))), some (.int (zI (a4))), some (.int (zI (tp))), some (.int (zI (spCnt t hs S 1))), some (.int (zI (spCnt t hs S 3))), some (.int (zI (fo))), some (.int (zI (r)))] [.int (zI v)] := by
        intro v hv1 hv2
        refine x_iload dL_nodes_308 rfl ?_
        refine x_if_ne dL_nodes_310 ⟨by omega, by omega⟩ (fun qc310q => ?_) (fun qc310q => ?_)
        · refine x_iconst dL_nodes_317 ?_
          exact J318 _ _ (by omega) hv1
        · refine x_iconst dL_nodes_313 ?_
          refine x_goto dL_nodes_314 ?_
          exact J318 _ _ (by omega) hv1
      refine x_aload_n dL_nodes_249 rfl ?_
      refine x_iconst dL_nodes_250 ?_
      refine p_V dL_nodes_251 lL_13 (c_X8_count sz hO ⟨by omega, by omega⟩) hO.1.1 rfl rfl rfl rfl (by decide) ?_
      refine x_iload_n dL_nodes_254 rfl ?_
      refine x_icmp_ne dL_nodes_255 ⟨by omega, by omega⟩ ⟨by omega, by omega⟩ (fun qc255q => ?_) (fun qc255q => ?_)
      · exfalso; omega
      · refine x_aload_n dL_nodes_258 rfl ?_
        refine x_iconst dL_nodes_259 ?_
        refine p_V dL_nodes_260 lL_13 (c_X8_count sz hO ⟨by omega, by omega⟩) hO.1.1 rfl rfl rfl rfl (by decide) ?_
        refine x_iload_n dL_nodes_263 rfl ?_
        refine x_icmp_ne dL_nodes_264 ⟨by omega, by omega⟩ ⟨by omega, by omega⟩ (fun qc264q => ?_) (fun qc264q => ?_)
        · exfalso; omega
        · refine x_iload dL_nodes_267 rfl ?_
          refine x_iload_n dL_nodes_269 rfl ?_
          refine x_icmp_ne dL_nodes_270 ⟨by omega, by omega⟩ ⟨by omega, by omega⟩ (fun qc270q => ?_) (fun qc270q => ?_)
          · exfalso; omega
          · refine x_aload_n dL_nodes_273 rfl ?_
            refine x_iconst dL_nodes_274 ?_
            refine p_V dL_nodes_275 lL_13 (c_X8_count sz hO ⟨by omega, by omega⟩) hO.1.1 rfl rfl rfl rfl (by decide) ?_
            refine x_iload dL_nodes_278 rfl ?_
            refine x_icmp_ne dL_nodes_280 ⟨by omega, by omega⟩ ⟨by omega, by omega⟩ (fun qc280q => ?_) (fun qc280q => ?_)
            · exfalso; omega
            · refine x_iload_n dL_nodes_283 rfl ?_
              refine x_bipush dL_nodes_284 (by decide) ?_
              refine x_icmp_gt dL_nodes_286 ⟨by omega, by omega⟩ ⟨by omega, by omega⟩ (fun qc286q => ?_) (fun qc286q => ?_)
              · exfalso; omega
              · refine x_iload dL_nodes_289 rfl ?_
                refine x_aload_n dL_nodes_291 rfl ?_
                refine x_iconst dL_nodes_292 ?_
                refine p_V dL_nodes_293 lL_13 (c_X8_count sz hO ⟨by omega, by omega⟩) hO.1.1 rfl rfl rfl rfl (by decide) ?_
                refine x_icmp_gt dL_nodes_296 ⟨by omega, by omega⟩ ⟨by omega, by omega⟩ (fun qc296q => ?_) (fun qc296q => ?_)
                · exfalso; omega
                · refine x_iload_n dL_nodes_299 rfl ?_
                  refine x_if_ne dL_nodes_300 ⟨by omega, by omega⟩ (fun qc300q => ?_) (fun qc300q => ?_)
                  · refine x_iconst dL_nodes_307 ?_
                    exact J308 _ (by omega) (by omega)
                  · refine x_iconst dL_nodes_303 ?_
                    refine x_goto dL_nodes_304 ?_
                    exact J308 _ (by omega) (by omega)
    · have hsn := snd_at hI hB r1.1 (by omega)
      have J228 : ∀ v : Int, (0 ≤ v ∧ v ≤ 1) → (v = 1 ↔ spRow S r 1 = 1) → XM mL_nodes 6 0 0 (QR 1 h) 0 0 sz h 228 [some (.ref x), some (.int (zI (a1))), some (.int (zI (a2))), some (.int (zI (a3))), some (.int (zI (a4))), some (.int (zI (tp))), some (.int (zI (spCnt t hs S 1))), some (.int (zI (spCnt t hs S 3))), some (.int (zI (fo))), some (.int (zI (r)))] [.int (zI v), .int (zI tp)] := by
        intro v hv1 hv2
        refine x_iadd dL_nodes_228 ?_
        refine x_istore dL_nodes_229 rfl rfl rfl ?_
        refine x_iload dL_nodes_231 rfl ?_
        refine x_aload_n dL_nodes_233 rfl ?_
        refine x_iload dL_nodes_234 rfl ?_
        refine x_iconst dL_nodes_236 ?_
        refine p_V dL_nodes_237 lL_21 (c_X8_row sz hO hWf ⟨by omega, by omega⟩ ⟨by omega, by omega⟩) hO.1.1 rfl rfl rfl rfl (by decide) ?_
        refine x_iadd dL_nodes_240 ?_
        refine x_istore dL_nodes_241 rfl rfl rfl ?_
        refine x_iinc dL_nodes_243 rfl rfl rfl ?_
        refine x_goto dL_nodes_246 ?_
        have hfo : sZ (fun r => (spRow S (r : Int) 4).toNat) (r + 1) = sZ (fun r => (spRow S (r : Int) 4).toNat) r + spRow S r 4 := by
          rw [sZ_s _ r1.1, show ((r.toNat : Nat) : Int) = r by omega]
          omega
        have htp : cZ (fun m => decide (spRow S (m : Int) 1 = 1)) (r + 1) = cZ (fun m => decide (spRow S (m : Int) 1 = 1)) r + v := by
          by_cases q : spRow S r 1 = 1
          · rw [cZ_t r1.1 (decide_eq_true (by rw [show ((r.toNat : Nat) : Int) = r by omega]; exact q))]
            omega
          · rw [cZ_f r1.1 (decide_eq_false (by rw [show ((r.toNat : Nat) : Int) = r by omega]; exact q))]
            omega
        exact ihq (r + 1, tp + v, fo + spRow S r 4) ⟨by dsimp only; omega, by dsimp only; omega, by dsimp only; omega, by dsimp only; omega⟩ (by dsimp only; omega)
      refine x_iload dL_nodes_210 rfl ?_
      refine x_aload_n dL_nodes_212 rfl ?_
      refine x_iload dL_nodes_213 rfl ?_
      refine x_iconst dL_nodes_215 ?_
      refine p_V dL_nodes_216 lL_21 (c_X8_row sz hO hWf ⟨by omega, by omega⟩ ⟨by omega, by omega⟩) hO.1.1 rfl rfl rfl rfl (by decide) ?_
      refine x_iconst dL_nodes_219 ?_
      refine x_icmp_ne dL_nodes_220 ⟨by omega, by omega⟩ ⟨by omega, by omega⟩ (fun qc220q => ?_) (fun qc220q => ?_)
      · refine x_iconst dL_nodes_227 ?_
        exact J228 _ (by omega) (by omega)
      · refine x_iconst dL_nodes_223 ?_
        refine x_goto dL_nodes_224 ?_
        exact J228 _ (by omega) (by omega)
  refine x_iconst dL_nodes_0 ?_
  refine x_istore_n dL_nodes_1 rfl rfl rfl ?_
  refine x_iconst dL_nodes_2 ?_
  refine x_istore_n dL_nodes_3 rfl rfl rfl ?_
  refine x_iconst dL_nodes_4 ?_
  refine x_istore_n dL_nodes_5 rfl rfl rfl ?_
  refine x_iconst dL_nodes_6 ?_
  refine x_istore dL_nodes_7 rfl rfl rfl ?_
  refine x_iconst dL_nodes_9 ?_
  refine x_istore dL_nodes_10 rfl rfl rfl ?_
  refine x_aload_n dL_nodes_12 rfl ?_
  refine x_iconst dL_nodes_13 ?_
  refine p_V dL_nodes_14 lL_13 (c_X8_count sz hO ⟨by omega, by omega⟩) hO.1.1 rfl rfl rfl rfl (by decide) ?_
  refine x_istore dL_nodes_17 rfl rfl rfl ?_
  refine x_aload_n dL_nodes_19 rfl ?_
  refine x_iconst dL_nodes_20 ?_
  refine p_V dL_nodes_21 lL_13 (c_X8_count sz hO ⟨by omega, by omega⟩) hO.1.1 rfl rfl rfl rfl (by decide) ?_
  refine x_istore dL_nodes_24 rfl rfl rfl ?_
  refine x_iconst dL_nodes_26 ?_
  refine x_istore dL_nodes_27 rfl rfl rfl ?_
  refine x_loop (fun _ : Int × Int × Int × Int × Int => h) (fun s => [some (.ref x), some (.int (zI (s.2.1))), some (.int (zI (s.2.2.1))), some (.int (zI (s.2.2.2.1))), some (.int (zI (s.2.2.2.2))), some (.int (zI (0))), some (.int (zI (spCnt t hs S 1))), some (.int (zI (spCnt t hs S 3))), some (.int (zI (s.1))), none]) (fun s => (1 ≤ s.1 ∧ s.1 ≤ (S.1 : Int) + 1) ∧ s.2.1 = cZ (alF S) (s.1 - 1) ∧ s.2.2.1 = sZ (nuF S 1) (s.1 - 1) ∧ s.2.2.2.1 = sZ (nuF S 2) (s.1 - 1) ∧ s.2.2.2.2 = cZ (shF S) (s.1 - 1) ∧ (0 ≤ s.2.2.1 ∧ s.2.2.1 ≤ 120 * (s.1 - 1)) ∧ (0 ≤ s.2.2.2.1 ∧ s.2.2.2.1 ≤ 120 * (s.1 - 1))) (fun s => ((S.1 : Int) + 1 - s.1).toNat) (1, 0, 0, 0, 0) rfl rfl ⟨by dsimp only; omega, rfl, rfl, rfl, rfl, by dsimp only; omega, by dsimp only; omega⟩ ?_
  rintro ⟨z, a1, a2, a3, a4⟩ ⟨z1, g1, g2, g3, g4, g5, g6⟩ ihq
  dsimp only at z1 g1 g2 g3 g4 g5 g6 ihq ⊢
  have ga1 := cZ_r (alF S) (i := z - 1) (by omega)
  have ga4 := cZ_r (shF S) (i := z - 1) (by omega)
  have hn0 := nod0_r hI hB (z := z) (by omega)
  refine x_iload dL_nodes_29 rfl ?_
  refine x_iload dL_nodes_31 rfl ?_
  refine x_icmp_gt dL_nodes_33 ⟨by omega, by omega⟩ ⟨by omega, by omega⟩ (fun qc33q => ?_) (fun qc33q => ?_)
  · have hz : z = (S.1 : Int) + 1 := by omega
    rw [hz, show (S.1 : Int) + 1 - 1 = S.1 by omega] at g1 g2 g3 g4
    exact J197 a1 a2 a3 a4 z g1 g2 g3 g4
  · have J191 : ∀ b1 b2 b3 b4 : Int, b1 = cZ (alF S) z → b2 = sZ (nuF S 1) z → b3 = sZ (nuF S 2) z → b4 = cZ (shF S) z → (0 ≤ b2 ∧ b2 ≤ 120 * z) → (0 ≤ b3 ∧ b3 ≤ 120 * z) → XM mL_nodes 6 0 0 (QR 1 h) 0 0 sz h 191 [some (.ref x), some (.int (zI (b1))), some (.int (zI (b2))), some (.int (zI (b3))), some (.int (zI (b4))), some (.int (zI (0))), some (.int (zI (spCnt t hs S 1))), some (.int (zI (spCnt t hs S 3))), some (.int (zI (z))), none] [] := by
      intro b1 b2 b3 b4 f1 f2 f3 f4 f5 f6
      refine x_iinc dL_nodes_191 rfl rfl rfl ?_
      refine x_goto dL_nodes_194 ?_
      refine ihq (z + 1, b1, b2, b3, b4) ⟨by dsimp only; omega, ?_, ?_, ?_, ?_, by dsimp only; omega, by dsimp only; omega⟩ (by dsimp only; omega)
      · rw [show z + 1 - 1 = z by omega]; exact f1
      · rw [show z + 1 - 1 = z by omega]; exact f2
      · rw [show z + 1 - 1 = z by omega]; exact f3
      · rw [show z + 1 - 1 = z by omega]; exact f4
    refine x_aload_n dL_nodes_36 rfl ?_
    refine x_iload dL_nodes_37 rfl ?_
    refine x_iconst dL_nodes_39 ?_
    refine p_V dL_nodes_40 lL_27 (c_X8_node sz hO hWf ⟨by omega, by omega⟩ ⟨by omega, by omega⟩) hO.1.1 rfl rfl rfl rfl (by decide) ?_
    refine x_bipush dL_nodes_43 (by decide) ?_
    refine x_icmp_ne dL_nodes_45 ⟨by omega, by omega⟩ ⟨by omega, by omega⟩ (fun qc45q => ?_) (fun qc45q => ?_)
    · have hll := nod_live z1.1 qc45q
      obtain ⟨w0, w1, w2, w5, w5r, w3, w8⟩ := nod_atZ hI hB (z := z) (by omega) qc45q
      have J92 : ∀ v : Int, v = (if 1 < spNod S z 0 then 1 else 0) → XM mL_nodes 6 0 0 (QR 1 h) 0 0 sz h 92 [some (.ref x), some (.int (zI (a1 + 1))), some (.int (zI (a2 + spNod S z 1))), some (.int (zI (a3 + spNod S z 2))), some (.int (zI (a4))), some (.int (zI (0))), some (.int (zI (spCnt t hs S 1))), some (.int (zI (spCnt t hs S 3))), some (.int (zI (z))), none] [.int (zI v), .int (zI a4)] := by
        intro v hv
        have hv1 : 0 ≤ v ∧ v ≤ 1 := by rw [hv]; split <;> omega
        rw [← hv] at hll
        have J155 : ∀ v1 v2 : Int, v1 = v2 → (0 ≤ v1 ∧ v1 ≤ 1) → XM mL_nodes 6 0 0 (QR 1 h) 0 0 sz h 155 [some (.ref x), some (.int (zI (a1 + 1))), some (.int (zI (a2 + spNod S z 1))), some (.int (zI (a3 + spNod S z 2))), some (.int (zI (a4 + v))), some (.int (zI (0))), some (.int (zI (spCnt t hs S 1))), some (.int (zI (spCnt t hs S 3))), some (.int (zI (z))), none] [.int (zI v2), .int (zI v1)] := by
          intro v1 v2 hvv hv3
          refine x_icmp_ne dL_nodes_155 ⟨by omega, by omega⟩ ⟨by omega, by omega⟩ (fun qc155q => ?_) (fun qc155q => ?_)
          · exfalso; omega
          · refine x_aload_n dL_nodes_158 rfl ?_
            refine x_iload dL_nodes_159 rfl ?_
            refine x_bipush dL_nodes_161 (by decide) ?_
            refine p_V dL_nodes_163 lL_27 (c_X8_node sz hO hWf ⟨by omega, by omega⟩ ⟨by omega, by omega⟩) hO.1.1 rfl rfl rfl rfl (by decide) ?_
            refine x_aload_n dL_nodes_166 rfl ?_
            refine x_iload dL_nodes_167 rfl ?_
            refine x_iconst dL_nodes_169 ?_
            refine p_V dL_nodes_170 lL_27 (c_X8_node sz hO hWf ⟨by omega, by omega⟩ ⟨by omega, by omega⟩) hO.1.1 rfl rfl rfl rfl (by decide) ?_
            refine x_icmp_lt dL_nodes_173 ⟨by omega, by omega⟩ ⟨by omega, by omega⟩ (fun qc173q => ?_) (fun qc173q => ?_)
            · exfalso; omega
            · refine x_aload_n dL_nodes_176 rfl ?_
              refine x_iload dL_nodes_177 rfl ?_
              refine x_bipush dL_nodes_179 (by decide) ?_
              refine p_V dL_nodes_181 lL_27 (c_X8_node sz hO hWf ⟨by omega, by omega⟩ ⟨by omega, by omega⟩) hO.1.1 rfl rfl rfl rfl (by decide) ?_
              refine x_bipush dL_nodes_184 (by decide) ?_
              refine x_icmp_eq dL_nodes_186 ⟨by omega, by omega⟩ ⟨by omega, by omega⟩ (fun qc186q => ?_) (fun qc186q => ?_)
              · exact J191 _ _ _ _ (by omega) (by rw [hll.2.1 1 (by omega)]; omega) (by rw [hll.2.1 2 (by omega)]; omega) (by omega) (by omega) (by omega)
              · exfalso; omega
        have J140 : ∀ v1 : Int, (0 ≤ v1 ∧ v1 ≤ 1) → (v1 = 1 ↔ spNod S z 5 = -6) → XM mL_nodes 6 0 0 (QR 1 h) 0 0 sz h 140 [some (.ref x), some (.int (zI (a1 + 1))), some (.int (zI (a2 + spNod S z 1))), some (.int (zI (a3 + spNod S z 2))), some (.int (zI (a4 + v))), some (.int (zI (0))), some (.int (zI (spCnt t hs S 1))), some (.int (zI (spCnt t hs S 3))), some (.int (zI (z))), none] [.int (zI v1)] := by
          intro v1 hv3 hv4
          refine x_aload_n dL_nodes_140 rfl ?_
          refine x_iload dL_nodes_141 rfl ?_
          refine x_iconst dL_nodes_143 ?_
          refine p_V dL_nodes_144 lL_27 (c_X8_node sz hO hWf ⟨by omega, by omega⟩ ⟨by omega, by omega⟩) hO.1.1 rfl rfl rfl rfl (by decide) ?_
          refine x_if_ne dL_nodes_147 ⟨by omega, by omega⟩ (fun qc147q => ?_) (fun qc147q => ?_)
          · refine x_iconst dL_nodes_154 ?_
            exact J155 _ _ (by omega) hv3
          · refine x_iconst dL_nodes_150 ?_
            refine x_goto dL_nodes_151 ?_
            exact J155 _ _ (by omega) hv3
        refine x_iadd dL_nodes_92 ?_
        refine x_istore dL_nodes_93 rfl rfl rfl ?_
        refine x_aload_n dL_nodes_95 rfl ?_
        refine x_iload dL_nodes_96 rfl ?_
        refine x_iconst dL_nodes_98 ?_
        refine p_V dL_nodes_99 lL_27 (c_X8_node sz hO hWf ⟨by omega, by omega⟩ ⟨by omega, by omega⟩) hO.1.1 rfl rfl rfl rfl (by decide) ?_
        refine x_iconst dL_nodes_102 ?_
        refine x_icmp_lt dL_nodes_103 ⟨by omega, by omega⟩ ⟨by omega, by omega⟩ (fun qc103q => ?_) (fun qc103q => ?_)
        · exfalso; omega
        · refine x_aload_n dL_nodes_106 rfl ?_
          refine x_iload dL_nodes_107 rfl ?_
          refine x_iconst dL_nodes_109 ?_
          refine p_V dL_nodes_110 lL_27 (c_X8_node sz hO hWf ⟨by omega, by omega⟩ ⟨by omega, by omega⟩) hO.1.1 rfl rfl rfl rfl (by decide) ?_
          refine x_aload_n dL_nodes_113 rfl ?_
          refine x_iload dL_nodes_114 rfl ?_
          refine x_iconst dL_nodes_116 ?_
          refine p_V dL_nodes_117 lL_27 (c_X8_node sz hO hWf ⟨by omega, by omega⟩ ⟨by omega, by omega⟩) hO.1.1 rfl rfl rfl rfl (by decide) ?_
          refine x_icmp_lt dL_nodes_120 ⟨by omega, by omega⟩ ⟨by omega, by omega⟩ (fun qc120q => ?_) (fun qc120q => ?_)
          · exfalso; omega
          · refine x_aload_n dL_nodes_123 rfl ?_
            refine x_iload dL_nodes_124 rfl ?_
            refine x_iconst dL_nodes_126 ?_
            refine p_V dL_nodes_127 lL_27 (c_X8_node sz hO hWf ⟨by omega, by omega⟩ ⟨by omega, by omega⟩) hO.1.1 rfl rfl rfl rfl (by decide) ?_
            refine x_bipush dL_nodes_130 (by decide) ?_
            refine x_icmp_ne dL_nodes_132 ⟨by omega, by omega⟩ ⟨by omega, by omega⟩ (fun qc132q => ?_) (fun qc132q => ?_)
            · refine x_iconst dL_nodes_139 ?_
              exact J140 _ (by omega) (by omega)
            · refine x_iconst dL_nodes_135 ?_
              refine x_goto dL_nodes_136 ?_
              exact J140 _ (by omega) (by omega)
      refine x_iinc dL_nodes_51 rfl rfl rfl ?_
      refine x_iload_n dL_nodes_54 rfl ?_
      refine x_aload_n dL_nodes_55 rfl ?_
      refine x_iload dL_nodes_56 rfl ?_
      refine x_iconst dL_nodes_58 ?_
      refine p_V dL_nodes_59 lL_27 (c_X8_node sz hO hWf ⟨by omega, by omega⟩ ⟨by omega, by omega⟩) hO.1.1 rfl rfl rfl rfl (by decide) ?_
      refine x_iadd dL_nodes_62 ?_
      refine x_istore_n dL_nodes_63 rfl rfl rfl ?_
      refine x_iload_n dL_nodes_64 rfl ?_
      refine x_aload_n dL_nodes_65 rfl ?_
      refine x_iload dL_nodes_66 rfl ?_
      refine x_iconst dL_nodes_68 ?_
      refine p_V dL_nodes_69 lL_27 (c_X8_node sz hO hWf ⟨by omega, by omega⟩ ⟨by omega, by omega⟩) hO.1.1 rfl rfl rfl rfl (by decide) ?_
      refine x_iadd dL_nodes_72 ?_
      refine x_istore_n dL_nodes_73 rfl rfl rfl ?_
      refine x_iload dL_nodes_74 rfl ?_
      refine x_aload_n dL_nodes_76 rfl ?_
      refine x_iload dL_nodes_77 rfl ?_
      refine x_iconst dL_nodes_79 ?_
      refine p_V dL_nodes_80 lL_27 (c_X8_node sz hO hWf ⟨by omega, by omega⟩ ⟨by omega, by omega⟩) hO.1.1 rfl rfl rfl rfl (by decide) ?_
      refine x_iconst dL_nodes_83 ?_
      refine x_icmp_le dL_nodes_84 ⟨by omega, by omega⟩ ⟨by omega, by omega⟩ (fun qc84q => ?_) (fun qc84q => ?_)
      · refine x_iconst dL_nodes_91 ?_
        exact J92 _ (by first | (rw [if_pos (by omega)]; done) | (rw [if_neg (by omega)]; done))
      · refine x_iconst dL_nodes_87 ?_
        refine x_goto dL_nodes_88 ?_
        exact J92 _ (by first | (rw [if_pos (by omega)]; done) | (rw [if_neg (by omega)]; done))
    · have hdd := nod_dead z1.1 qc45q
      refine x_goto dL_nodes_48 ?_
      exact J191 _ _ _ _ (by omega) (by rw [hdd.2.1]; exact g2) (by rw [hdd.2.1]; exact g3) (by omega) (by omega) (by omega)

