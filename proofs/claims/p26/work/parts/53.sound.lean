/-! sound: a row, what is around it, what is within it, its numbers. -/
theorem dirN_r (S : CS) (r k : Int) (h : r + 1 ≤ k) (h0 : 0 ≤ r) : 0 ≤ dirN S r k ∧ dirN S r k ≤ k := by
  unfold dirN cZ
  have h1 := cB_mn (fun m => decide (spRow S (m : Int) 1 = spRow S r 1 + 1)) (a := (r + 1).toNat) (b := k.toNat) (by omega)
  have h2 := cB_le (fun m => decide (spRow S (m : Int) 1 = spRow S r 1 + 1)) k.toNat
  omega
theorem dirN_t {S : CS} {r k : Int} (h0 : 0 ≤ k) (h : spRow S k 1 = spRow S r 1 + 1) : dirN S r (k + 1) = dirN S r k + 1 := by
  unfold dirN
  rw [cZ_t h0 (decide_eq_true (by rw [show ((k.toNat : Nat) : Int) = k by omega]; exact h))]
  omega
theorem dirN_f {S : CS} {r k : Int} (h0 : 0 ≤ k) (h : ¬ spRow S k 1 = spRow S r 1 + 1) : dirN S r (k + 1) = dirN S r k := by
  unfold dirN
  rw [cZ_f h0 (decide_eq_false (by rw [show ((k.toNat : Nat) : Int) = k by omega]; exact h))]
theorem kidL40 {S : CS} (hI : InvS S) (x : Nat) : (kid S.2.2.2.1 x).length ≤ 40 := by
  rcases Nat.lt_or_ge S.1 x with q | q
  · rw [hI.1.out q]; decide
  · exact (hI.1.kb.2 x q).1
theorem poA_r {S : CS} (hI : InvS S) (z : Int) : -1 ≤ poA S z ∧ poA S z ≤ 41 := by
  have h1 := lfi_le (kid S.2.2.2.1 (gN S.2.2.2.2 (pPar S.2.2.2.2 z)).toNat) (gN S.2.2.2.2 z).toNat
  have h2 := kidL40 hI (gN S.2.2.2.2 (pPar S.2.2.2.2 z)).toNat
  have h3 : ∀ (l : List Nat) (y : Nat), -1 ≤ lfi l y := fun l y => by
    induction l with
    | nil => show (-1 : Int) ≤ -1; omega
    | cons a l ihq =>
      rw [lfi]
      split
      · omega
      · split <;> omega
  have h4 := h3 (kid S.2.2.2.1 (gN S.2.2.2.2 (pPar S.2.2.2.2 z)).toNat) (gN S.2.2.2.2 z).toNat
  unfold poA
  omega
theorem row2_le {S : CS} (hI : InvS S) (hB : StB S) {r : Int} (h0 : 0 ≤ r) (h1 : r < rwN S) : (0 ≤ spRow S r 2 ∧ spRow S r 2 ≤ 120) ∧ (-1 ≤ spRow S r 7 ∧ spRow S r 7 ≤ 120) := by
  have h2 := snd_up hI hB h0 h1
  have h3 := (cnt_rows hI hB [] []).2.2.1
  obtain ⟨p, p1, p2, p3, p4⟩ := row_ex h0 h1
  have h4 := poA_r hI (p : Int)
  rw [(sp_row p4).2.2.1] at h2 ⊢
  omega
theorem num_r (S : CS) (r v : Int) (hI : InvS S) (hB : StB S) : -6 ≤ spNum S r v ∧ spNum S r v ≤ 120 := by
  have h1 := poA_r hI (pAt S.2.2.2.2 (plZ S.2.2.2.2 r) v)
  unfold spNum
  split
  · omega
  · split
    · omega
    · split <;> omega
theorem rw1_r (S : CS) (r : Int) (hI : InvS S) (hB : StB S) : -6 ≤ spRow S r 1 ∧ spRow S r 1 ≤ 120 := by
  by_cases q : 0 ≤ r ∧ r < rwN S
  · have := snd_at hI hB q.1 q.2
    omega
  · rw [row_no (by omega)]
    omega
set_option maxHeartbeats 4000000 in
theorem c_L_sound (sz : Nat) {h : AH} {x b c d : Nat} {t : List Int} {hs : List CS} {sp S D : CS} (hO : OuR h x t hs sp b c d S D) (hI : InvS S) (hT : TxI S) {r : Int} (h0 : 0 ≤ r) (h1 : r < rwN S) : CC mL_sound 6 0 0 [.ref x, .int (zI (r))] sz h (QR 1 h) := by
  refine CC.intro [some (.ref x), some (.int (zI (r))), none, none, none, none, none, none, none, none, none] pfL_sound rfl rfl ?_
  have hB : StB S := hO.AB.2.2.1
  have hWf := hI.wf
  have hc := cnt_rows hI hB t hs
  obtain ⟨a0, a1, a3, a4, a8, aK, aE, aD⟩ := snd_at hI hB h0 h1
  obtain ⟨b7, bK, bL, bM, bZ, b2⟩ := snd_up hI hB h0 h1
  obtain ⟨n3, n4, n1, n5, n6, qe1q, qe2q, qe3q, m5, m6⟩ := snd_nod hI hB hT h0 h1
  have hc3 : spCnt t hs S 3 = rwN S := rfl
  have hd40 := hI.1.1
  have b2' := row2_le hI hB h0 h1
  have J233 : ∀ d8 : Int, XM mL_sound 6 0 0 (QR 1 h) 0 0 sz h 233 [some (.ref x), some (.int (zI (r))), some (.int (zI (spCnt t hs S 3))), some (.int (zI (spRow S r 1))), some (.int (zI (spRow S r 3))), some (.int (zI (spRow S r 7))), some (.int (zI (spRow S r 8))), some (.int (zI (spRow S r 0))), some (.int (zI (d8))), none, none] [] := by
    intro d8
    refine x_iconst dL_sound_233 ?_
    refine x_istore dL_sound_234 rfl rfl rfl ?_
    refine x_loop (fun _ : Int => h) (fun k => [some (.ref x), some (.int (zI (r))), some (.int (zI (spCnt t hs S 3))), some (.int (zI (spRow S r 1))), some (.int (zI (spRow S r 3))), some (.int (zI (spRow S r 7))), some (.int (zI (spRow S r 8))), some (.int (zI (spRow S r 0))), some (.int (zI (d8))), some (.int (zI (k))), none]) (fun k => 1 ≤ k ∧ k ≤ spRow S r 1) (fun k => (spRow S r 1 - k).toNat) 1 rfl rfl (by omega) ?_
    intro k ⟨k1, k2⟩ ihq
    try dsimp only at k1 k2 ihq ⊢
    refine x_iload dL_sound_236 rfl ?_
    refine x_iload_n dL_sound_238 rfl ?_
    refine x_icmp_ge dL_sound_239 ⟨by omega, by omega⟩ ⟨by omega, by omega⟩ (fun qc239q => ?_) (fun qc239q => ?_)
    · have hr1 := num_r S r (spRow S r 1) hI hB
      have hr2 := num_r S r (spRow S r 1 + 1) hI hB
      have hr3 := num_r S r 0 hI hB
      refine x_aload_n dL_sound_279 rfl ?_
      refine x_iload_n dL_sound_280 rfl ?_
      refine x_iload_n dL_sound_281 rfl ?_
      refine p_V dL_sound_282 lL_30 (c_X8_number sz hO hWf ⟨by omega, by omega⟩ ⟨by omega, by omega⟩) hO.1.1 rfl rfl rfl rfl (by decide) ?_
      refine x_aload_n dL_sound_285 rfl ?_
      refine x_iload_n dL_sound_286 rfl ?_
      refine x_iconst dL_sound_287 ?_
      refine p_V dL_sound_288 lL_21 (c_X8_row sz hO hWf ⟨by omega, by omega⟩ ⟨by omega, by omega⟩) hO.1.1 rfl rfl rfl rfl (by decide) ?_
      refine x_iconst dL_sound_291 ?_
      refine x_iadd dL_sound_292 ?_
      refine x_icmp_ne dL_sound_293 ⟨by omega, by omega⟩ ⟨by omega, by omega⟩ (fun qc293q => ?_) (fun qc293q => ?_)
      · exfalso; omega
      · refine x_aload_n dL_sound_296 rfl ?_
        refine x_iload_n dL_sound_297 rfl ?_
        refine x_iload_n dL_sound_298 rfl ?_
        refine x_iconst dL_sound_299 ?_
        refine x_iadd dL_sound_300 ?_
        refine p_V dL_sound_301 lL_30 (c_X8_number sz hO hWf ⟨by omega, by omega⟩ ⟨by omega, by omega⟩) hO.1.1 rfl rfl rfl rfl (by decide) ?_
        refine x_bipush dL_sound_304 (by decide) ?_
        refine x_icmp_ne dL_sound_306 ⟨by omega, by omega⟩ ⟨by omega, by omega⟩ (fun qc306q => ?_) (fun qc306q => ?_)
        · exfalso; omega
        · refine x_aload_n dL_sound_309 rfl ?_
          refine x_iload_n dL_sound_310 rfl ?_
          refine x_iconst dL_sound_311 ?_
          refine p_V dL_sound_312 lL_30 (c_X8_number sz hO hWf ⟨by omega, by omega⟩ ⟨by omega, by omega⟩) hO.1.1 rfl rfl rfl rfl (by decide) ?_
          refine x_bipush dL_sound_315 (by decide) ?_
          refine x_icmp_ne dL_sound_317 ⟨by omega, by omega⟩ ⟨by omega, by omega⟩ (fun qc317q => ?_) (fun qc317q => ?_)
          · exfalso; omega
          · refine x_iconst dL_sound_320 ?_
            refine x_goto dL_sound_321 ?_
            refine x_istore dL_sound_325 rfl rfl rfl ?_
            refine x_iload dL_sound_327 rfl ?_
            refine x_if_eq dL_sound_329 ⟨by omega, by omega⟩ (fun qc329q => ?_) (fun qc329q => ?_)
            · exfalso; omega
            · refine x_aload_n dL_sound_332 rfl ?_
              refine x_iload dL_sound_333 rfl ?_
              refine x_iconst dL_sound_335 ?_
              refine p_V dL_sound_336 lL_27 (c_X8_node sz hO hWf ⟨by omega, by omega⟩ ⟨by omega, by omega⟩) hO.1.1 rfl rfl rfl rfl (by decide) ?_
              refine x_iload dL_sound_339 rfl ?_
              refine x_icmp_ne dL_sound_341 ⟨by omega, by omega⟩ ⟨by omega, by omega⟩ (fun qc341q => ?_) (fun qc341q => ?_)
              · exfalso; omega
              · refine x_aload_n dL_sound_344 rfl ?_
                refine x_iload dL_sound_345 rfl ?_
                refine x_iconst dL_sound_347 ?_
                refine p_V dL_sound_348 lL_27 (c_X8_node sz hO hWf ⟨by omega, by omega⟩ ⟨by omega, by omega⟩) hO.1.1 rfl rfl rfl rfl (by decide) ?_
                refine x_aload_n dL_sound_351 rfl ?_
                refine x_iload_n dL_sound_352 rfl ?_
                refine x_iconst dL_sound_353 ?_
                refine p_V dL_sound_354 lL_21 (c_X8_row sz hO hWf ⟨by omega, by omega⟩ ⟨by omega, by omega⟩) hO.1.1 rfl rfl rfl rfl (by decide) ?_
                refine x_icmp_ne dL_sound_357 ⟨by omega, by omega⟩ ⟨by omega, by omega⟩ (fun qc357q => ?_) (fun qc357q => ?_)
                · exfalso; omega
                · refine x_aload_n dL_sound_360 rfl ?_
                  refine x_iload dL_sound_361 rfl ?_
                  refine x_iconst dL_sound_363 ?_
                  refine p_V dL_sound_364 lL_27 (c_X8_node sz hO hWf ⟨by omega, by omega⟩ ⟨by omega, by omega⟩) hO.1.1 rfl rfl rfl rfl (by decide) ?_
                  refine x_aload_n dL_sound_367 rfl ?_
                  refine x_iload_n dL_sound_368 rfl ?_
                  refine x_bipush dL_sound_369 (by decide) ?_
                  refine p_V dL_sound_371 lL_21 (c_X8_row sz hO hWf ⟨by omega, by omega⟩ ⟨by omega, by omega⟩) hO.1.1 rfl rfl rfl rfl (by decide) ?_
                  refine x_icmp_ne dL_sound_374 ⟨by omega, by omega⟩ ⟨by omega, by omega⟩ (fun qc374q => ?_) (fun qc374q => ?_)
                  · exfalso; omega
                  · refine x_aload_n dL_sound_377 rfl ?_
                    refine x_iload dL_sound_378 rfl ?_
                    refine x_iconst dL_sound_380 ?_
                    refine p_V dL_sound_381 lL_27 (c_X8_node sz hO hWf ⟨by omega, by omega⟩ ⟨by omega, by omega⟩) hO.1.1 rfl rfl rfl rfl (by decide) ?_
                    refine x_iload_n dL_sound_384 rfl ?_
                    refine x_icmp_gt dL_sound_385 ⟨by omega, by omega⟩ ⟨by omega, by omega⟩ (fun qc385q => ?_) (fun qc385q => ?_)
                    · exfalso; omega
                    · refine x_aload_n dL_sound_388 rfl ?_
                      refine x_iload_n dL_sound_389 rfl ?_
                      refine x_aload_n dL_sound_390 rfl ?_
                      refine x_iload dL_sound_391 rfl ?_
                      refine x_bipush dL_sound_393 (by decide) ?_
                      refine p_V dL_sound_395 lL_27 (c_X8_node sz hO hWf ⟨by omega, by omega⟩ ⟨by omega, by omega⟩) hO.1.1 rfl rfl rfl rfl (by decide) ?_
                      refine p_V dL_sound_398 lL_33 (c_X8_charAt sz hO hWf ⟨by omega, by omega⟩ ⟨by omega, by omega⟩) hO.1.1 rfl rfl rfl rfl (by decide) ?_
                      refine x_bipush dL_sound_401 (by decide) ?_
                      refine x_icmp_ne dL_sound_403 ⟨by omega, by omega⟩ ⟨by omega, by omega⟩ (fun qc403q => ?_) (fun qc403q => ?_)
                      · exfalso; omega
                      · refine x_aload_n dL_sound_406 rfl ?_
                        refine x_iload_n dL_sound_407 rfl ?_
                        refine x_aload_n dL_sound_408 rfl ?_
                        refine x_iload dL_sound_409 rfl ?_
                        refine x_bipush dL_sound_411 (by decide) ?_
                        refine p_V dL_sound_413 lL_27 (c_X8_node sz hO hWf ⟨by omega, by omega⟩ ⟨by omega, by omega⟩) hO.1.1 rfl rfl rfl rfl (by decide) ?_
                        refine x_iconst dL_sound_416 ?_
                        refine x_isub dL_sound_417 ?_
                        refine p_V dL_sound_418 lL_33 (c_X8_charAt sz hO hWf ⟨by omega, by omega⟩ ⟨by omega, by omega⟩) hO.1.1 rfl rfl rfl rfl (by decide) ?_
                        refine x_if_lt dL_sound_421 ⟨by omega, by omega⟩ (fun qc421q => ?_) (fun qc421q => ?_)
                        · exfalso; omega
                        · refine x_aload_n dL_sound_424 rfl ?_
                          refine x_iload_n dL_sound_425 rfl ?_
                          refine x_iconst dL_sound_426 ?_
                          refine p_V dL_sound_427 lL_33 (c_X8_charAt sz hO hWf ⟨by omega, by omega⟩ ⟨by omega, by omega⟩) hO.1.1 rfl rfl rfl rfl (by decide) ?_
                          refine x_bipush dL_sound_430 (by decide) ?_
                          refine x_icmp_ne dL_sound_432 ⟨by omega, by omega⟩ ⟨by omega, by omega⟩ (fun qc432q => ?_) (fun qc432q => ?_)
                          · exfalso; omega
                          · refine x_iconst dL_sound_435 ?_
                            refine x_goto dL_sound_436 ?_
                            refine x_zreturn dL_sound_440 rfl (by omega) ?_
                            exact ⟨rfl, rfl⟩
    · have hk := bK k k1 (by omega)
      have hr5 := num_r S r k hI hB
      have hr6 := num_r S (spRow S r 7) k hI hB
      refine x_aload_n dL_sound_242 rfl ?_
      refine x_iload_n dL_sound_243 rfl ?_
      refine x_iload dL_sound_244 rfl ?_
      refine p_V dL_sound_246 lL_30 (c_X8_number sz hO hWf ⟨by omega, by omega⟩ ⟨by omega, by omega⟩) hO.1.1 rfl rfl rfl rfl (by decide) ?_
      refine x_iconst dL_sound_249 ?_
      refine x_icmp_lt dL_sound_250 ⟨by omega, by omega⟩ ⟨by omega, by omega⟩ (fun qc250q => ?_) (fun qc250q => ?_)
      · exfalso; omega
      · refine x_aload_n dL_sound_253 rfl ?_
        refine x_iload_n dL_sound_254 rfl ?_
        refine x_iload dL_sound_255 rfl ?_
        refine p_V dL_sound_257 lL_30 (c_X8_number sz hO hWf ⟨by omega, by omega⟩ ⟨by omega, by omega⟩) hO.1.1 rfl rfl rfl rfl (by decide) ?_
        refine x_aload_n dL_sound_260 rfl ?_
        refine x_iload dL_sound_261 rfl ?_
        refine x_iload dL_sound_263 rfl ?_
        refine p_V dL_sound_265 lL_30 (c_X8_number sz hO hWf ⟨by omega, by omega⟩ ⟨by omega, by omega⟩) hO.1.1 rfl rfl rfl rfl (by decide) ?_
        refine x_icmp_eq dL_sound_268 ⟨by omega, by omega⟩ ⟨by omega, by omega⟩ (fun qc268q => ?_) (fun qc268q => ?_)
        · refine x_iinc dL_sound_273 rfl rfl rfl ?_
          refine x_goto dL_sound_276 ?_
          exact ihq (k + 1) ⟨by omega, by omega⟩ (by omega)
        · exfalso; omega
  have J142 : ∀ k d8 : Int, k = r + spRow S r 8 + 1 → d8 = dirN S r k → XM mL_sound 6 0 0 (QR 1 h) 0 0 sz h 142 [some (.ref x), some (.int (zI (r))), some (.int (zI (spCnt t hs S 3))), some (.int (zI (spRow S r 1))), some (.int (zI (spRow S r 3))), some (.int (zI (spRow S r 7))), some (.int (zI (spRow S r 8))), some (.int (zI (spRow S r 0))), some (.int (zI (d8))), some (.int (zI (k))), none] [] := by
    intro k d8 hk hd
    subst hk
    have aD' : d8 = if spRow S r 4 = 1 then 0 else spRow S r 3 := hd.trans aD
    have hdr : 0 ≤ d8 ∧ d8 ≤ 120 := by rw [aD']; split <;> omega
    have J193 : ∀ v : Int, v = (if spRow S r 4 = 1 then 0 else spRow S r 3) → XM mL_sound 6 0 0 (QR 1 h) 0 0 sz h 193 [some (.ref x), some (.int (zI (r))), some (.int (zI (spCnt t hs S 3))), some (.int (zI (spRow S r 1))), some (.int (zI (spRow S r 3))), some (.int (zI (spRow S r 7))), some (.int (zI (spRow S r 8))), some (.int (zI (spRow S r 0))), some (.int (zI (d8))), some (.int (zI (r + spRow S r 8 + 1))), none] [.int (zI v), .int (zI d8)] := by
      intro v hv
      have hv2 : v = d8 := hv.trans aD'.symm
      clear hv aD' hd
      refine x_icmp_eq dL_sound_193 ⟨by omega, by omega⟩ ⟨by omega, by omega⟩ (fun qc193q => ?_) (fun qc193q => ?_)
      · refine x_iload dL_sound_198 rfl ?_
        refine x_iconst dL_sound_200 ?_
        refine x_icmp_ne dL_sound_201 ⟨by omega, by omega⟩ ⟨by omega, by omega⟩ (fun qc201q => ?_) (fun qc201q => ?_)
        · refine x_iload dL_sound_212 rfl ?_
          refine x_iload_n dL_sound_214 rfl ?_
          refine x_icmp_ge dL_sound_215 ⟨by omega, by omega⟩ ⟨by omega, by omega⟩ (fun qc215q => ?_) (fun qc215q => ?_)
          · exfalso; omega
          · refine x_aload_n dL_sound_218 rfl ?_
            refine x_iload dL_sound_219 rfl ?_
            refine x_iconst dL_sound_221 ?_
            refine p_V dL_sound_222 lL_21 (c_X8_row sz hO hWf ⟨by omega, by omega⟩ ⟨by omega, by omega⟩) hO.1.1 rfl rfl rfl rfl (by decide) ?_
            refine x_iload_n dL_sound_225 rfl ?_
            refine x_iconst dL_sound_226 ?_
            refine x_isub dL_sound_227 ?_
            refine x_icmp_eq dL_sound_228 ⟨by omega, by omega⟩ ⟨by omega, by omega⟩ (fun qc228q => ?_) (fun qc228q => ?_)
            · refine x_kill 9 ?_
              exact J233 _
            · exfalso; omega
        · refine x_iload_n dL_sound_204 rfl ?_
          refine x_iconst dL_sound_205 ?_
          refine x_icmp_eq dL_sound_206 ⟨by omega, by omega⟩ ⟨by omega, by omega⟩ (fun qc206q => ?_) (fun qc206q => ?_)
          · refine x_kill 9 ?_
            exact J233 _
          · exfalso; omega
      · exfalso; omega
    refine x_iload_n dL_sound_142 rfl ?_
    refine x_iload dL_sound_143 rfl ?_
    refine x_iadd dL_sound_145 ?_
    refine x_iload_n dL_sound_146 rfl ?_
    refine x_icmp_ge dL_sound_147 ⟨by omega, by omega⟩ ⟨by omega, by omega⟩ (fun qc147q => ?_) (fun qc147q => ?_)
    · exfalso; omega
    · refine x_iload_n dL_sound_150 rfl ?_
      refine x_iload dL_sound_151 rfl ?_
      refine x_iadd dL_sound_153 ?_
      refine x_iconst dL_sound_154 ?_
      refine x_iadd dL_sound_155 ?_
      refine x_iload_n dL_sound_156 rfl ?_
      refine x_icmp_ge dL_sound_157 ⟨by omega, by omega⟩ ⟨by omega, by omega⟩ (fun qc157q => ?_) (fun qc157q => ?_)
      · refine x_iload dL_sound_175 rfl ?_
        refine x_aload_n dL_sound_177 rfl ?_
        refine x_iload_n dL_sound_178 rfl ?_
        refine x_iconst dL_sound_179 ?_
        refine p_V dL_sound_180 lL_21 (c_X8_row sz hO hWf ⟨by omega, by omega⟩ ⟨by omega, by omega⟩) hO.1.1 rfl rfl rfl rfl (by decide) ?_
        refine x_iconst dL_sound_183 ?_
        refine x_icmp_ne dL_sound_184 ⟨by omega, by omega⟩ ⟨by omega, by omega⟩ (fun qc184q => ?_) (fun qc184q => ?_)
        · refine x_iload dL_sound_191 rfl ?_
          exact J193 _ (by first | (rw [if_pos (by omega)]; done) | (rw [if_neg (by omega)]; done))
        · refine x_iconst dL_sound_187 ?_
          refine x_goto dL_sound_188 ?_
          exact J193 _ (by first | (rw [if_pos (by omega)]; done) | (rw [if_neg (by omega)]; done))
      · have hEe := aE (by omega)
        have hrw := rw1_r S (r + spRow S r 8 + 1) hI hB
        refine x_aload_n dL_sound_160 rfl ?_
        refine x_iload_n dL_sound_161 rfl ?_
        refine x_iload dL_sound_162 rfl ?_
        refine x_iadd dL_sound_164 ?_
        refine x_iconst dL_sound_165 ?_
        refine x_iadd dL_sound_166 ?_
        refine x_iconst dL_sound_167 ?_
        refine p_V dL_sound_168 lL_21 (c_X8_row sz hO hWf ⟨by omega, by omega⟩ ⟨by omega, by omega⟩) hO.1.1 rfl rfl rfl rfl (by decide) ?_
        refine x_iload_n dL_sound_171 rfl ?_
        refine x_icmp_gt dL_sound_172 ⟨by omega, by omega⟩ ⟨by omega, by omega⟩ (fun qc172q => ?_) (fun qc172q => ?_)
        · exfalso; omega
        · refine x_iload dL_sound_175 rfl ?_
          refine x_aload_n dL_sound_177 rfl ?_
          refine x_iload_n dL_sound_178 rfl ?_
          refine x_iconst dL_sound_179 ?_
          refine p_V dL_sound_180 lL_21 (c_X8_row sz hO hWf ⟨by omega, by omega⟩ ⟨by omega, by omega⟩) hO.1.1 rfl rfl rfl rfl (by decide) ?_
          refine x_iconst dL_sound_183 ?_
          refine x_icmp_ne dL_sound_184 ⟨by omega, by omega⟩ ⟨by omega, by omega⟩ (fun qc184q => ?_) (fun qc184q => ?_)
          · refine x_iload dL_sound_191 rfl ?_
            exact J193 _ (by first | (rw [if_pos (by omega)]; done) | (rw [if_neg (by omega)]; done))
          · refine x_iconst dL_sound_187 ?_
            refine x_goto dL_sound_188 ?_
            exact J193 _ (by first | (rw [if_pos (by omega)]; done) | (rw [if_neg (by omega)]; done))
  refine x_aload_n dL_sound_0 rfl ?_
  refine x_iconst dL_sound_1 ?_
  refine p_V dL_sound_2 lL_13 (c_X8_count sz hO ⟨by omega, by omega⟩) hO.1.1 rfl rfl rfl rfl (by decide) ?_
  refine x_istore_n dL_sound_5 rfl rfl rfl ?_
  refine x_aload_n dL_sound_6 rfl ?_
  refine x_iload_n dL_sound_7 rfl ?_
  refine x_iconst dL_sound_8 ?_
  refine p_V dL_sound_9 lL_21 (c_X8_row sz hO hWf ⟨by omega, by omega⟩ ⟨by omega, by omega⟩) hO.1.1 rfl rfl rfl rfl (by decide) ?_
  refine x_istore_n dL_sound_12 rfl rfl rfl ?_
  refine x_aload_n dL_sound_13 rfl ?_
  refine x_iload_n dL_sound_14 rfl ?_
  refine x_iconst dL_sound_15 ?_
  refine p_V dL_sound_16 lL_21 (c_X8_row sz hO hWf ⟨by omega, by omega⟩ ⟨by omega, by omega⟩) hO.1.1 rfl rfl rfl rfl (by decide) ?_
  refine x_istore dL_sound_19 rfl rfl rfl ?_
  refine x_aload_n dL_sound_21 rfl ?_
  refine x_iload_n dL_sound_22 rfl ?_
  refine x_bipush dL_sound_23 (by decide) ?_
  refine p_V dL_sound_25 lL_21 (c_X8_row sz hO hWf ⟨by omega, by omega⟩ ⟨by omega, by omega⟩) hO.1.1 rfl rfl rfl rfl (by decide) ?_
  refine x_istore dL_sound_28 rfl rfl rfl ?_
  refine x_aload_n dL_sound_30 rfl ?_
  refine x_iload_n dL_sound_31 rfl ?_
  refine x_bipush dL_sound_32 (by decide) ?_
  refine p_V dL_sound_34 lL_21 (c_X8_row sz hO hWf ⟨by omega, by omega⟩ ⟨by omega, by omega⟩) hO.1.1 rfl rfl rfl rfl (by decide) ?_
  refine x_istore dL_sound_37 rfl rfl rfl ?_
  refine x_aload_n dL_sound_39 rfl ?_
  refine x_iload_n dL_sound_40 rfl ?_
  refine x_iconst dL_sound_41 ?_
  refine p_V dL_sound_42 lL_21 (c_X8_row sz hO hWf ⟨by omega, by omega⟩ ⟨by omega, by omega⟩) hO.1.1 rfl rfl rfl rfl (by decide) ?_
  refine x_istore dL_sound_45 rfl rfl rfl ?_
  refine x_iconst dL_sound_47 ?_
  refine x_istore dL_sound_48 rfl rfl rfl ?_
  refine x_iload_n dL_sound_50 rfl ?_
  refine x_iconst dL_sound_51 ?_
  refine x_iadd dL_sound_52 ?_
  refine x_istore dL_sound_53 rfl rfl rfl ?_
  refine x_loop (fun _ : Int × Int => h) (fun s => [some (.ref x), some (.int (zI (r))), some (.int (zI (spCnt t hs S 3))), some (.int (zI (spRow S r 1))), some (.int (zI (spRow S r 3))), some (.int (zI (spRow S r 7))), some (.int (zI (spRow S r 8))), some (.int (zI (spRow S r 0))), some (.int (zI (s.2))), some (.int (zI (s.1))), none]) (fun s => (r + 1 ≤ s.1 ∧ s.1 ≤ r + spRow S r 8 + 1) ∧ s.2 = dirN S r s.1) (fun s => (r + spRow S r 8 + 1 - s.1).toNat) (r + 1, 0) rfl rfl ⟨by dsimp only; omega, by unfold dirN; dsimp only; omega⟩ ?_
  rintro ⟨k, d8⟩ ⟨k1, k2⟩ ihq
  dsimp only at k1 k2 ihq ⊢
  have hd8 := dirN_r S r k k1.1 h0
  refine x_iload dL_sound_55 rfl ?_
  refine x_iload_n dL_sound_57 rfl ?_
  refine x_icmp_ge dL_sound_58 ⟨by omega, by omega⟩ ⟨by omega, by omega⟩ (fun qc58q => ?_) (fun qc58q => ?_)
  · exact J142 k d8 (by omega) k2
  · refine x_iload dL_sound_61 rfl ?_
    refine x_iload_n dL_sound_63 rfl ?_
    refine x_iload dL_sound_64 rfl ?_
    refine x_iadd dL_sound_66 ?_
    refine x_icmp_gt dL_sound_67 ⟨by omega, by omega⟩ ⟨by omega, by omega⟩ (fun qc67q => ?_) (fun qc67q => ?_)
    · exact J142 k d8 (by omega) k2
    · have hk := aK k (by omega) (by omega)
      have hrk := rw1_r S k hI hB
      have hrk2 := row2_le hI hB (r := k) (by omega) (by omega)
      refine x_aload_n dL_sound_70 rfl ?_
      refine x_iload dL_sound_71 rfl ?_
      refine x_iconst dL_sound_73 ?_
      refine p_V dL_sound_74 lL_21 (c_X8_row sz hO hWf ⟨by omega, by omega⟩ ⟨by omega, by omega⟩) hO.1.1 rfl rfl rfl rfl (by decide) ?_
      refine x_istore dL_sound_77 rfl rfl rfl ?_
      refine x_iload dL_sound_79 rfl ?_
      refine x_iload_n dL_sound_81 rfl ?_
      refine x_icmp_gt dL_sound_82 ⟨by omega, by omega⟩ ⟨by omega, by omega⟩ (fun qc82q => ?_) (fun qc82q => ?_)
      · refine x_iload dL_sound_87 rfl ?_
        refine x_iload_n dL_sound_89 rfl ?_
        refine x_iconst dL_sound_90 ?_
        refine x_iadd dL_sound_91 ?_
        refine x_icmp_ne dL_sound_92 ⟨by omega, by omega⟩ ⟨by omega, by omega⟩ (fun qc92q => ?_) (fun qc92q => ?_)
        · have hds := dirN_f (S := S) (r := r) (k := k) (by omega) (by omega)
          refine x_iinc dL_sound_136 rfl rfl rfl ?_
          refine x_goto dL_sound_139 ?_
          refine x_kill 10 ?_
          first | exact ihq (k + 1, d8) ⟨by dsimp only; omega, by dsimp only; omega⟩ (by dsimp only; omega) | exact ihq (k + 1, d8 + 1) ⟨by dsimp only; omega, by dsimp only; omega⟩ (by dsimp only; omega)
        · have hk2 := hk.2 (by omega)
          have hk3 := snd_at hI hB (r := k) (by omega) (by omega)
          have hds := dirN_t (S := S) (r := r) (k := k) (by omega) (by omega)
          refine x_aload_n dL_sound_95 rfl ?_
          refine x_iload dL_sound_96 rfl ?_
          refine x_iconst dL_sound_98 ?_
          refine p_V dL_sound_99 lL_21 (c_X8_row sz hO hWf ⟨by omega, by omega⟩ ⟨by omega, by omega⟩) hO.1.1 rfl rfl rfl rfl (by decide) ?_
          refine x_iload dL_sound_102 rfl ?_
          refine x_icmp_ne dL_sound_104 ⟨by omega, by omega⟩ ⟨by omega, by omega⟩ (fun qc104q => ?_) (fun qc104q => ?_)
          · exfalso; omega
          · refine x_aload_n dL_sound_107 rfl ?_
            refine x_iload dL_sound_108 rfl ?_
            refine x_bipush dL_sound_110 (by decide) ?_
            refine p_V dL_sound_112 lL_21 (c_X8_row sz hO hWf ⟨by omega, by omega⟩ ⟨by omega, by omega⟩) hO.1.1 rfl rfl rfl rfl (by decide) ?_
            refine x_iload_n dL_sound_115 rfl ?_
            refine x_icmp_ne dL_sound_116 ⟨by omega, by omega⟩ ⟨by omega, by omega⟩ (fun qc116q => ?_) (fun qc116q => ?_)
            · exfalso; omega
            · refine x_aload_n dL_sound_119 rfl ?_
              refine x_iload dL_sound_120 rfl ?_
              refine x_iconst dL_sound_122 ?_
              refine p_V dL_sound_123 lL_21 (c_X8_row sz hO hWf ⟨by omega, by omega⟩ ⟨by omega, by omega⟩) hO.1.1 rfl rfl rfl rfl (by decide) ?_
              refine x_iload dL_sound_126 rfl ?_
              refine x_icmp_ne dL_sound_128 ⟨by omega, by omega⟩ ⟨by omega, by omega⟩ (fun qc128q => ?_) (fun qc128q => ?_)
              · refine x_iinc dL_sound_133 rfl rfl rfl ?_
                refine x_iinc dL_sound_136 rfl rfl rfl ?_
                refine x_goto dL_sound_139 ?_
                refine x_kill 10 ?_
                first | exact ihq (k + 1, d8) ⟨by dsimp only; omega, by dsimp only; omega⟩ (by dsimp only; omega) | exact ihq (k + 1, d8 + 1) ⟨by dsimp only; omega, by dsimp only; omega⟩ (by dsimp only; omega)
              · exfalso; omega
      · exfalso; omega

