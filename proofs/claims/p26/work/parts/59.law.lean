/-! The law's own body: one loop of 18 steps. -/
theorem InvS.zero : InvS cs0 := ⟨⟨by decide, ⟨fun _ => 0, fun y z hz => by cases hz⟩, fun y => List.nodup_nil, fun y z hz => by cases hz⟩, rfl⟩
theorem InvA.zero : InvA ([], [], cs0, 0, cs0) := ⟨by decide, InvS.zero, InvS.zero, fun S hS => by cases hS⟩
theorem InvT.zero : InvT ([], [], cs0, 0, cs0) := ⟨fun y h1 h2 => by have h3 : y ≤ 0 := h2; omega, fun S hS => by cases hS⟩
theorem st_undo {A : AS} {z : Int} {A' : AS} (h : SpUndo A z A') (hs : A.2.1 = []) : z = -6 ∧ A' = A := by
  rcases h with q | ⟨hs1, S1, q1, -⟩
  · exact q.2
  · rw [hs] at q1
    simp at q1
theorem st_rest {A : AS} {z : Int} {A' : AS} (h : SpRest A z A') (hb : A.2.2.2.1 = 0) : z = -6 ∧ A' = A := by
  rcases h with q | q
  · exact q.2
  · exact absurd hb q.1
theorem st_read {A : AS} {z : Int} {A' : AS} (h : SpRead A z A') (ht : A.1 = []) : z = -100 ∧ A' = A := by
  have hno : ∀ s : RS, ¬ RdOk A.1 s := fun s q => by
    obtain ⟨q1, q2, -⟩ := q
    rw [ht] at q1
    have q3 : some rd0 = some s := q1
    rw [← Option.some.inj q3] at q2
    exact q2 rfl
  rcases h with ⟨x, ⟨s, -, q1⟩, q2, q3⟩ | ⟨s, q, -⟩ | ⟨s, q, -⟩
  · rw [ht] at q1
    refine ⟨?_, q3⟩
    rcases q1 with q | q
    · exact absurd q.1 (Nat.not_lt_zero _)
    · have : x = 0 := q.1
      omega
  · exact absurd q (hno s)
  · exact absurd q (hno s)
theorem st_add {A : AS} {z : Int} {A' : AS} (h : SpAdd A (-1) z A') (ht : A.1 = []) : z = -3 ∧ A' = A := by
  have hl : ¬ (1 ≤ A.1.length ∧ A.1.length ≤ 8) := by
    rw [ht]
    exact fun q => absurd q.1 (by decide)
  unfold SpAdd at h
  dsimp only at h
  rcases h with q | q | q | q
  · have q1 : (-1 : Int) = -2 := q.1
    omega
  · exact q.2.2
  · exact absurd q.2.1 hl
  · exact absurd q.2.1 hl
theorem st_cut {A : AS} {r z : Int} {A' : AS} (h : SpCut A r z A') (hr : plZ A.2.2.2.2.2.2.2.2 r = -2) : z = -2 ∧ A' = A := by
  unfold SpCut at h
  dsimp only at h
  rcases h with q | q
  · exact q.2
  · exact absurd hr q.1
theorem st_show {A : AS} {y z : Int} {A' : AS} (h : SpShow A y z A') (hf : pFst A.2.2.2.2.2.2.2.2 y = -2) : z = -2 ∧ A' = A := by
  unfold SpShow at h
  dsimp only at h
  rcases h with q | q | q
  · exact q.2
  · exact absurd hf q.1
  · exact absurd hf q.1
theorem stp_undo {A : AS} {z : Int} {A' : AS} (h : InvT A) (q : SpUndo A z A') : InvT A' := by
  rcases q with q | ⟨hs1, S1, q1, q2, q3⟩
  · rw [q.2.2]
    exact h
  · have h2 := h.2
    rw [q1] at h2
    rw [q3]
    exact ⟨h2 S1 (List.mem_append_right _ List.mem_cons_self), fun S hS => h2 S (List.mem_append_left _ hS)⟩
theorem undo_fact {A A1 A2 : AS} {z : Int} (h : SpUndo A1 z A2) (hp : A1.2.1 = hPush A.2.1 A.2.2.2.2) (hl : A.2.1.length ≤ 5) : z = (if (A.2.1.length : Int) = 5 then 4 else (A.2.1.length : Int)) ∧ A2.2.2.2.2 = A.2.2.2.2 := by
  unfold hPush at hp
  by_cases e : A.2.1.length = 5
  · rw [if_pos e] at hp
    rw [if_pos (by omega)]
    rcases h with q | ⟨hs1, S1, q1, q2, q3⟩
    · have := hp.symm.trans q.1
      simp at this
    · have h1 := List.append_inj' (hp.symm.trans q1) rfl
      have h2 : A.2.2.2.2 = S1 := by
        have := h1.2
        simpa using this
      refine ⟨?_, by rw [q3, h2]⟩
      rw [q2, ← h1.1, List.length_tail]
      omega
  · rw [if_neg e] at hp
    rw [if_neg (by omega)]
    rcases h with q | ⟨hs1, S1, q1, q2, q3⟩
    · have := hp.symm.trans q.1
      simp at this
    · have h1 := List.append_inj' (hp.symm.trans q1) rfl
      have h2 : A.2.2.2.2 = S1 := by
        have := h1.2
        simpa using this
      exact ⟨by rw [q2, ← h1.1], by rw [q3, h2]⟩
theorem hPush_ne {hs : List CS} {S : CS} (hl : hs.length ≤ 5) : ((hPush hs S).length : Int) = if (hs.length : Int) = 5 then 5 else (hs.length : Int) + 1 := by
  unfold hPush
  by_cases e : hs.length = 5
  · rw [if_pos e, if_pos (by omega), List.length_append, List.length_tail, List.length_singleton]
    omega
  · rw [if_neg e, if_neg (by omega), List.length_append, List.length_singleton]
    omega
set_option maxHeartbeats 8000000 in
theorem law_loop {nm : String} {b L sz x : Nat} {xs : Nat → Int32} {h1 : AH} {A : AS} (hL : L ≤ 260) (hOu : OuA h1 x A) (hI : InvA A) (hT : InvT A) : XX (mLw nm) room_1 (gLw b L xs) zLw 107 8605 sz h1 86 [some (.ref b), some (.ref x), none, none, none, none, none, none, none, none, none, none] [] := by
  refine x_iconst dL_law_86 ?_
  refine x_istore_n dL_law_87 rfl rfl rfl ?_
  refine x_loop (fun s : AH × AS × Int => s.1) (fun s => [some (.ref b), some (.ref x), some (.int (zI (s.2.2))), none, none, none, none, none, none, none, none, none]) (fun s => (0 ≤ s.2.2 ∧ s.2.2 ≤ 18) ∧ OuA s.1 x s.2.1 ∧ InvA s.2.1 ∧ InvT s.2.1) (fun s => (18 - s.2.2).toNat) (h1, A, 0) rfl rfl ⟨by dsimp only; omega, hOu, hI, hT⟩ ?_
  clear hOu hI hT A
  rintro ⟨h0, A, e⟩ ⟨he, hOu, hI, hT⟩ ihq
  dsimp only at he hOu hI hT ihq ⊢
  refine x_iload_n dL_law_88 rfl ?_
  refine x_bipush dL_law_89 (by decide) ?_
  refine x_icmp_ge dL_law_91 ⟨by omega, by omega⟩ ⟨by omega, by omega⟩ (fun qc91q => ?_) (fun qc91q => ?_)
  · refine x_iconst dL_law_334 ?_
    exact x_lwret dL_law_335 (Nat.le_of_ble_eq_true rfl) (Nat.le_of_ble_eq_true rfl)
  · have J328 : ∀ (h1 : AH) (A1 : AS) (g k so stt last rows : Int) (isv : Int64), OuA h1 x A1 → InvA A1 → InvT A1 → XX (mLw nm) room_1 (gLw b L xs) zLw 107 8605 sz h1 328 [some (.ref b), some (.ref x), some (.int (zI (e))), some (.int (zI (g))), some (.int (zI (k))), some (.int (zI (so))), some (.int (zI (stt))), some (.long (isv)), none, some (.int (zI (1))), some (.int (zI (last))), some (.int (zI (rows)))] [] := by
      intro h1 A1 g k so stt last rows isv hOu1 hI1 hT1
      refine x_iinc dL_law_328 rfl rfl rfl ?_
      refine x_goto dL_law_331 ?_
      refine x_kill 3 ?_
      refine x_kill 4 ?_
      refine x_kill 5 ?_
      refine x_kill 6 ?_
      refine x_kill 7 ?_
      refine x_kill 9 ?_
      refine x_kill 10 ?_
      refine x_kill 11 ?_
      exact ihq (h1, A1, e + 1) ⟨by dsimp only; omega, hOu1, hI1, hT1⟩ (by dsimp only; omega)
    have J258 : ∀ (h1 : AH) (A1 : AS) (g k so stt last : Int) (isv : Int64), OuA h1 x A1 → InvA A1 → InvT A1 → XX (mLw nm) room_1 (gLw b L xs) zLw 107 8605 sz h1 258 [some (.ref b), some (.ref x), some (.int (zI (e))), some (.int (zI (g))), some (.int (zI (k))), some (.int (zI (so))), some (.int (zI (stt))), some (.long (isv)), none, some (.int (zI (1))), some (.int (zI (last))), none] [] := by
      intro h1 A1 g k so stt last isv hOu1 hI1 hT1
      obtain ⟨t1, hs1, sp1, b1, S1⟩ := A1
      obtain ⟨qc1q, d1, D1, hO⟩ := id hOu1
      have hO : OuR h1 x t1 hs1 sp1 b1 qc1q d1 S1 D1 := hO
      have hAB1 := hO.AB
      have hS1 : InvS S1 := hI1.2.1
      have hB1 : StB S1 := hAB1.2.2.1
      have hWf := hS1.wf
      have hcr1 := cnt_rows hS1 hB1 t1 hs1
      have hc31 : spCnt t1 hs1 S1 3 = rwN S1 := rfl
      have hc71 : spCnt t1 hs1 S1 7 = (hs1.length : Int) := rfl
      have hl51 : hs1.length ≤ 5 := hAB1.2.1
      refine x_iload dL_law_258 rfl ?_
      refine x_if_eq dL_law_260 ⟨by omega, by omega⟩ (fun qc260q => ?_) (fun qc260q => ?_)
      · exfalso; omega
      · refine x_aload_n dL_law_263 rfl ?_
        refine p_S dL_law_264 lL_115 (c_L_nodes sz hO hS1) rfl rfl rfl ⟨⟨Nat.le_of_ble_eq_true rfl, Nat.le_of_ble_eq_true rfl⟩, Nat.le_of_ble_eq_true rfl, Nat.le_of_ble_eq_true rfl⟩ ?_
        refine x_if_ne dL_law_267 ⟨by omega, by omega⟩ (fun qc267q => ?_) (fun qc267q => ?_)
        · refine x_aload_n dL_law_272 rfl ?_
          refine x_iconst dL_law_273 ?_
          refine p_V dL_law_274 lL_13 (c_X8_count sz hO ⟨by omega, by omega⟩) hO.1.1 rfl rfl rfl rfl ⟨⟨Nat.le_of_ble_eq_true rfl, Nat.le_of_ble_eq_true rfl⟩, Nat.le_of_ble_eq_true rfl, Nat.le_of_ble_eq_true rfl⟩ ?_
          refine x_istore dL_law_277 rfl rfl rfl ?_
          refine x_iload dL_law_279 rfl ?_
          refine x_if_le dL_law_281 ⟨by omega, by omega⟩ (fun qc281q => ?_) (fun qc281q => ?_)
          · exact J328 h1 _ g k so stt last _ isv hOu1 hI1 hT1
          · have hg1 := lwZ_r (shZ g 3) (n := spCnt t1 hs1 S1 3) (by omega)
            have hk1 := lwZ_r (shZ k 2) (n := spCnt t1 hs1 S1 3) (by omega)
            refine x_aload_n dL_law_284 rfl ?_
            refine x_iload_n dL_law_285 rfl ?_
            refine x_iconst dL_law_286 ?_
            refine x_ishr dL_law_287 (show zI g >>> (zI 3 &&& 31) = zI (shZ g 3) from (zI_sI _).symm) ?_
            refine x_iload dL_law_288 rfl ?_
            refine p_S dL_law_290 lL_40 (c_L_low sz _ ⟨by omega, by omega⟩) rfl rfl rfl ⟨⟨Nat.le_of_ble_eq_true rfl, Nat.le_of_ble_eq_true rfl⟩, Nat.le_of_ble_eq_true rfl, Nat.le_of_ble_eq_true rfl⟩ ?_
            refine p_S dL_law_293 lL_119 (c_L_sound sz hO hS1 hT1.1 (by omega) (by omega)) rfl rfl rfl ⟨⟨Nat.le_of_ble_eq_true rfl, Nat.le_of_ble_eq_true rfl⟩, Nat.le_of_ble_eq_true rfl, Nat.le_of_ble_eq_true rfl⟩ ?_
            refine x_if_eq dL_law_296 ⟨by omega, by omega⟩ (fun qc296q => ?_) (fun qc296q => ?_)
            · exfalso; omega
            · refine x_aload_n dL_law_299 rfl ?_
              refine x_iload dL_law_300 rfl ?_
              refine x_iconst dL_law_302 ?_
              refine x_ishr dL_law_303 (show zI k >>> (zI 2 &&& 31) = zI (shZ k 2) from (zI_sI _).symm) ?_
              refine x_iload dL_law_304 rfl ?_
              refine p_S dL_law_306 lL_40 (c_L_low sz _ ⟨by omega, by omega⟩) rfl rfl rfl ⟨⟨Nat.le_of_ble_eq_true rfl, Nat.le_of_ble_eq_true rfl⟩, Nat.le_of_ble_eq_true rfl, Nat.le_of_ble_eq_true rfl⟩ ?_
              refine p_S dL_law_309 lL_119 (c_L_sound sz hO hS1 hT1.1 (by omega) (by omega)) rfl rfl rfl ⟨⟨Nat.le_of_ble_eq_true rfl, Nat.le_of_ble_eq_true rfl⟩, Nat.le_of_ble_eq_true rfl, Nat.le_of_ble_eq_true rfl⟩ ?_
              refine x_if_eq dL_law_312 ⟨by omega, by omega⟩ (fun qc312q => ?_) (fun qc312q => ?_)
              · exfalso; omega
              · refine x_aload_n dL_law_315 rfl ?_
                refine x_iload dL_law_316 rfl ?_
                refine x_iconst dL_law_318 ?_
                refine x_isub dL_law_319 ?_
                refine p_S dL_law_320 lL_119 (c_L_sound sz hO hS1 hT1.1 (by omega) (by omega)) rfl rfl rfl ⟨⟨Nat.le_of_ble_eq_true rfl, Nat.le_of_ble_eq_true rfl⟩, Nat.le_of_ble_eq_true rfl, Nat.le_of_ble_eq_true rfl⟩ ?_
                refine x_if_ne dL_law_323 ⟨by omega, by omega⟩ (fun qc323q => ?_) (fun qc323q => ?_)
                · exact J328 h1 _ g k so stt last _ isv hOu1 hI1 hT1
                · exfalso; omega
        · exfalso; omega
    obtain ⟨t, hs, sp, bb, S⟩ := A
    obtain ⟨qc0q, d0, D0, hO⟩ := id hOu
    have hO : OuR h0 x t hs sp bb qc0q d0 S D0 := hO
    have hAB := hO.AB
    have hS : InvS S := hI.2.1
    have hB : StB S := hAB.2.2.1
    have hWf := hS.wf
    have hc7 : spCnt t hs S 7 = (hs.length : Int) := rfl
    have hl5 : hs.length ≤ 5 := hAB.2.1
    have J131 : ∀ g k so : Int, 0 ≤ so → so ≤ 16 → XX (mLw nm) room_1 (gLw b L xs) zLw 107 8605 sz h0 131 [some (.ref b), some (.ref x), some (.int (zI (e))), some (.int (zI (g))), some (.int (zI (k))), none, none, none, none, none, none, none] [.int (zI so)] := by
      intro g k so hso0 hso1
      have J175 : ∀ (h1 : AH) (A1 : AS), OuA h1 x A1 → InvA A1 → InvT A1 → Stpd (t, hs, sp, bb, S) A1 → XX (mLw nm) room_1 (gLw b L xs) zLw 107 8605 sz h1 175 [some (.ref b), some (.ref x), some (.int (zI (e))), some (.int (zI (g))), some (.int (zI (k))), some (.int (zI (so))), some (.int (zI (spCnt t hs S 7))), some (.long (dgM S S.1)), none, none, none, none] [.int (zI 1)] := by
        intro h1 A1 hOu1 hI1 hT1 hSt1
        obtain ⟨t1, hs1, sp1, b1, S1⟩ := A1
        obtain ⟨qc1q, d1, D1, hO⟩ := id hOu1
        have hO : OuR h1 x t1 hs1 sp1 b1 qc1q d1 S1 D1 := hO
        have hAB1 := hO.AB
        have hS1 : InvS S1 := hI1.2.1
        have hB1 : StB S1 := hAB1.2.2.1
        have hWf := hS1.wf
        have hcr1 := cnt_rows hS1 hB1 t1 hs1
        have hc31 : spCnt t1 hs1 S1 3 = rwN S1 := rfl
        have hc71 : spCnt t1 hs1 S1 7 = (hs1.length : Int) := rfl
        have hl51 : hs1.length ≤ 5 := hAB1.2.1
        unfold Stpd at hSt1
        dsimp only at hSt1
        obtain ⟨na, hna0, hna1, hand⟩ := and31s k 3072
        have J189 : ∀ v : Int, v = (if spCnt t hs S 7 = 5 then 4 else spCnt t hs S 7) → XX (mLw nm) room_1 (gLw b L xs) zLw 107 8605 sz h1 189 [some (.ref b), some (.ref x), some (.int (zI (e))), some (.int (zI (g))), some (.int (zI (k))), some (.int (zI (so))), some (.int (zI (spCnt t hs S 7))), some (.long (dgM S S.1)), none, some (.int (zI (1))), none, none] [.int (zI v)] := by
          intro v hv
          obtain ⟨lz, hlz, hlr, hl0⟩ := lcmp_z (dgM S1 S1.1) (dgM S S.1)
          have hvr : 0 ≤ v ∧ v ≤ 5 := by rw [hv, hc7]; split <;> omega
          have J232 : hs1 = hPush hs S → XX (mLw nm) room_1 (gLw b L xs) zLw 107 8605 sz h1 232 [some (.ref b), some (.ref x), some (.int (zI (e))), some (.int (zI (g))), some (.int (zI (k))), some (.int (zI (so))), some (.int (zI (spCnt t hs S 7))), some (.long (dgM S S.1)), none, some (.int (zI (1))), some (.int (zI (v))), none] [] := by
            intro hpu
            clear hlz hlr hl0
            refine x_aload_n dL_law_232 rfl ?_
            refine i_V dL_law_233 lL_88 (c_X8_undo sz hO) hO.1.1 rfl rfl rfl rfl ⟨⟨Nat.le_of_ble_eq_true rfl, Nat.le_of_ble_eq_true rfl⟩, Nat.le_of_ble_eq_true rfl, Nat.le_of_ble_eq_true rfl⟩ (fun z2 h2 ⟨A2, hSp2, hOu2, hF2⟩ => ?_)
            have hAF := undo_fact (A := (t, hs, sp, bb, S)) hSp2 hpu hl5
            have hI2 := inv_undo hI1 hSp2
            have hT2 := stp_undo hT1 hSp2
            obtain ⟨t2, hs2, sp2, b2, S2⟩ := A2
            obtain ⟨qc2q, d2, D2, hO⟩ := id hOu2
            have hO : OuR h2 x t2 hs2 sp2 b2 qc2q d2 S2 D2 := hO
            have hAB2 := hO.AB
            have hS2 : InvS S2 := hI2.2.1
            have hB2 : StB S2 := hAB2.2.2.1
            have hWf := hS2.wf
            have hcr2 := cnt_rows hS2 hB2 t2 hs2
            have hc32 : spCnt t2 hs2 S2 3 = rwN S2 := rfl
            have hc72 : spCnt t2 hs2 S2 7 = (hs2.length : Int) := rfl
            have hl52 : hs2.length ≤ 5 := hAB2.2.1
            have hS2S : S2 = S := hAF.2
            have hz2 : z2 = v := by rw [hv]; exact hAF.1
            have hz2r : 0 ≤ z2 ∧ z2 ≤ 5 := by rw [hz2, hv, hc7]; split <;> omega
            obtain ⟨lz, hlz, hlr, hl0⟩ := lcmp_z (dgM S2 S2.1) (dgM S S.1)
            have hlz0 : lz = 0 := hl0.mpr (by rw [hS2S])
            refine x_iload dL_law_236 rfl ?_
            refine x_icmp_ne dL_law_238 ⟨by omega, by omega⟩ ⟨by omega, by omega⟩ (fun qc238q => ?_) (fun qc238q => ?_)
            · exfalso; omega
            · refine x_aload_n dL_law_241 rfl ?_
              refine l_S dL_law_242 lL_104 (c_L_digest sz hO hS2) rfl rfl rfl ⟨⟨Nat.le_of_ble_eq_true rfl, Nat.le_of_ble_eq_true rfl⟩, Nat.le_of_ble_eq_true rfl, Nat.le_of_ble_eq_true rfl⟩ ?_
              refine x_lload dL_law_245 rfl ?_
              refine x_lcmp dL_law_247 hlz ?_
              refine x_if_ne dL_law_248 ⟨by omega, by omega⟩ (fun qc248q => ?_) (fun qc248q => ?_)
              · exfalso; omega
              · refine x_iconst dL_law_251 ?_
                refine x_goto dL_law_252 ?_
                refine x_istore dL_law_256 rfl rfl rfl ?_
                exact J258 h2 _ g k so _ _ _ hOu2 hI2 hT2
          refine x_istore dL_law_189 rfl rfl rfl ?_
          refine x_iload dL_law_191 rfl ?_
          refine x_if_eq dL_law_193 ⟨by omega, by omega⟩ (fun qc193q => ?_) (fun qc193q => ?_)
          · exfalso; omega
          · refine x_iload dL_law_196 rfl ?_
            refine x_sipush dL_law_198 (by decide) ?_
            refine x_iand dL_law_201 hand ?_
            refine x_if_ne dL_law_202 ⟨by omega, by omega⟩ (fun qc202q => ?_) (fun qc202q => ?_)
            · exact J258 h1 _ g k so _ _ _ hOu1 hI1 hT1
            · refine x_aload_n dL_law_205 rfl ?_
              refine x_bipush dL_law_206 (by decide) ?_
              refine p_V dL_law_208 lL_13 (c_X8_count sz hO ⟨by omega, by omega⟩) hO.1.1 rfl rfl rfl rfl ⟨⟨Nat.le_of_ble_eq_true rfl, Nat.le_of_ble_eq_true rfl⟩, Nat.le_of_ble_eq_true rfl, Nat.le_of_ble_eq_true rfl⟩ ?_
              refine x_iload dL_law_211 rfl ?_
              refine x_icmp_ne dL_law_213 ⟨by omega, by omega⟩ ⟨by omega, by omega⟩ (fun qc213q => ?_) (fun qc213q => ?_)
              · have hpu : hs1 = hPush hs S := hSt1.resolve_left (fun q => by have q2 : hs1.length = hs.length := congrArg List.length q.1; omega)
                exact J232 hpu
              · refine x_iload dL_law_216 rfl ?_
                refine x_iconst dL_law_218 ?_
                refine x_icmp_ne dL_law_219 ⟨by omega, by omega⟩ ⟨by omega, by omega⟩ (fun qc219q => ?_) (fun qc219q => ?_)
                · exact J258 h1 _ g k so _ _ _ hOu1 hI1 hT1
                · refine x_aload_n dL_law_222 rfl ?_
                  refine l_S dL_law_223 lL_104 (c_L_digest sz hO hS1) rfl rfl rfl ⟨⟨Nat.le_of_ble_eq_true rfl, Nat.le_of_ble_eq_true rfl⟩, Nat.le_of_ble_eq_true rfl, Nat.le_of_ble_eq_true rfl⟩ ?_
                  refine x_lload dL_law_226 rfl ?_
                  refine x_lcmp dL_law_228 hlz ?_
                  refine x_if_eq dL_law_229 ⟨by omega, by omega⟩ (fun qc229q => ?_) (fun qc229q => ?_)
                  · exact J258 h1 _ g k so _ _ _ hOu1 hI1 hT1
                  · have hpu : hs1 = hPush hs S := hSt1.resolve_left (fun q => by have q1 : S1 = S := q.2; rw [q1] at hl0; exact qc229q (hl0.mpr rfl))
                    exact J232 hpu
        refine x_istore dL_law_175 rfl rfl rfl ?_
        refine x_iload dL_law_177 rfl ?_
        refine x_iconst dL_law_179 ?_
        refine x_icmp_ne dL_law_180 ⟨by omega, by omega⟩ ⟨by omega, by omega⟩ (fun qc180q => ?_) (fun qc180q => ?_)
        · refine x_iload dL_law_187 rfl ?_
          exact J189 _ (by first | (rw [if_pos (by omega)]; done) | (rw [if_neg (by omega)]; done))
        · refine x_iconst dL_law_183 ?_
          refine x_goto dL_law_184 ?_
          exact J189 _ (by first | (rw [if_pos (by omega)]; done) | (rw [if_neg (by omega)]; done))
      refine x_istore dL_law_131 rfl rfl rfl ?_
      refine x_aload_n dL_law_133 rfl ?_
      refine x_bipush dL_law_134 (by decide) ?_
      refine p_V dL_law_136 lL_13 (c_X8_count sz hO ⟨by omega, by omega⟩) hO.1.1 rfl rfl rfl rfl ⟨⟨Nat.le_of_ble_eq_true rfl, Nat.le_of_ble_eq_true rfl⟩, Nat.le_of_ble_eq_true rfl, Nat.le_of_ble_eq_true rfl⟩ ?_
      refine x_istore dL_law_139 rfl rfl rfl ?_
      refine x_aload_n dL_law_141 rfl ?_
      refine l_S dL_law_142 lL_104 (c_L_digest sz hO hS) rfl rfl rfl ⟨⟨Nat.le_of_ble_eq_true rfl, Nat.le_of_ble_eq_true rfl⟩, Nat.le_of_ble_eq_true rfl, Nat.le_of_ble_eq_true rfl⟩ ?_
      refine x_lstore dL_law_145 rfl rfl rfl ?_
      refine x_iload dL_law_147 rfl ?_
      refine x_bipush dL_law_149 (by decide) ?_
      refine x_icmp_ge dL_law_151 ⟨by omega, by omega⟩ ⟨by omega, by omega⟩ (fun qc151q => ?_) (fun qc151q => ?_)
      · refine x_aload_n dL_law_166 rfl ?_
        refine x_iload dL_law_167 rfl ?_
        refine x_iload_n dL_law_169 rfl ?_
        refine x_iload dL_law_170 rfl ?_
        refine i_S dL_law_172 lL_112 (c_L_changes sz hO hI hT ⟨by omega, by omega⟩) rfl rfl rfl ⟨⟨Nat.le_of_ble_eq_true rfl, Nat.le_of_ble_eq_true rfl⟩, Nat.le_of_ble_eq_true rfl, Nat.le_of_ble_eq_true rfl⟩ (fun z1 h1 ⟨hz1, A1, hOu1, hI1, hT1, hSt1, hF1⟩ => ?_)
        subst hz1
        exact J175 h1 A1 hOu1 hI1 hT1 hSt1
      · refine x_aload_n dL_law_154 rfl ?_
        refine x_iload dL_law_155 rfl ?_
        refine x_iload_n dL_law_157 rfl ?_
        refine x_iload dL_law_158 rfl ?_
        refine i_S dL_law_160 lL_108 (c_L_grows sz hO hI hT ⟨by omega, by omega⟩) rfl rfl rfl ⟨⟨Nat.le_of_ble_eq_true rfl, Nat.le_of_ble_eq_true rfl⟩, Nat.le_of_ble_eq_true rfl, Nat.le_of_ble_eq_true rfl⟩ (fun z1 h1 ⟨hz1, A1, hOu1, hI1, hT1, hSt1, hF1⟩ => ?_)
        refine x_goto dL_law_163 ?_
        subst hz1
        exact J175 h1 A1 hOu1 hI1 hT1 hSt1
    refine x_aload_n dL_law_94 rfl ?_
    refine x_iconst dL_law_95 ?_
    refine x_iload_n dL_law_96 rfl ?_
    refine x_imul dL_law_97 ?_
    refine x_cell dL_law_98 lL_100 rfl (c_L_cell sz h0 hL (by omega) (by omega)) rfl (Nat.le_of_ble_eq_true rfl) (Nat.le_of_ble_eq_true rfl) (fun g => ?_)
    refine x_istore_n dL_law_101 rfl rfl rfl ?_
    refine x_aload_n dL_law_102 rfl ?_
    refine x_iconst dL_law_103 ?_
    refine x_iload_n dL_law_104 rfl ?_
    refine x_imul dL_law_105 ?_
    refine x_iconst dL_law_106 ?_
    refine x_iadd dL_law_107 ?_
    refine x_cell dL_law_108 lL_100 rfl (c_L_cell sz h0 hL (by omega) (by omega)) rfl (Nat.le_of_ble_eq_true rfl) (Nat.le_of_ble_eq_true rfl) (fun k => ?_)
    have hlg := lwZ_r (shZ g 9) (n := 17) (by decide)
    refine x_istore dL_law_111 rfl rfl rfl ?_
    refine x_iload_n dL_law_113 rfl ?_
    refine x_iconst dL_law_114 ?_
    refine x_icmp_ge dL_law_115 ⟨by omega, by omega⟩ ⟨by omega, by omega⟩ (fun qc115q => ?_) (fun qc115q => ?_)
    · refine x_iload_n dL_law_122 rfl ?_
      refine x_bipush dL_law_123 (by decide) ?_
      refine x_ishr dL_law_125 (show zI g >>> (zI 9 &&& 31) = zI (shZ g 9) from (zI_sI _).symm) ?_
      refine x_bipush dL_law_126 (by decide) ?_
      refine p_S dL_law_128 lL_40 (c_L_low sz _ ⟨by omega, by omega⟩) rfl rfl rfl ⟨⟨Nat.le_of_ble_eq_true rfl, Nat.le_of_ble_eq_true rfl⟩, Nat.le_of_ble_eq_true rfl, Nat.le_of_ble_eq_true rfl⟩ ?_
      first | exact J131 g k 0 (by omega) (by omega) | exact J131 g k _ (by omega) (by omega)
    · refine x_iconst dL_law_118 ?_
      refine x_goto dL_law_119 ?_
      first | exact J131 g k 0 (by omega) (by omega) | exact J131 g k _ (by omega) (by omega)
set_option maxHeartbeats 4000000 in
theorem law_run {nm : String} {b L sz x : Nat} {xs : Nat → Int32} {h1 : AH} (hL : L ≤ 260) (hOu : OuA h1 x ([], [], cs0, 0, cs0)) : XX (mLw nm) room_1 (gLw b L xs) zLw 107 8605 sz h1 8 [some (.ref b), some (.ref x), none, none, none, none, none, none, none, none, none, none] [] := by
  obtain ⟨qc1q, d1, D1, hO⟩ := id hOu
  have hO : OuR h1 x [] [] cs0 0 qc1q d1 cs0 D1 := hO
  have hB0 : StB cs0 := hO.AB.2.2.1
  have hWf : Wf cs0 := InvS.zero.wf
  have hLk : LkP cs0 := InvS.zero.lk hB0.2.2
  have hp0 : plZ cs0.2.2.2.2 0 = -2 := rfl
  have hf0 : pFst cs0.2.2.2.2 0 = -2 := rfl
  have hn0 : spMkd cs0 (-1) 0 = -6 := rfl
  have hc0 : spCnt [] [] cs0 3 = 0 := rfl
  refine x_aload_n dL_law_8 rfl ?_
  refine i_V dL_law_9 lL_88 (c_X8_undo sz hO) hO.1.1 rfl rfl rfl rfl ⟨⟨Nat.le_of_ble_eq_true rfl, Nat.le_of_ble_eq_true rfl⟩, Nat.le_of_ble_eq_true rfl, Nat.le_of_ble_eq_true rfl⟩ (fun z2 h2 ⟨A2, hSp2, hOu2, hF2⟩ => ?_)
  obtain ⟨hz2, rfl⟩ := st_undo hSp2 rfl
  subst hz2
  obtain ⟨qc2q, d2, D2, hO⟩ := id hOu2
  have hO : OuR h2 x [] [] cs0 0 qc2q d2 cs0 D2 := hO
  refine x_bipush dL_law_12 (by decide) ?_
  refine x_icmp_ne dL_law_14 ⟨by omega, by omega⟩ ⟨by omega, by omega⟩ (fun qc14q => ?_) (fun qc14q => ?_)
  · exfalso; omega
  · refine x_aload_n dL_law_17 rfl ?_
    refine i_V dL_law_18 lL_91 (c_X8_restore sz (by decide) hO) hO.1.1 rfl rfl rfl rfl ⟨⟨Nat.le_of_ble_eq_true rfl, Nat.le_of_ble_eq_true rfl⟩, Nat.le_of_ble_eq_true rfl, Nat.le_of_ble_eq_true rfl⟩ (fun z3 h3 ⟨A3, hSp3, hOu3, hF3⟩ => ?_)
    obtain ⟨hz3, rfl⟩ := st_rest hSp3 rfl
    subst hz3
    obtain ⟨qc3q, d3, D3, hO⟩ := id hOu3
    have hO : OuR h3 x [] [] cs0 0 qc3q d3 cs0 D3 := hO
    refine x_bipush dL_law_21 (by decide) ?_
    refine x_icmp_ne dL_law_23 ⟨by omega, by omega⟩ ⟨by omega, by omega⟩ (fun qc23q => ?_) (fun qc23q => ?_)
    · exfalso; omega
    · refine x_aload_n dL_law_26 rfl ?_
      refine i_V dL_law_27 lL_94 (c_X8_readOutline sz hO (fun s hs => hs.inv.dp)) hO.1.1 rfl rfl rfl rfl ⟨⟨Nat.le_of_ble_eq_true rfl, Nat.le_of_ble_eq_true rfl⟩, Nat.le_of_ble_eq_true rfl, Nat.le_of_ble_eq_true rfl⟩ (fun z4 h4 ⟨A4, hSp4, hOu4, hF4⟩ => ?_)
      obtain ⟨hz4, rfl⟩ := st_read hSp4 rfl
      subst hz4
      obtain ⟨qc4q, d4, D4, hO⟩ := id hOu4
      have hO : OuR h4 x [] [] cs0 0 qc4q d4 cs0 D4 := hO
      refine x_bipush dL_law_30 (by decide) ?_
      refine x_icmp_ne dL_law_32 ⟨by omega, by omega⟩ ⟨by omega, by omega⟩ (fun qc32q => ?_) (fun qc32q => ?_)
      · exfalso; omega
      · refine x_aload_n dL_law_35 rfl ?_
        refine x_iconst dL_law_36 ?_
        refine i_V dL_law_37 lL_53 (c_X8_add sz hO ⟨by omega, by omega⟩ (fun a b => (kd_add InvS.zero a b).dp)) hO.1.1 rfl rfl rfl rfl ⟨⟨Nat.le_of_ble_eq_true rfl, Nat.le_of_ble_eq_true rfl⟩, Nat.le_of_ble_eq_true rfl, Nat.le_of_ble_eq_true rfl⟩ (fun z5 h5 ⟨A5, hSp5, hOu5, hF5⟩ => ?_)
        obtain ⟨hz5, rfl⟩ := st_add hSp5 rfl
        subst hz5
        obtain ⟨qc5q, d5, D5, hO⟩ := id hOu5
        have hO : OuR h5 x [] [] cs0 0 qc5q d5 cs0 D5 := hO
        refine x_bipush dL_law_40 (by decide) ?_
        refine x_icmp_ne dL_law_42 ⟨by omega, by omega⟩ ⟨by omega, by omega⟩ (fun qc42q => ?_) (fun qc42q => ?_)
        · exfalso; omega
        · refine x_aload_n dL_law_45 rfl ?_
          refine x_iconst dL_law_46 ?_
          refine p_V dL_law_47 lL_13 (c_X8_count sz hO ⟨by omega, by omega⟩) hO.1.1 rfl rfl rfl rfl ⟨⟨Nat.le_of_ble_eq_true rfl, Nat.le_of_ble_eq_true rfl⟩, Nat.le_of_ble_eq_true rfl, Nat.le_of_ble_eq_true rfl⟩ ?_
          refine x_if_ne dL_law_50 ⟨by omega, by omega⟩ (fun qc50q => ?_) (fun qc50q => ?_)
          · exfalso; omega
          · refine x_aload_n dL_law_53 rfl ?_
            refine x_iconst dL_law_54 ?_
            refine i_V dL_law_55 lL_62 (c_X8_cut sz hO hWf hLk ⟨by omega, by omega⟩ (fun a => absurd hp0 a)) hO.1.1 rfl rfl rfl rfl ⟨⟨Nat.le_of_ble_eq_true rfl, Nat.le_of_ble_eq_true rfl⟩, Nat.le_of_ble_eq_true rfl, Nat.le_of_ble_eq_true rfl⟩ (fun z6 h6 ⟨A6, hSp6, hOu6, hF6⟩ => ?_)
            obtain ⟨hz6, rfl⟩ := st_cut hSp6 hp0
            subst hz6
            obtain ⟨qc6q, d6, D6, hO⟩ := id hOu6
            have hO : OuR h6 x [] [] cs0 0 qc6q d6 cs0 D6 := hO
            refine x_bipush dL_law_58 (by decide) ?_
            refine x_icmp_ne dL_law_60 ⟨by omega, by omega⟩ ⟨by omega, by omega⟩ (fun qc60q => ?_) (fun qc60q => ?_)
            · exfalso; omega
            · refine x_aload_n dL_law_63 rfl ?_
              refine x_iconst dL_law_64 ?_
              refine x_iconst dL_law_65 ?_
              refine p_V dL_law_66 lL_97 (c_X8_nextMarked sz hO hWf ⟨by omega, by omega⟩ ⟨by omega, by omega⟩) hO.1.1 rfl rfl rfl rfl ⟨⟨Nat.le_of_ble_eq_true rfl, Nat.le_of_ble_eq_true rfl⟩, Nat.le_of_ble_eq_true rfl, Nat.le_of_ble_eq_true rfl⟩ ?_
              refine x_bipush dL_law_69 (by decide) ?_
              refine x_icmp_ne dL_law_71 ⟨by omega, by omega⟩ ⟨by omega, by omega⟩ (fun qc71q => ?_) (fun qc71q => ?_)
              · exfalso; omega
              · refine x_aload_n dL_law_74 rfl ?_
                refine x_iconst dL_law_75 ?_
                refine i_V dL_law_76 lL_84 (c_X8_show sz hO ⟨by omega, by omega⟩) hO.1.1 rfl rfl rfl rfl ⟨⟨Nat.le_of_ble_eq_true rfl, Nat.le_of_ble_eq_true rfl⟩, Nat.le_of_ble_eq_true rfl, Nat.le_of_ble_eq_true rfl⟩ (fun z7 h7 ⟨A7, hSp7, hOu7, hF7⟩ => ?_)
                obtain ⟨hz7, rfl⟩ := st_show hSp7 hf0
                subst hz7
                obtain ⟨qc7q, d7, D7, hO⟩ := id hOu7
                have hO : OuR h7 x [] [] cs0 0 qc7q d7 cs0 D7 := hO
                refine x_bipush dL_law_79 (by decide) ?_
                refine x_icmp_eq dL_law_81 ⟨by omega, by omega⟩ ⟨by omega, by omega⟩ (fun qc81q => ?_) (fun qc81q => ?_)
                · exact law_loop hL hOu7 InvA.zero InvT.zero
                · exfalso; omega
theorem law_main {nm : String} {b L sz : Nat} {xs : Nat → Int32} (hL : L ≤ 260) : XX (mLw nm) room_1 (gLw b L xs) zLw 0 0 sz (fun _ => none) 0 [some (.ref b), none, none, none, none, none, none, none, none, none, none, none] [] := by
  refine s_new dL_law_0 nL_14 ⟨Nat.le_of_ble_eq_true rfl, Nat.le_of_ble_eq_true rfl⟩ (fun h1 ho1 hF1 => ?_)
  refine x_dup dL_law_3 rfl ?_
  refine v_I dL_law_4 lL_87 (c_X8_init ho1) rfl rfl rfl ⟨⟨Nat.le_of_ble_eq_true rfl, Nat.le_of_ble_eq_true rfl⟩, Nat.le_of_ble_eq_true rfl, Nat.le_of_ble_eq_true rfl⟩ (fun h2 ⟨hOu2, hF2⟩ => ?_)
  refine x_astore_n dL_law_7 rfl rfl rfl ?_
  refine x_widen (nc' := 107) (ns' := 8605) rfl (Nat.le_of_ble_eq_true rfl) ?_
  exact law_run hL hOu2

