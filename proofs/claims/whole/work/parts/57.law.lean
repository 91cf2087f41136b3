set_option maxHeartbeats 4000000 in
theorem law_main {nm : String} {b L sz : Nat} {xs : Nat → Int32} (hL : L ≤ 1536) : XX (mLw nm) room_1 (gLw b L xs) zLw 0 0 sz (fun _ => none) 0 [some (.ref b), none, none, none] [] := by
  refine s_new dL_law_0 nL_7 ⟨Nat.le_of_ble_eq_true rfl, Nat.le_of_ble_eq_true rfl⟩ (fun h1 ho1 hF1 => ?_)
  refine x_dup dL_law_3 rfl ?_
  refine v_I dL_law_4 lL_9 (c_X8_init ho1) rfl rfl rfl ⟨⟨Nat.le_of_ble_eq_true rfl, Nat.le_of_ble_eq_true rfl⟩, Nat.le_of_ble_eq_true rfl, Nat.le_of_ble_eq_true rfl⟩ (fun h2 ⟨hOu2, hF2⟩ => ?_)
  refine x_astore_n dL_law_7 rfl rfl rfl ?_
  refine s_new dL_law_8 nL_10 ⟨Nat.le_of_ble_eq_true rfl, Nat.le_of_ble_eq_true rfl⟩ (fun h3 ho3 hF3 => ?_)
  refine x_dup dL_law_11 rfl ?_
  refine v_I dL_law_12 lL_12 (c_X9_init ho3) rfl rfl rfl ⟨⟨Nat.le_of_ble_eq_true rfl, Nat.le_of_ble_eq_true rfl⟩, Nat.le_of_ble_eq_true rfl, Nat.le_of_ble_eq_true rfl⟩ (fun h4 ⟨hMw4, hF4⟩ => ?_)
  have hOu4 := (hOu2.mv hF3 (by omega)).mv hF4 (by omega)
  refine x_astore_n dL_law_15 rfl rfl rfl ?_
  refine x_iconst dL_law_16 ?_
  refine x_istore_n dL_law_17 rfl rfl rfl ?_
  refine x_widen (nc' := 124) (ns' := 29972) rfl (Nat.le_of_ble_eq_true rfl) ?_
  refine x_sz (sz' := sz + 124) (by omega) ?_
  refine x_loop (fun s : AH × AS × Int => s.1) (fun s => [some (.ref b), some (.ref sz), some (.ref (sz + 1 + 106)), some (.int (zI s.2.2))]) (fun s => 0 ≤ s.2.2 ∧ s.2.2 ≤ L ∧ OuA s.1 sz s.2.1 ∧ MoR s.1 (sz + 1 + 106) s.2.1 ∧ InvA s.2.1) (fun s => (L - s.2.2).toNat) (h4, ([], [], cs0, 0, cs0), 0) rfl rfl ⟨by dsimp only; omega, by dsimp only; omega, hOu4, ⟨mw0, fun _ => 0, hMw4, MoC.zero⟩, InvA.zero⟩ ?_
  clear hOu4 hMw4 hOu2 hF4 hF2 hF1 hF3 ho1 ho3
  rintro ⟨h1, A, i⟩ ⟨hi0, hi1, hOu, hMo, hIv⟩ ihq
  try dsimp only at *
  refine x_iload_n dL_law_18 rfl ?_
  refine x_aload_n dL_law_19 rfl ?_
  refine x_slen dL_law_20 ?_
  refine x_iconst dL_law_21 ?_
  refine x_isub dL_law_22 ?_
  refine x_icmp_gt dL_law_23 ⟨by omega, by omega⟩ ⟨by omega, by omega⟩ (fun qc23q => ?_) (fun qc23q => ?_)
  · refine x_iconst dL_law_743 ?_
    exact x_lwret dL_law_744 (Nat.le_of_ble_eq_true rfl) (Nat.le_of_ble_eq_true rfl)
  · have hi3 : i + 3 ≤ L := by omega
    obtain ⟨v0, hv0e⟩ : ∃ y, (xs i.toNat).toInt = y := ⟨_, rfl⟩
    obtain ⟨v1, hv1e⟩ : ∃ y, (xs (i + 1).toNat).toInt = y := ⟨_, rfl⟩
    obtain ⟨v2, hv2e⟩ : ∃ y, (xs (i + 2).toNat).toInt = y := ⟨_, rfl⟩
    have hv1 : inR v1 := by
      rw [← hv1e]
      exact ⟨Int32.le_toInt _, Int32.toInt_lt _⟩
    have hv2 : inR v2 := by
      rw [← hv2e]
      exact ⟨Int32.le_toInt _, Int32.toInt_lt _⟩
    obtain ⟨k, hk0, hk1, hk⟩ := and31 (zI v0)
    obtain ⟨ch, hch0, hch⟩ := chr_of (zI v1)
    have hAB := hOu.AB
    have hIn := In2.of hAB hIv
    have hS := hIv.2.1
    have hSB := hAB.2.2.1
    have hB := hSB.2.2
    have hWf := hS.wf
    have hLk := hS.lk hB
    obtain ⟨c, d, D, hO⟩ := id hOu
    obtain ⟨w, u, hMw, hC⟩ := id hMo
    have K737 : ∀ (h2 : AH) (A2 : AS), OuA h2 sz A2 → MoR h2 (sz + 1 + 106) A2 → InvA A2 → XX (mLw nm) room_1 (gLw b L xs) zLw 124 29972 (sz + 124) h2 737 [some (.ref b), some (.ref sz), some (.ref (sz + 1 + 106)), some (.int (zI i))] [] := by
      intro h2 A2 hOu2 hMo2 hIv2
      refine x_iinc dL_law_737 rfl rfl rfl ?_
      refine x_goto dL_law_740 ?_
      exact ihq (h2, A2, i + 3) ⟨by dsimp only; omega, by dsimp only; omega, hOu2, hMo2, hIv2⟩ (by dsimp only; omega)
    refine x_aload_n dL_law_26 rfl ?_
    refine x_iload_n dL_law_27 rfl ?_
    refine x_sld dL_law_28 hv0e hL (by omega) (by omega) ?_
    refine x_bipush dL_law_29 (by decide) ?_
    refine x_iand dL_law_31 hk ?_
    by_cases hsw : k < 0 ∨ 22 < k
    · refine x_tableOut 737 dL_law_32 ⟨by omega, by omega⟩ hsw (by decide) ?_
      exact K737 _ _ hOu hMo hIv
    · rcases (show k = 0 ∨ k = 1 ∨ k = 2 ∨ k = 3 ∨ k = 4 ∨ k = 5 ∨ k = 6 ∨ k = 7 ∨ k = 8 ∨ k = 9 ∨ k = 10 ∨ k = 11 ∨ k = 12 ∨ k = 13 ∨ k = 14 ∨ k = 15 ∨ k = 16 ∨ k = 17 ∨ k = 18 ∨ k = 19 ∨ k = 20 ∨ k = 21 ∨ k = 22 by omega) with rfl | rfl | rfl | rfl | rfl | rfl | rfl | rfl | rfl | rfl | rfl | rfl | rfl | rfl | rfl | rfl | rfl | rfl | rfl | rfl | rfl | rfl | rfl
      · refine x_tableIn 0 140 dL_law_32 ⟨by decide, by decide⟩ (by decide) (by decide) rfl (by decide) ?_
        refine x_aload_n dL_law_140 rfl ?_
        refine x_aload_n dL_law_141 rfl ?_
        refine x_iload_n dL_law_142 rfl ?_
        refine x_iconst dL_law_143 ?_
        refine x_iadd dL_law_144 ?_
        refine x_sld dL_law_145 hv1e hL (by omega) (by omega) ?_
        refine i_V dL_law_146 lL_13 (c_X8_add (sz + 124) hO hv1 (fun a b => (kd_add hS a b).dp)) hO.1.1 rfl rfl rfl rfl ⟨⟨Nat.le_of_ble_eq_true rfl, Nat.le_of_ble_eq_true rfl⟩, Nat.le_of_ble_eq_true rfl, Nat.le_of_ble_eq_true rfl⟩ (fun z h2 ⟨A', hSp, hOu2, hF2⟩ => ?_)
        have hMo2 := hMo.mv hF2 (by omega)
        obtain ⟨w2, u2, hMw2, -⟩ := id hMo2
        have hAB2 := hOu2.AB
        have hIv2 : InvA A' := inv_add hIv hSp
        refine x_aload_n dL_law_149 rfl ?_
        refine x_aload_n dL_law_150 rfl ?_
        refine x_iload_n dL_law_151 rfl ?_
        refine x_iconst dL_law_152 ?_
        refine x_iadd dL_law_153 ?_
        refine x_sld dL_law_154 hv1e hL (by omega) (by omega) ?_
        refine i_V dL_law_155 lL_17 (c_X9_add (sz + 124) hMo2 hIn hS hSB hv1 hSp) hMw2.1 rfl rfl rfl rfl ⟨⟨Nat.le_of_ble_eq_true rfl, Nat.le_of_ble_eq_true rfl⟩, Nat.le_of_ble_eq_true rfl, Nat.le_of_ble_eq_true rfl⟩ (fun z3 h3 ⟨hz3, hMo3, hF3⟩ => ?_)
        subst hz3
        refine x_same dL_law_158 ?_
        exact K737 _ _ (hOu2.mv hF3 (by omega)) hMo3 hIv2
      · refine x_tableIn 1 163 dL_law_32 ⟨by decide, by decide⟩ (by decide) (by decide) rfl (by decide) ?_
        refine x_aload_n dL_law_163 rfl ?_
        refine x_aload_n dL_law_164 rfl ?_
        refine x_iload_n dL_law_165 rfl ?_
        refine x_iconst dL_law_166 ?_
        refine x_iadd dL_law_167 ?_
        refine x_sld dL_law_168 hv1e hL (by omega) (by omega) ?_
        refine x_aload_n dL_law_169 rfl ?_
        refine x_iload_n dL_law_170 rfl ?_
        refine x_iconst dL_law_171 ?_
        refine x_iadd dL_law_172 ?_
        refine x_sld dL_law_173 hv2e hL (by omega) (by omega) ?_
        refine i_V dL_law_174 lL_18 (c_X8_cloneTo (sz + 124) hO hWf hv1 hv2 (fun a b c => (kd_cl hS a b c).dp)) hO.1.1 rfl rfl rfl rfl ⟨⟨Nat.le_of_ble_eq_true rfl, Nat.le_of_ble_eq_true rfl⟩, Nat.le_of_ble_eq_true rfl, Nat.le_of_ble_eq_true rfl⟩ (fun z h2 ⟨A', hSp, hOu2, hF2⟩ => ?_)
        have hMo2 := hMo.mv hF2 (by omega)
        obtain ⟨w2, u2, hMw2, -⟩ := id hMo2
        have hAB2 := hOu2.AB
        have hIv2 : InvA A' := inv_clone hIv hSp
        refine x_aload_n dL_law_177 rfl ?_
        refine x_aload_n dL_law_178 rfl ?_
        refine x_iload_n dL_law_179 rfl ?_
        refine x_iconst dL_law_180 ?_
        refine x_iadd dL_law_181 ?_
        refine x_sld dL_law_182 hv1e hL (by omega) (by omega) ?_
        refine x_aload_n dL_law_183 rfl ?_
        refine x_iload_n dL_law_184 rfl ?_
        refine x_iconst dL_law_185 ?_
        refine x_iadd dL_law_186 ?_
        refine x_sld dL_law_187 hv2e hL (by omega) (by omega) ?_
        refine i_V dL_law_188 lL_22 (c_X9_cloneTo (sz + 124) hMo2 hIn hS hSB hv1 hv2 hSp hAB2.2.2.1.2.2) hMw2.1 rfl rfl rfl rfl ⟨⟨Nat.le_of_ble_eq_true rfl, Nat.le_of_ble_eq_true rfl⟩, Nat.le_of_ble_eq_true rfl, Nat.le_of_ble_eq_true rfl⟩ (fun z3 h3 ⟨hz3, hMo3, hF3⟩ => ?_)
        subst hz3
        refine x_same dL_law_191 ?_
        exact K737 _ _ (hOu2.mv hF3 (by omega)) hMo3 hIv2
      · refine x_tableIn 2 196 dL_law_32 ⟨by decide, by decide⟩ (by decide) (by decide) rfl (by decide) ?_
        refine x_aload_n dL_law_196 rfl ?_
        refine x_aload_n dL_law_197 rfl ?_
        refine x_iload_n dL_law_198 rfl ?_
        refine x_iconst dL_law_199 ?_
        refine x_iadd dL_law_200 ?_
        refine x_sld dL_law_201 hv1e hL (by omega) (by omega) ?_
        refine x_aload_n dL_law_202 rfl ?_
        refine x_iload_n dL_law_203 rfl ?_
        refine x_iconst dL_law_204 ?_
        refine x_iadd dL_law_205 ?_
        refine x_sld dL_law_206 hv2e hL (by omega) (by omega) ?_
        refine i_V dL_law_207 lL_23 (c_X8_move (sz + 124) hO hWf hLk hv1 hv2 (fun a b c => (kd_mv hS hB a b c).dp)) hO.1.1 rfl rfl rfl rfl ⟨⟨Nat.le_of_ble_eq_true rfl, Nat.le_of_ble_eq_true rfl⟩, Nat.le_of_ble_eq_true rfl, Nat.le_of_ble_eq_true rfl⟩ (fun z h2 ⟨A', hSp, hOu2, hF2⟩ => ?_)
        have hMo2 := hMo.mv hF2 (by omega)
        obtain ⟨w2, u2, hMw2, -⟩ := id hMo2
        have hAB2 := hOu2.AB
        have hIv2 : InvA A' := inv_move hAB hIv hSp
        refine x_aload_n dL_law_210 rfl ?_
        refine x_aload_n dL_law_211 rfl ?_
        refine x_iload_n dL_law_212 rfl ?_
        refine x_iconst dL_law_213 ?_
        refine x_iadd dL_law_214 ?_
        refine x_sld dL_law_215 hv1e hL (by omega) (by omega) ?_
        refine x_aload_n dL_law_216 rfl ?_
        refine x_iload_n dL_law_217 rfl ?_
        refine x_iconst dL_law_218 ?_
        refine x_iadd dL_law_219 ?_
        refine x_sld dL_law_220 hv2e hL (by omega) (by omega) ?_
        refine i_V dL_law_221 lL_26 (c_X9_move (sz + 124) hMo2 hIn hS hSB hv1 hv2 hSp hAB2.2.2.1.2.2) hMw2.1 rfl rfl rfl rfl ⟨⟨Nat.le_of_ble_eq_true rfl, Nat.le_of_ble_eq_true rfl⟩, Nat.le_of_ble_eq_true rfl, Nat.le_of_ble_eq_true rfl⟩ (fun z3 h3 ⟨hz3, hMo3, hF3⟩ => ?_)
        subst hz3
        refine x_same dL_law_224 ?_
        exact K737 _ _ (hOu2.mv hF3 (by omega)) hMo3 hIv2
      · refine x_tableIn 3 229 dL_law_32 ⟨by decide, by decide⟩ (by decide) (by decide) rfl (by decide) ?_
        refine x_aload_n dL_law_229 rfl ?_
        refine x_aload_n dL_law_230 rfl ?_
        refine x_iload_n dL_law_231 rfl ?_
        refine x_iconst dL_law_232 ?_
        refine x_iadd dL_law_233 ?_
        refine x_sld dL_law_234 hv1e hL (by omega) (by omega) ?_
        refine i_V dL_law_235 lL_27 (c_X8_cut (sz + 124) hO hWf hLk hv1 (fun a => ⟨(kd_ct hS hB (plZ_ok a).1 (plZ_ok a).2).1, Nat.le_trans (kd_ct hS hB (plZ_ok a).1 (plZ_ok a).2).2.1 hB.1⟩)) hO.1.1 rfl rfl rfl rfl ⟨⟨Nat.le_of_ble_eq_true rfl, Nat.le_of_ble_eq_true rfl⟩, Nat.le_of_ble_eq_true rfl, Nat.le_of_ble_eq_true rfl⟩ (fun z h2 ⟨A', hSp, hOu2, hF2⟩ => ?_)
        have hMo2 := hMo.mv hF2 (by omega)
        obtain ⟨w2, u2, hMw2, -⟩ := id hMo2
        have hAB2 := hOu2.AB
        have hIv2 : InvA A' := inv_cut hAB hIv hSp
        refine x_aload_n dL_law_238 rfl ?_
        refine x_aload_n dL_law_239 rfl ?_
        refine x_iload_n dL_law_240 rfl ?_
        refine x_iconst dL_law_241 ?_
        refine x_iadd dL_law_242 ?_
        refine x_sld dL_law_243 hv1e hL (by omega) (by omega) ?_
        refine i_V dL_law_244 lL_30 (c_X9_cut (sz + 124) hMo2 hIn hS hSB hv1 hSp) hMw2.1 rfl rfl rfl rfl ⟨⟨Nat.le_of_ble_eq_true rfl, Nat.le_of_ble_eq_true rfl⟩, Nat.le_of_ble_eq_true rfl, Nat.le_of_ble_eq_true rfl⟩ (fun z3 h3 ⟨hz3, hMo3, hF3⟩ => ?_)
        subst hz3
        refine x_same dL_law_247 ?_
        exact K737 _ _ (hOu2.mv hF3 (by omega)) hMo3 hIv2
      · refine x_tableIn 4 252 dL_law_32 ⟨by decide, by decide⟩ (by decide) (by decide) rfl (by decide) ?_
        refine x_aload_n dL_law_252 rfl ?_
        refine x_aload_n dL_law_253 rfl ?_
        refine x_iload_n dL_law_254 rfl ?_
        refine x_iconst dL_law_255 ?_
        refine x_iadd dL_law_256 ?_
        refine x_sld dL_law_257 hv1e hL (by omega) (by omega) ?_
        refine x_aload_n dL_law_258 rfl ?_
        refine x_iload_n dL_law_259 rfl ?_
        refine x_iconst dL_law_260 ?_
        refine x_iadd dL_law_261 ?_
        refine x_sld dL_law_262 hv2e hL (by omega) (by omega) ?_
        refine i_V dL_law_263 lL_31 (c_X8_shift (sz + 124) hO hWf hLk hv1 hv2 (fun _ M a b hm => ⟨(kd_sh hS hm).1.dp, by rw [(kd_sh hS hm).2]; exact hB.1⟩)) hO.1.1 rfl rfl rfl rfl ⟨⟨Nat.le_of_ble_eq_true rfl, Nat.le_of_ble_eq_true rfl⟩, Nat.le_of_ble_eq_true rfl, Nat.le_of_ble_eq_true rfl⟩ (fun z h2 ⟨A', hSp, hOu2, hF2⟩ => ?_)
        have hMo2 := hMo.mv hF2 (by omega)
        obtain ⟨w2, u2, hMw2, -⟩ := id hMo2
        have hAB2 := hOu2.AB
        have hIv2 : InvA A' := inv_shift hIv hSp
        refine x_aload_n dL_law_266 rfl ?_
        refine x_aload_n dL_law_267 rfl ?_
        refine x_iload_n dL_law_268 rfl ?_
        refine x_iconst dL_law_269 ?_
        refine x_iadd dL_law_270 ?_
        refine x_sld dL_law_271 hv1e hL (by omega) (by omega) ?_
        refine x_aload_n dL_law_272 rfl ?_
        refine x_iload_n dL_law_273 rfl ?_
        refine x_iconst dL_law_274 ?_
        refine x_iadd dL_law_275 ?_
        refine x_sld dL_law_276 hv2e hL (by omega) (by omega) ?_
        refine i_V dL_law_277 lL_34 (c_X9_shift (sz + 124) hMo2 hIn hS hSB hv1 hv2 hSp) hMw2.1 rfl rfl rfl rfl ⟨⟨Nat.le_of_ble_eq_true rfl, Nat.le_of_ble_eq_true rfl⟩, Nat.le_of_ble_eq_true rfl, Nat.le_of_ble_eq_true rfl⟩ (fun z3 h3 ⟨hz3, hMo3, hF3⟩ => ?_)
        subst hz3
        refine x_same dL_law_280 ?_
        exact K737 _ _ (hOu2.mv hF3 (by omega)) hMo3 hIv2
      · refine x_tableIn 5 285 dL_law_32 ⟨by decide, by decide⟩ (by decide) (by decide) rfl (by decide) ?_
        refine x_aload_n dL_law_285 rfl ?_
        refine x_aload_n dL_law_286 rfl ?_
        refine x_iload_n dL_law_287 rfl ?_
        refine x_iconst dL_law_288 ?_
        refine x_iadd dL_law_289 ?_
        refine x_sld dL_law_290 hv1e hL (by omega) (by omega) ?_
        refine i_V dL_law_291 lL_35 (c_X8_edit (sz + 124) hO hWf hv1) hO.1.1 rfl rfl rfl rfl ⟨⟨Nat.le_of_ble_eq_true rfl, Nat.le_of_ble_eq_true rfl⟩, Nat.le_of_ble_eq_true rfl, Nat.le_of_ble_eq_true rfl⟩ (fun z h2 ⟨A', hSp, hOu2, hF2⟩ => ?_)
        have hMo2 := hMo.mv hF2 (by omega)
        obtain ⟨w2, u2, hMw2, -⟩ := id hMo2
        have hAB2 := hOu2.AB
        have hIv2 : InvA A' := inv_edit hIv hSp
        refine x_aload_n dL_law_294 rfl ?_
        refine x_aload_n dL_law_295 rfl ?_
        refine x_iload_n dL_law_296 rfl ?_
        refine x_iconst dL_law_297 ?_
        refine x_iadd dL_law_298 ?_
        refine x_sld dL_law_299 hv1e hL (by omega) (by omega) ?_
        refine i_V dL_law_300 lL_38 (c_X9_edit (sz + 124) hMo2 hIn hv1 hSp) hMw2.1 rfl rfl rfl rfl ⟨⟨Nat.le_of_ble_eq_true rfl, Nat.le_of_ble_eq_true rfl⟩, Nat.le_of_ble_eq_true rfl, Nat.le_of_ble_eq_true rfl⟩ (fun z3 h3 ⟨hz3, hMo3, hF3⟩ => ?_)
        subst hz3
        refine x_same dL_law_303 ?_
        exact K737 _ _ (hOu2.mv hF3 (by omega)) hMo3 hIv2
      · refine x_tableIn 6 308 dL_law_32 ⟨by decide, by decide⟩ (by decide) (by decide) rfl (by decide) ?_
        refine x_aload_n dL_law_308 rfl ?_
        refine x_aload_n dL_law_309 rfl ?_
        refine x_iload_n dL_law_310 rfl ?_
        refine x_iconst dL_law_311 ?_
        refine x_iadd dL_law_312 ?_
        refine x_sld dL_law_313 hv1e hL (by omega) (by omega) ?_
        refine x_aload_n dL_law_314 rfl ?_
        refine x_iload_n dL_law_315 rfl ?_
        refine x_iconst dL_law_316 ?_
        refine x_iadd dL_law_317 ?_
        refine x_sld dL_law_318 hv2e hL (by omega) (by omega) ?_
        refine i_V dL_law_319 lL_39 (c_X8_mark (sz + 124) hO hWf hv1 hv2) hO.1.1 rfl rfl rfl rfl ⟨⟨Nat.le_of_ble_eq_true rfl, Nat.le_of_ble_eq_true rfl⟩, Nat.le_of_ble_eq_true rfl, Nat.le_of_ble_eq_true rfl⟩ (fun z h2 ⟨A', hSp, hOu2, hF2⟩ => ?_)
        have hMo2 := hMo.mv hF2 (by omega)
        obtain ⟨w2, u2, hMw2, -⟩ := id hMo2
        have hAB2 := hOu2.AB
        have hIv2 : InvA A' := inv_mark hIv hSp
        refine x_aload_n dL_law_322 rfl ?_
        refine x_aload_n dL_law_323 rfl ?_
        refine x_iload_n dL_law_324 rfl ?_
        refine x_iconst dL_law_325 ?_
        refine x_iadd dL_law_326 ?_
        refine x_sld dL_law_327 hv1e hL (by omega) (by omega) ?_
        refine x_aload_n dL_law_328 rfl ?_
        refine x_iload_n dL_law_329 rfl ?_
        refine x_iconst dL_law_330 ?_
        refine x_iadd dL_law_331 ?_
        refine x_sld dL_law_332 hv2e hL (by omega) (by omega) ?_
        refine i_V dL_law_333 lL_42 (c_X9_mark (sz + 124) hMo2 hIn hv1 hv2 hSp) hMw2.1 rfl rfl rfl rfl ⟨⟨Nat.le_of_ble_eq_true rfl, Nat.le_of_ble_eq_true rfl⟩, Nat.le_of_ble_eq_true rfl, Nat.le_of_ble_eq_true rfl⟩ (fun z3 h3 ⟨hz3, hMo3, hF3⟩ => ?_)
        subst hz3
        refine x_same dL_law_336 ?_
        exact K737 _ _ (hOu2.mv hF3 (by omega)) hMo3 hIv2
      · refine x_tableIn 7 341 dL_law_32 ⟨by decide, by decide⟩ (by decide) (by decide) rfl (by decide) ?_
        by_cases hvz : v2 = 0
        · refine x_aload_n dL_law_341 rfl ?_
          refine x_aload_n dL_law_342 rfl ?_
          refine x_iload_n dL_law_343 rfl ?_
          refine x_iconst dL_law_344 ?_
          refine x_iadd dL_law_345 ?_
          refine x_sld dL_law_346 hv1e hL (by omega) (by omega) ?_
          refine x_aload_n dL_law_347 rfl ?_
          refine x_iload_n dL_law_348 rfl ?_
          refine x_iconst dL_law_349 ?_
          refine x_iadd dL_law_350 ?_
          refine x_sld dL_law_351 hv2e hL (by omega) (by omega) ?_
          refine x_if_eq dL_law_352 hv2 (fun qc352q => ?_) (fun qc352q => ?_)
          · refine x_iconst dL_law_359 ?_
            refine i_V dL_law_360 lL_43 (c_X8_fold (sz + 124) hO hv1 (f := 0) (by omega)) hO.1.1 rfl rfl rfl rfl ⟨⟨Nat.le_of_ble_eq_true rfl, Nat.le_of_ble_eq_true rfl⟩, Nat.le_of_ble_eq_true rfl, Nat.le_of_ble_eq_true rfl⟩ (fun z h2 ⟨A', hSp, hOu2, hF2⟩ => ?_)
            have hMo2 := hMo.mv hF2 (by omega)
            obtain ⟨w2, u2, hMw2, -⟩ := id hMo2
            have hAB2 := hOu2.AB
            have hIv2 : InvA A' := inv_fold hIv hSp
            refine x_aload_n dL_law_363 rfl ?_
            refine x_aload_n dL_law_364 rfl ?_
            refine x_iload_n dL_law_365 rfl ?_
            refine x_iconst dL_law_366 ?_
            refine x_iadd dL_law_367 ?_
            refine x_sld dL_law_368 hv1e hL (by omega) (by omega) ?_
            refine x_aload_n dL_law_369 rfl ?_
            refine x_iload_n dL_law_370 rfl ?_
            refine x_iconst dL_law_371 ?_
            refine x_iadd dL_law_372 ?_
            refine x_sld dL_law_373 hv2e hL (by omega) (by omega) ?_
            refine x_if_eq dL_law_374 hv2 (fun qc374q => ?_) (fun qc374q => ?_)
            · refine x_iconst dL_law_381 ?_
              refine i_V dL_law_382 lL_47 (c_X9_fold (sz + 124) hMo2 hIn hS.hk hv1 (f := 0) (by omega) hSp hAB2.2.2.1.2.2) hMw2.1 rfl rfl rfl rfl ⟨⟨Nat.le_of_ble_eq_true rfl, Nat.le_of_ble_eq_true rfl⟩, Nat.le_of_ble_eq_true rfl, Nat.le_of_ble_eq_true rfl⟩ (fun z3 h3 ⟨hz3, hMo3, hF3⟩ => ?_)
              subst hz3
              refine x_same dL_law_385 ?_
              exact K737 _ _ (hOu2.mv hF3 (by omega)) hMo3 hIv2
            · exact absurd hvz qc374q
          · exact absurd hvz qc352q
        · refine x_aload_n dL_law_341 rfl ?_
          refine x_aload_n dL_law_342 rfl ?_
          refine x_iload_n dL_law_343 rfl ?_
          refine x_iconst dL_law_344 ?_
          refine x_iadd dL_law_345 ?_
          refine x_sld dL_law_346 hv1e hL (by omega) (by omega) ?_
          refine x_aload_n dL_law_347 rfl ?_
          refine x_iload_n dL_law_348 rfl ?_
          refine x_iconst dL_law_349 ?_
          refine x_iadd dL_law_350 ?_
          refine x_sld dL_law_351 hv2e hL (by omega) (by omega) ?_
          refine x_if_eq dL_law_352 hv2 (fun qc352q => ?_) (fun qc352q => ?_)
          · exact absurd qc352q hvz
          · refine x_iconst dL_law_355 ?_
            refine x_goto dL_law_356 ?_
            refine i_V dL_law_360 lL_43 (c_X8_fold (sz + 124) hO hv1 (f := 1) (by omega)) hO.1.1 rfl rfl rfl rfl ⟨⟨Nat.le_of_ble_eq_true rfl, Nat.le_of_ble_eq_true rfl⟩, Nat.le_of_ble_eq_true rfl, Nat.le_of_ble_eq_true rfl⟩ (fun z h2 ⟨A', hSp, hOu2, hF2⟩ => ?_)
            have hMo2 := hMo.mv hF2 (by omega)
            obtain ⟨w2, u2, hMw2, -⟩ := id hMo2
            have hAB2 := hOu2.AB
            have hIv2 : InvA A' := inv_fold hIv hSp
            refine x_aload_n dL_law_363 rfl ?_
            refine x_aload_n dL_law_364 rfl ?_
            refine x_iload_n dL_law_365 rfl ?_
            refine x_iconst dL_law_366 ?_
            refine x_iadd dL_law_367 ?_
            refine x_sld dL_law_368 hv1e hL (by omega) (by omega) ?_
            refine x_aload_n dL_law_369 rfl ?_
            refine x_iload_n dL_law_370 rfl ?_
            refine x_iconst dL_law_371 ?_
            refine x_iadd dL_law_372 ?_
            refine x_sld dL_law_373 hv2e hL (by omega) (by omega) ?_
            refine x_if_eq dL_law_374 hv2 (fun qc374q => ?_) (fun qc374q => ?_)
            · exact absurd qc374q hvz
            · refine x_iconst dL_law_377 ?_
              refine x_goto dL_law_378 ?_
              refine i_V dL_law_382 lL_47 (c_X9_fold (sz + 124) hMo2 hIn hS.hk hv1 (f := 1) (by omega) hSp hAB2.2.2.1.2.2) hMw2.1 rfl rfl rfl rfl ⟨⟨Nat.le_of_ble_eq_true rfl, Nat.le_of_ble_eq_true rfl⟩, Nat.le_of_ble_eq_true rfl, Nat.le_of_ble_eq_true rfl⟩ (fun z3 h3 ⟨hz3, hMo3, hF3⟩ => ?_)
              subst hz3
              refine x_same dL_law_385 ?_
              exact K737 _ _ (hOu2.mv hF3 (by omega)) hMo3 hIv2
      · refine x_tableIn 8 390 dL_law_32 ⟨by decide, by decide⟩ (by decide) (by decide) rfl (by decide) ?_
        refine x_aload_n dL_law_390 rfl ?_
        refine x_aload_n dL_law_391 rfl ?_
        refine x_iload_n dL_law_392 rfl ?_
        refine x_iconst dL_law_393 ?_
        refine x_iadd dL_law_394 ?_
        refine x_sld dL_law_395 hv1e hL (by omega) (by omega) ?_
        refine i_V dL_law_396 lL_48 (c_X8_foldLevel (sz + 124) hO hv1) hO.1.1 rfl rfl rfl rfl ⟨⟨Nat.le_of_ble_eq_true rfl, Nat.le_of_ble_eq_true rfl⟩, Nat.le_of_ble_eq_true rfl, Nat.le_of_ble_eq_true rfl⟩ (fun z h2 ⟨A', hSp, hOu2, hF2⟩ => ?_)
        have hMo2 := hMo.mv hF2 (by omega)
        obtain ⟨w2, u2, hMw2, -⟩ := id hMo2
        have hAB2 := hOu2.AB
        have hIv2 : InvA A' := inv_flev hIv hSp
        refine x_aload_n dL_law_399 rfl ?_
        refine x_aload_n dL_law_400 rfl ?_
        refine x_iload_n dL_law_401 rfl ?_
        refine x_iconst dL_law_402 ?_
        refine x_iadd dL_law_403 ?_
        refine x_sld dL_law_404 hv1e hL (by omega) (by omega) ?_
        refine i_V dL_law_405 lL_51 (c_X9_foldLevel (sz + 124) hMo2 hIn hS hSB hv1 hSp) hMw2.1 rfl rfl rfl rfl ⟨⟨Nat.le_of_ble_eq_true rfl, Nat.le_of_ble_eq_true rfl⟩, Nat.le_of_ble_eq_true rfl, Nat.le_of_ble_eq_true rfl⟩ (fun z3 h3 ⟨hz3, hMo3, hF3⟩ => ?_)
        subst hz3
        refine x_same dL_law_408 ?_
        exact K737 _ _ (hOu2.mv hF3 (by omega)) hMo3 hIv2
      · refine x_tableIn 9 413 dL_law_32 ⟨by decide, by decide⟩ (by decide) (by decide) rfl (by decide) ?_
        refine x_aload_n dL_law_413 rfl ?_
        refine x_aload_n dL_law_414 rfl ?_
        refine x_iload_n dL_law_415 rfl ?_
        refine x_iconst dL_law_416 ?_
        refine x_iadd dL_law_417 ?_
        refine x_sld dL_law_418 hv1e hL (by omega) (by omega) ?_
        refine i_V dL_law_419 lL_52 (c_X8_show (sz + 124) hO hv1) hO.1.1 rfl rfl rfl rfl ⟨⟨Nat.le_of_ble_eq_true rfl, Nat.le_of_ble_eq_true rfl⟩, Nat.le_of_ble_eq_true rfl, Nat.le_of_ble_eq_true rfl⟩ (fun z h2 ⟨A', hSp, hOu2, hF2⟩ => ?_)
        have hMo2 := hMo.mv hF2 (by omega)
        obtain ⟨w2, u2, hMw2, -⟩ := id hMo2
        have hAB2 := hOu2.AB
        have hIv2 : InvA A' := inv_show hIv hSp
        refine x_aload_n dL_law_422 rfl ?_
        refine x_aload_n dL_law_423 rfl ?_
        refine x_iload_n dL_law_424 rfl ?_
        refine x_iconst dL_law_425 ?_
        refine x_iadd dL_law_426 ?_
        refine x_sld dL_law_427 hv1e hL (by omega) (by omega) ?_
        refine i_V dL_law_428 lL_55 (c_X9_show (sz + 124) hMo2 hIn hS hSB hv1 hSp) hMw2.1 rfl rfl rfl rfl ⟨⟨Nat.le_of_ble_eq_true rfl, Nat.le_of_ble_eq_true rfl⟩, Nat.le_of_ble_eq_true rfl, Nat.le_of_ble_eq_true rfl⟩ (fun z3 h3 ⟨hz3, hMo3, hF3⟩ => ?_)
        subst hz3
        refine x_same dL_law_431 ?_
        exact K737 _ _ (hOu2.mv hF3 (by omega)) hMo3 hIv2
      · refine x_tableIn 10 436 dL_law_32 ⟨by decide, by decide⟩ (by decide) (by decide) rfl (by decide) ?_
        refine x_aload_n dL_law_436 rfl ?_
        refine x_aload_n dL_law_437 rfl ?_
        refine x_iload_n dL_law_438 rfl ?_
        refine x_iconst dL_law_439 ?_
        refine x_iadd dL_law_440 ?_
        refine x_sld dL_law_441 hv1e hL (by omega) (by omega) ?_
        refine x_i2c dL_law_442 hch ?_
        refine i_V dL_law_443 lL_56 (c_X8_type (sz + 124) hO hch0) hO.1.1 rfl rfl rfl rfl ⟨⟨Nat.le_of_ble_eq_true rfl, Nat.le_of_ble_eq_true rfl⟩, Nat.le_of_ble_eq_true rfl, Nat.le_of_ble_eq_true rfl⟩ (fun z h2 ⟨A', hSp, hOu2, hF2⟩ => ?_)
        have hMo2 := hMo.mv hF2 (by omega)
        obtain ⟨w2, u2, hMw2, -⟩ := id hMo2
        have hAB2 := hOu2.AB
        have hIv2 : InvA A' := inv_type hIv hSp
        refine x_aload_n dL_law_446 rfl ?_
        refine x_aload_n dL_law_447 rfl ?_
        refine x_iload_n dL_law_448 rfl ?_
        refine x_iconst dL_law_449 ?_
        refine x_iadd dL_law_450 ?_
        refine x_sld dL_law_451 hv1e hL (by omega) (by omega) ?_
        refine x_i2c dL_law_452 hch ?_
        refine i_V dL_law_453 lL_60 (c_X9_type (sz + 124) hMo2 hIn hch0 hSp) hMw2.1 rfl rfl rfl rfl ⟨⟨Nat.le_of_ble_eq_true rfl, Nat.le_of_ble_eq_true rfl⟩, Nat.le_of_ble_eq_true rfl, Nat.le_of_ble_eq_true rfl⟩ (fun z3 h3 ⟨hz3, hMo3, hF3⟩ => ?_)
        subst hz3
        refine x_same dL_law_456 ?_
        exact K737 _ _ (hOu2.mv hF3 (by omega)) hMo3 hIv2
      · refine x_tableIn 11 461 dL_law_32 ⟨by decide, by decide⟩ (by decide) (by decide) rfl (by decide) ?_
        refine x_aload_n dL_law_461 rfl ?_
        refine i_V dL_law_462 lL_61 (c_X8_clearText (sz + 124) hO) hO.1.1 rfl rfl rfl rfl ⟨⟨Nat.le_of_ble_eq_true rfl, Nat.le_of_ble_eq_true rfl⟩, Nat.le_of_ble_eq_true rfl, Nat.le_of_ble_eq_true rfl⟩ (fun z h2 ⟨A', hSp, hOu2, hF2⟩ => ?_)
        have hMo2 := hMo.mv hF2 (by omega)
        obtain ⟨w2, u2, hMw2, -⟩ := id hMo2
        have hAB2 := hOu2.AB
        have hIv2 : InvA A' := inv_clear hIv hSp
        refine x_aload_n dL_law_465 rfl ?_
        refine i_V dL_law_466 lL_65 (c_X9_clearText (sz + 124) hMo2 hIn hSp) hMw2.1 rfl rfl rfl rfl ⟨⟨Nat.le_of_ble_eq_true rfl, Nat.le_of_ble_eq_true rfl⟩, Nat.le_of_ble_eq_true rfl, Nat.le_of_ble_eq_true rfl⟩ (fun z3 h3 ⟨hz3, hMo3, hF3⟩ => ?_)
        subst hz3
        refine x_same dL_law_469 ?_
        exact K737 _ _ (hOu2.mv hF3 (by omega)) hMo3 hIv2
      · refine x_tableIn 12 474 dL_law_32 ⟨by decide, by decide⟩ (by decide) (by decide) rfl (by decide) ?_
        refine x_aload_n dL_law_474 rfl ?_
        refine i_V dL_law_475 lL_66 (c_X8_readOutline (sz + 124) hO (fun s hs => hs.inv.dp)) hO.1.1 rfl rfl rfl rfl ⟨⟨Nat.le_of_ble_eq_true rfl, Nat.le_of_ble_eq_true rfl⟩, Nat.le_of_ble_eq_true rfl, Nat.le_of_ble_eq_true rfl⟩ (fun z h2 ⟨A', hSp, hOu2, hF2⟩ => ?_)
        have hMo2 := hMo.mv hF2 (by omega)
        obtain ⟨w2, u2, hMw2, -⟩ := id hMo2
        have hAB2 := hOu2.AB
        have hIv2 : InvA A' := inv_read hIv hSp
        refine x_aload_n dL_law_478 rfl ?_
        refine i_V dL_law_479 lL_69 (c_X9_readOutline (sz + 124) hMo2 hIn hSp) hMw2.1 rfl rfl rfl rfl ⟨⟨Nat.le_of_ble_eq_true rfl, Nat.le_of_ble_eq_true rfl⟩, Nat.le_of_ble_eq_true rfl, Nat.le_of_ble_eq_true rfl⟩ (fun z3 h3 ⟨hz3, hMo3, hF3⟩ => ?_)
        subst hz3
        refine x_same dL_law_482 ?_
        exact K737 _ _ (hOu2.mv hF3 (by omega)) hMo3 hIv2
      · refine x_tableIn 13 487 dL_law_32 ⟨by decide, by decide⟩ (by decide) (by decide) rfl (by decide) ?_
        refine x_aload_n dL_law_487 rfl ?_
        refine i_V dL_law_488 lL_70 (c_X8_undo (sz + 124) hO) hO.1.1 rfl rfl rfl rfl ⟨⟨Nat.le_of_ble_eq_true rfl, Nat.le_of_ble_eq_true rfl⟩, Nat.le_of_ble_eq_true rfl, Nat.le_of_ble_eq_true rfl⟩ (fun z h2 ⟨A', hSp, hOu2, hF2⟩ => ?_)
        have hMo2 := hMo.mv hF2 (by omega)
        obtain ⟨w2, u2, hMw2, -⟩ := id hMo2
        have hAB2 := hOu2.AB
        have hIv2 : InvA A' := inv_undo hIv hSp
        refine x_aload_n dL_law_491 rfl ?_
        refine i_V dL_law_492 lL_73 (c_X9_undo (sz + 124) hMo2 hIn hSp) hMw2.1 rfl rfl rfl rfl ⟨⟨Nat.le_of_ble_eq_true rfl, Nat.le_of_ble_eq_true rfl⟩, Nat.le_of_ble_eq_true rfl, Nat.le_of_ble_eq_true rfl⟩ (fun z3 h3 ⟨hz3, hMo3, hF3⟩ => ?_)
        subst hz3
        refine x_same dL_law_495 ?_
        exact K737 _ _ (hOu2.mv hF3 (by omega)) hMo3 hIv2
      · refine x_tableIn 14 500 dL_law_32 ⟨by decide, by decide⟩ (by decide) (by decide) rfl (by decide) ?_
        refine x_aload_n dL_law_500 rfl ?_
        refine i_V dL_law_501 lL_74 (c_X8_keep (sz + 124) hO) hO.1.1 rfl rfl rfl rfl ⟨⟨Nat.le_of_ble_eq_true rfl, Nat.le_of_ble_eq_true rfl⟩, Nat.le_of_ble_eq_true rfl, Nat.le_of_ble_eq_true rfl⟩ (fun z h2 ⟨A', hSp, hOu2, hF2⟩ => ?_)
        have hMo2 := hMo.mv hF2 (by omega)
        obtain ⟨w2, u2, hMw2, -⟩ := id hMo2
        have hAB2 := hOu2.AB
        have hIv2 : InvA A' := inv_keep hIv hSp
        refine x_aload_n dL_law_504 rfl ?_
        refine i_V dL_law_505 lL_77 (c_X9_keep (sz + 124) hMo2 hIn hSp) hMw2.1 rfl rfl rfl rfl ⟨⟨Nat.le_of_ble_eq_true rfl, Nat.le_of_ble_eq_true rfl⟩, Nat.le_of_ble_eq_true rfl, Nat.le_of_ble_eq_true rfl⟩ (fun z3 h3 ⟨hz3, hMo3, hF3⟩ => ?_)
        subst hz3
        refine x_same dL_law_508 ?_
        exact K737 _ _ (hOu2.mv hF3 (by omega)) hMo3 hIv2
      · refine x_tableIn 15 513 dL_law_32 ⟨by decide, by decide⟩ (by decide) (by decide) rfl (by decide) ?_
        refine x_aload_n dL_law_513 rfl ?_
        refine i_V dL_law_514 lL_78 (c_X8_restore (sz + 124) hIv.1 hO) hO.1.1 rfl rfl rfl rfl ⟨⟨Nat.le_of_ble_eq_true rfl, Nat.le_of_ble_eq_true rfl⟩, Nat.le_of_ble_eq_true rfl, Nat.le_of_ble_eq_true rfl⟩ (fun z h2 ⟨A', hSp, hOu2, hF2⟩ => ?_)
        have hMo2 := hMo.mv hF2 (by omega)
        obtain ⟨w2, u2, hMw2, -⟩ := id hMo2
        have hAB2 := hOu2.AB
        have hIv2 : InvA A' := inv_rest hIv hSp
        refine x_aload_n dL_law_517 rfl ?_
        refine i_V dL_law_518 lL_81 (c_X9_restore (sz + 124) hMo2 hIn hSp) hMw2.1 rfl rfl rfl rfl ⟨⟨Nat.le_of_ble_eq_true rfl, Nat.le_of_ble_eq_true rfl⟩, Nat.le_of_ble_eq_true rfl, Nat.le_of_ble_eq_true rfl⟩ (fun z3 h3 ⟨hz3, hMo3, hF3⟩ => ?_)
        subst hz3
        refine x_same dL_law_521 ?_
        exact K737 _ _ (hOu2.mv hF3 (by omega)) hMo3 hIv2
      · refine x_tableIn 16 526 dL_law_32 ⟨by decide, by decide⟩ (by decide) (by decide) rfl (by decide) ?_
        refine x_aload_n dL_law_526 rfl ?_
        refine x_aload_n dL_law_527 rfl ?_
        refine x_iload_n dL_law_528 rfl ?_
        refine x_iconst dL_law_529 ?_
        refine x_iadd dL_law_530 ?_
        refine x_sld dL_law_531 hv1e hL (by omega) (by omega) ?_
        refine x_aload_n dL_law_532 rfl ?_
        refine x_iload_n dL_law_533 rfl ?_
        refine x_iconst dL_law_534 ?_
        refine x_iadd dL_law_535 ?_
        refine x_sld dL_law_536 hv2e hL (by omega) (by omega) ?_
        refine p_V dL_law_537 lL_82 (c_X8_row (sz + 124) hO hWf hv1 hv2) hO.1.1 rfl rfl rfl rfl ⟨⟨Nat.le_of_ble_eq_true rfl, Nat.le_of_ble_eq_true rfl⟩, Nat.le_of_ble_eq_true rfl, Nat.le_of_ble_eq_true rfl⟩ ?_
        refine x_aload_n dL_law_540 rfl ?_
        refine x_aload_n dL_law_541 rfl ?_
        refine x_iload_n dL_law_542 rfl ?_
        refine x_iconst dL_law_543 ?_
        refine x_iadd dL_law_544 ?_
        refine x_sld dL_law_545 hv1e hL (by omega) (by omega) ?_
        refine x_aload_n dL_law_546 rfl ?_
        refine x_iload_n dL_law_547 rfl ?_
        refine x_iconst dL_law_548 ?_
        refine x_iadd dL_law_549 ?_
        refine x_sld dL_law_550 hv2e hL (by omega) (by omega) ?_
        refine p_V dL_law_551 lL_85 (c_X9_row (sz + 124) hMw hC.1 hIn.2.2.2.1 hv1 hv2) hMw.1 rfl rfl rfl rfl ⟨⟨Nat.le_of_ble_eq_true rfl, Nat.le_of_ble_eq_true rfl⟩, Nat.le_of_ble_eq_true rfl, Nat.le_of_ble_eq_true rfl⟩ ?_
        refine x_same dL_law_554 ?_
        exact K737 _ _ hOu hMo hIv
      · refine x_tableIn 17 559 dL_law_32 ⟨by decide, by decide⟩ (by decide) (by decide) rfl (by decide) ?_
        refine x_aload_n dL_law_559 rfl ?_
        refine x_aload_n dL_law_560 rfl ?_
        refine x_iload_n dL_law_561 rfl ?_
        refine x_iconst dL_law_562 ?_
        refine x_iadd dL_law_563 ?_
        refine x_sld dL_law_564 hv1e hL (by omega) (by omega) ?_
        refine x_aload_n dL_law_565 rfl ?_
        refine x_iload_n dL_law_566 rfl ?_
        refine x_iconst dL_law_567 ?_
        refine x_iadd dL_law_568 ?_
        refine x_sld dL_law_569 hv2e hL (by omega) (by omega) ?_
        refine p_V dL_law_570 lL_86 (c_X8_number (sz + 124) hO hWf hv1 hv2) hO.1.1 rfl rfl rfl rfl ⟨⟨Nat.le_of_ble_eq_true rfl, Nat.le_of_ble_eq_true rfl⟩, Nat.le_of_ble_eq_true rfl, Nat.le_of_ble_eq_true rfl⟩ ?_
        refine x_aload_n dL_law_573 rfl ?_
        refine x_aload_n dL_law_574 rfl ?_
        refine x_iload_n dL_law_575 rfl ?_
        refine x_iconst dL_law_576 ?_
        refine x_iadd dL_law_577 ?_
        refine x_sld dL_law_578 hv1e hL (by omega) (by omega) ?_
        refine x_aload_n dL_law_579 rfl ?_
        refine x_iload_n dL_law_580 rfl ?_
        refine x_iconst dL_law_581 ?_
        refine x_iadd dL_law_582 ?_
        refine x_sld dL_law_583 hv2e hL (by omega) (by omega) ?_
        refine p_V dL_law_584 lL_89 (c_X9_number (sz + 124) hMw hC.1 hIn.2.2.2.1 hv1 hv2) hMw.1 rfl rfl rfl rfl ⟨⟨Nat.le_of_ble_eq_true rfl, Nat.le_of_ble_eq_true rfl⟩, Nat.le_of_ble_eq_true rfl, Nat.le_of_ble_eq_true rfl⟩ ?_
        refine x_same dL_law_587 ?_
        exact K737 _ _ hOu hMo hIv
      · refine x_tableIn 18 592 dL_law_32 ⟨by decide, by decide⟩ (by decide) (by decide) rfl (by decide) ?_
        refine x_aload_n dL_law_592 rfl ?_
        refine x_aload_n dL_law_593 rfl ?_
        refine x_iload_n dL_law_594 rfl ?_
        refine x_iconst dL_law_595 ?_
        refine x_iadd dL_law_596 ?_
        refine x_sld dL_law_597 hv1e hL (by omega) (by omega) ?_
        refine x_aload_n dL_law_598 rfl ?_
        refine x_iload_n dL_law_599 rfl ?_
        refine x_iconst dL_law_600 ?_
        refine x_iadd dL_law_601 ?_
        refine x_sld dL_law_602 hv2e hL (by omega) (by omega) ?_
        refine p_V dL_law_603 lL_90 (c_X8_charAt (sz + 124) hO hWf hv1 hv2) hO.1.1 rfl rfl rfl rfl ⟨⟨Nat.le_of_ble_eq_true rfl, Nat.le_of_ble_eq_true rfl⟩, Nat.le_of_ble_eq_true rfl, Nat.le_of_ble_eq_true rfl⟩ ?_
        refine x_aload_n dL_law_606 rfl ?_
        refine x_aload_n dL_law_607 rfl ?_
        refine x_iload_n dL_law_608 rfl ?_
        refine x_iconst dL_law_609 ?_
        refine x_iadd dL_law_610 ?_
        refine x_sld dL_law_611 hv1e hL (by omega) (by omega) ?_
        refine x_aload_n dL_law_612 rfl ?_
        refine x_iload_n dL_law_613 rfl ?_
        refine x_iconst dL_law_614 ?_
        refine x_iadd dL_law_615 ?_
        refine x_sld dL_law_616 hv2e hL (by omega) (by omega) ?_
        refine p_V dL_law_617 lL_93 (c_X9_charAt (sz + 124) hMw hC.1 hIn.2.2.2.1 hv1 hv2) hMw.1 rfl rfl rfl rfl ⟨⟨Nat.le_of_ble_eq_true rfl, Nat.le_of_ble_eq_true rfl⟩, Nat.le_of_ble_eq_true rfl, Nat.le_of_ble_eq_true rfl⟩ ?_
        refine x_same dL_law_620 ?_
        exact K737 _ _ hOu hMo hIv
      · refine x_tableIn 19 625 dL_law_32 ⟨by decide, by decide⟩ (by decide) (by decide) rfl (by decide) ?_
        refine x_aload_n dL_law_625 rfl ?_
        refine x_aload_n dL_law_626 rfl ?_
        refine x_iload_n dL_law_627 rfl ?_
        refine x_iconst dL_law_628 ?_
        refine x_iadd dL_law_629 ?_
        refine x_sld dL_law_630 hv1e hL (by omega) (by omega) ?_
        refine x_aload_n dL_law_631 rfl ?_
        refine x_iload_n dL_law_632 rfl ?_
        refine x_iconst dL_law_633 ?_
        refine x_iadd dL_law_634 ?_
        refine x_sld dL_law_635 hv2e hL (by omega) (by omega) ?_
        refine p_V dL_law_636 lL_94 (c_X8_node (sz + 124) hO hWf hv1 hv2) hO.1.1 rfl rfl rfl rfl ⟨⟨Nat.le_of_ble_eq_true rfl, Nat.le_of_ble_eq_true rfl⟩, Nat.le_of_ble_eq_true rfl, Nat.le_of_ble_eq_true rfl⟩ ?_
        refine x_aload_n dL_law_639 rfl ?_
        refine x_aload_n dL_law_640 rfl ?_
        refine x_iload_n dL_law_641 rfl ?_
        refine x_iconst dL_law_642 ?_
        refine x_iadd dL_law_643 ?_
        refine x_sld dL_law_644 hv1e hL (by omega) (by omega) ?_
        refine x_aload_n dL_law_645 rfl ?_
        refine x_iload_n dL_law_646 rfl ?_
        refine x_iconst dL_law_647 ?_
        refine x_iadd dL_law_648 ?_
        refine x_sld dL_law_649 hv2e hL (by omega) (by omega) ?_
        refine i_V dL_law_650 lL_97 (c_X9_node (sz + 124) hMo hIn hS hv1 hv2) hMw.1 rfl rfl rfl rfl ⟨⟨Nat.le_of_ble_eq_true rfl, Nat.le_of_ble_eq_true rfl⟩, Nat.le_of_ble_eq_true rfl, Nat.le_of_ble_eq_true rfl⟩ (fun z3 h3 ⟨hz3, hMo3, hF3⟩ => ?_)
        subst hz3
        refine x_same dL_law_653 ?_
        exact K737 _ _ (hOu.mv hF3 (by omega)) hMo3 hIv
      · refine x_tableIn 20 658 dL_law_32 ⟨by decide, by decide⟩ (by decide) (by decide) rfl (by decide) ?_
        refine x_aload_n dL_law_658 rfl ?_
        refine x_aload_n dL_law_659 rfl ?_
        refine x_iload_n dL_law_660 rfl ?_
        refine x_iconst dL_law_661 ?_
        refine x_iadd dL_law_662 ?_
        refine x_sld dL_law_663 hv1e hL (by omega) (by omega) ?_
        refine x_aload_n dL_law_664 rfl ?_
        refine x_iload_n dL_law_665 rfl ?_
        refine x_iconst dL_law_666 ?_
        refine x_iadd dL_law_667 ?_
        refine x_sld dL_law_668 hv2e hL (by omega) (by omega) ?_
        refine p_V dL_law_669 lL_98 (c_X8_nextMarked (sz + 124) hO hWf hv1 hv2) hO.1.1 rfl rfl rfl rfl ⟨⟨Nat.le_of_ble_eq_true rfl, Nat.le_of_ble_eq_true rfl⟩, Nat.le_of_ble_eq_true rfl, Nat.le_of_ble_eq_true rfl⟩ ?_
        refine x_aload_n dL_law_672 rfl ?_
        refine x_aload_n dL_law_673 rfl ?_
        refine x_iload_n dL_law_674 rfl ?_
        refine x_iconst dL_law_675 ?_
        refine x_iadd dL_law_676 ?_
        refine x_sld dL_law_677 hv1e hL (by omega) (by omega) ?_
        refine x_aload_n dL_law_678 rfl ?_
        refine x_iload_n dL_law_679 rfl ?_
        refine x_iconst dL_law_680 ?_
        refine x_iadd dL_law_681 ?_
        refine x_sld dL_law_682 hv2e hL (by omega) (by omega) ?_
        refine p_V dL_law_683 lL_101 (c_X9_nextMarked (sz + 124) hMw hC.1 hIn.2.2.2.1 hv1 hv2) hMw.1 rfl rfl rfl rfl ⟨⟨Nat.le_of_ble_eq_true rfl, Nat.le_of_ble_eq_true rfl⟩, Nat.le_of_ble_eq_true rfl, Nat.le_of_ble_eq_true rfl⟩ ?_
        refine x_same dL_law_686 ?_
        exact K737 _ _ hOu hMo hIv
      · refine x_tableIn 21 691 dL_law_32 ⟨by decide, by decide⟩ (by decide) (by decide) rfl (by decide) ?_
        refine x_aload_n dL_law_691 rfl ?_
        refine x_aload_n dL_law_692 rfl ?_
        refine x_iload_n dL_law_693 rfl ?_
        refine x_iconst dL_law_694 ?_
        refine x_iadd dL_law_695 ?_
        refine x_sld dL_law_696 hv1e hL (by omega) (by omega) ?_
        refine p_V dL_law_697 lL_102 (c_X8_find (sz + 124) hO hWf hv1) hO.1.1 rfl rfl rfl rfl ⟨⟨Nat.le_of_ble_eq_true rfl, Nat.le_of_ble_eq_true rfl⟩, Nat.le_of_ble_eq_true rfl, Nat.le_of_ble_eq_true rfl⟩ ?_
        refine x_aload_n dL_law_700 rfl ?_
        refine x_aload_n dL_law_701 rfl ?_
        refine x_iload_n dL_law_702 rfl ?_
        refine x_iconst dL_law_703 ?_
        refine x_iadd dL_law_704 ?_
        refine x_sld dL_law_705 hv1e hL (by omega) (by omega) ?_
        refine p_V dL_law_706 lL_105 (c_X9_find (sz + 124) hMw hC.1 hIn.2.2.2.1 hC.2.2.2.2.2 hIn.1 hv1) hMw.1 rfl rfl rfl rfl ⟨⟨Nat.le_of_ble_eq_true rfl, Nat.le_of_ble_eq_true rfl⟩, Nat.le_of_ble_eq_true rfl, Nat.le_of_ble_eq_true rfl⟩ ?_
        refine x_same dL_law_709 ?_
        exact K737 _ _ hOu hMo hIv
      · refine x_tableIn 22 714 dL_law_32 ⟨by decide, by decide⟩ (by decide) (by decide) rfl (by decide) ?_
        refine x_aload_n dL_law_714 rfl ?_
        refine x_aload_n dL_law_715 rfl ?_
        refine x_iload_n dL_law_716 rfl ?_
        refine x_iconst dL_law_717 ?_
        refine x_iadd dL_law_718 ?_
        refine x_sld dL_law_719 hv1e hL (by omega) (by omega) ?_
        refine p_V dL_law_720 lL_106 (c_X8_count (sz + 124) hO hv1) hO.1.1 rfl rfl rfl rfl ⟨⟨Nat.le_of_ble_eq_true rfl, Nat.le_of_ble_eq_true rfl⟩, Nat.le_of_ble_eq_true rfl, Nat.le_of_ble_eq_true rfl⟩ ?_
        refine x_aload_n dL_law_723 rfl ?_
        refine x_aload_n dL_law_724 rfl ?_
        refine x_iload_n dL_law_725 rfl ?_
        refine x_iconst dL_law_726 ?_
        refine x_iadd dL_law_727 ?_
        refine x_sld dL_law_728 hv1e hL (by omega) (by omega) ?_
        refine p_V dL_law_729 lL_109 (c_X9_count (sz + 124) hMo hIn hS hv1) hMw.1 rfl rfl rfl rfl ⟨⟨Nat.le_of_ble_eq_true rfl, Nat.le_of_ble_eq_true rfl⟩, Nat.le_of_ble_eq_true rfl, Nat.le_of_ble_eq_true rfl⟩ ?_
        refine x_same dL_law_732 ?_
        exact K737 _ _ hOu hMo hIv
