section
variable {M M' : MD} {R : Room} {G : XG} {Z : XZ} {nc ns sz : Nat} {h h0 : AH} {pc pc' p w ci : Nat} {ls : List (Option Value)} {st : List Value} {fs : List Value} {as : List (Nat × Nat × (Nat → Int))}
theorem SO.newa {n t q : Nat} (a : SO h0 h p w ci fs as) (hs : q = p + 1 + as.length) (hw : as.length + 1 < w) : SO h0 (hU h q (xZ t n (fun _ => 0))) p w ci fs (as ++ [(t, n, fun _ => 0)]) := by
  subst hs
  refine ⟨?_, fun j x hx => ?_, by rw [List.length_append]; simpa using hw, fun q hq => ?_⟩
  · rw [hU_n (by omega)]
    exact a.1
  · by_cases q : j = as.length
    · subst q
      rw [List.getElem?_append_right (Nat.le_refl _), Nat.sub_self] at hx
      cases hx
      exact hU_s _ _ _
    · have hj := (List.getElem?_eq_some_iff.mp hx).1
      rw [List.length_append, List.length_singleton] at hj
      rw [List.getElem?_append_left (by omega)] at hx
      rw [hU_n (by omega)]
      exact a.2.1 j x hx
  · rw [hU_n (by omega)]
    exact a.2.2.2 q hq
theorem s_newa {n t : Nat} {at0 : ArrayType} {ty : FieldType} {z : Int} (hd : decode M.2.1 pc = .ok (.newarray at0, 2) ∧ pc + 2 = pc') (hac : Cond.arrayClass ty ∈ TG) (hty : newarray.typeOf at0 = ty) (ht : ∀ D : XD, (xty D)[t]? = some (D.2 t, ty)) (hp : ∀ C, ty ≠ .object C) (hdv : defaultValue ty = .int 0) (hz : z = (n : Int)) (hn : n < 2147483648) (hb : n * componentBytes ty ≤ 536870912) (hR : nc + 1 ≤ R.cells ∧ ns + n ≤ R.slots) (hs : sz = p + 1 + as.length) (hw : as.length + 1 < w) (hP : SO h0 h p w ci fs as)
    (kk : ∀ h', SO h0 h' p w ci fs (as ++ [(t, n, fun _ => 0)]) → Fr h h' p (p + w) → XX M R G Z (nc + 1) (ns + n) (sz + 1) h' pc' ls (.ref sz :: st)) : XX M R G Z nc ns sz h pc ls (.int (zI z) :: st) :=
  x_newa hd hac hty ht hp hdv hz hn hb hR (kk _ (hP.newa hs hw) (fun q hq => hU_n (by omega)))
theorem s_putF {idx k : Nat} {ty : FieldType} {v : Value} (hd : decode M.2.1 pc = .ok (.putfield idx, 3) ∧ pc + 3 = pc') (hf : FA M.1.cls idx ci k true ty) (hin : M.1.name = "<init>") (hcn : (xcl[ci]?).map (fun q => q.1) = some M.1.cls) (hn : narrow ty v = v) (hfit : fits ty v = true) (hk : Nat.blt k fs.length = true) (hP : SO h0 h p w ci fs as)
    (kk : ∀ h', SO h0 h' p w ci (fs.set k v) as → Fr h h' p (p + w) → XX M R G Z nc ns sz h' pc' ls st) : XX M R G Z nc ns sz h pc ls (v :: .ref p :: st) := x_putF hd hf hin hcn hP.1 hn hfit hk (kk _ (hP.put _) (hP.putF _))
theorem s_new {idx ci : Nat} {fs : List Value} (hd : decode M.2.1 pc = .ok (.new idx, 3) ∧ pc + 3 = pc') (hN : NA M.1.cls idx ci fs) (hR : nc + 1 ≤ R.cells ∧ ns + fs.length ≤ R.slots)
    (kk : ∀ h', h' sz = some (xO ci fs) → Fr h h' sz (sz + 1) → XX M R G Z (nc + 1) (ns + fs.length) (sz + 1) h' pc' ls (.ref sz :: st)) : XX M R G Z nc ns sz h pc ls st := x_new hd hN hR (kk _ (hU_s _ _ _) (fun q hq => hU_n (by omega)))
theorem v_In {a d mc ms n idx : Nat} {As stk : List Value} {B : AH → Prop} (hd : decode M.2.1 pc = .ok (.invokespecial idx, 3) ∧ pc + 3 = pc') (hm : MIn M.1.cls idx M' n) (hc : CC M' d mc ms (.ref a :: As) sz h (QV B)) (hn : As.length = n) (hst : stk = As.reverse ++ .ref a :: st) (hW : Nat.ble (st.map fun v => v.category).sum 8 = true)
    (hR : (d + 1 ≤ R.frames ∧ 8 + (M'.2.2.1 + 11) + 40 * d ≤ R.locals) ∧ nc + mc ≤ R.cells ∧ ns + ms ≤ R.slots)
    (kk : ∀ h', B h' → XX M R G Z (nc + mc) (ns + ms) (sz + mc) h' pc' ls st) : XX M R G Z nc ns sz h pc ls stk := x_callIn hd hm hc hn hst hW hR (fun v h' hq => by obtain ⟨rfl, hb⟩ := hq; exact kk h' hb)
theorem v_I {a d mc ms n idx : Nat} {As stk : List Value} {B : AH → Prop} (hd : decode M.2.1 pc = .ok (.invokespecial idx, 3) ∧ pc + 3 = pc') (hm : MI M.1.cls idx M' n) (hc : CC M' d mc ms (.ref a :: As) sz h (QV B)) (hn : As.length = n) (hst : stk = As.reverse ++ .ref a :: st) (hW : Nat.ble (st.map fun v => v.category).sum 8 = true)
    (hR : (d + 1 ≤ R.frames ∧ 8 + (M'.2.2.1 + 11) + 40 * d ≤ R.locals) ∧ nc + mc ≤ R.cells ∧ ns + ms ≤ R.slots)
    (kk : ∀ h', B h' → XX M R G Z (nc + mc) (ns + ms) (sz + mc) h' pc' ls st) : XX M R G Z nc ns sz h pc ls stk := x_callI hd hm hc hn hst hW hR (fun v h' hq => by obtain ⟨rfl, hb⟩ := hq; exact kk h' hb)
theorem x_sz {sz' : Nat} (e : sz = sz') (kk : XX M R G Z nc ns sz' h pc ls st) : XX M R G Z nc ns sz h pc ls st := e ▸ kk
end

theorem c_X7_init {h : AH} {p : Nat} (ho : h p = some (xO 7 [.null, .int 0])) : CC mX7_init 1 1 60 [.ref p] (p + 1) h (QV (fun h' => TyR h' p [] ∧ Fr h h' p (p + 2))) := by
  refine CC.intro [some (.ref p)] pfX7_init rfl rfl ?_
  have hP : SO h h p 2 7 [.null, .int 0] [] := ⟨ho, by simp, by decide, fun _ _ => rfl⟩
  refine x_aload_n dX7_init_0 rfl ?_
  refine x_objInit dX7_init_1 oiX7 k_oi k_oc (by decide) ?_
  refine x_aload_n dX7_init_4 rfl ?_
  refine x_bipush dX7_init_5 (by decide) ?_
  refine s_newa (n := 60) (t := 0) dX7_init_7 k_aI rfl (fun D => rfl) (fun Cq q => by cases q) rfl rfl (by decide) (by decide) (by decide) rfl (by decide) hP (fun h hP hF => ?_)
  refine s_putF dX7_init_9 fX7_9 rfl rfl rfl rfl rfl hP (fun h hP hF => ?_)
  refine x_vreturn dX7_init_12 rfl ?_
  exact ⟨rfl, ⟨_, hP.st, ⟨by simp, by simp⟩, fun i hi => by simp at hi⟩, hP.fr⟩
theorem c_X4_init {h : AH} {p : Nat} (ho : h p = some (xO 4 [.null, .null, .int 0, .int 0, .int 0])) : CC mX4_init 1 2 87 [.ref p] (p + 1) h (QV (fun h' => ReR h' p ∧ Fr h h' p (p + 3))) := by
  refine CC.intro [some (.ref p)] pfX4_init rfl rfl ?_
  have hP : SO h h p 3 4 [.null, .null, .int 0, .int 0, .int 0] [] := ⟨ho, by simp, by decide, fun _ _ => rfl⟩
  refine x_aload_n dX4_init_0 rfl ?_
  refine x_objInit dX4_init_1 oiX4 k_oi k_oc (by decide) ?_
  refine x_aload_n dX4_init_4 rfl ?_
  refine x_bipush dX4_init_5 (by decide) ?_
  refine s_newa (n := 61) (t := 0) dX4_init_7 k_aI rfl (fun D => rfl) (fun Cq q => by cases q) rfl rfl (by decide) (by decide) (by decide) rfl (by decide) hP (fun h hP hF => ?_)
  refine s_putF dX4_init_9 fX4_9 rfl rfl rfl rfl rfl hP (fun h hP hF => ?_)
  refine x_aload_n dX4_init_12 rfl ?_
  refine x_bipush dX4_init_13 (by decide) ?_
  refine s_newa (n := 26) (t := 0) dX4_init_15 k_aI rfl (fun D => rfl) (fun Cq q => by cases q) rfl rfl (by decide) (by decide) (by decide) rfl (by decide) hP (fun h hP hF => ?_)
  refine s_putF dX4_init_17 fX4_15 rfl rfl rfl rfl rfl hP (fun h hP hF => ?_)
  refine x_vreturn dX4_init_20 rfl ?_
  exact ⟨rfl, ⟨_, _, 0, 0, 0, hP.st⟩, hP.fr⟩
theorem c_X5_init {h : AH} {p : Nat} (ho : h p = some (xO 5 [.null, .null, .int 0])) : CC mX5_init 1 2 240 [.ref p] (p + 1) h (QV (fun h' => RoR h' p [] ∧ Fr h h' p (p + 3))) := by
  refine CC.intro [some (.ref p)] pfX5_init rfl rfl ?_
  have hP : SO h h p 3 5 [.null, .null, .int 0] [] := ⟨ho, by simp, by decide, fun _ _ => rfl⟩
  refine x_aload_n dX5_init_0 rfl ?_
  refine x_objInit dX5_init_1 oiX5 k_oi k_oc (by decide) ?_
  refine x_aload_n dX5_init_4 rfl ?_
  refine x_bipush dX5_init_5 (by decide) ?_
  refine s_newa (n := 120) (t := 0) dX5_init_7 k_aI rfl (fun D => rfl) (fun Cq q => by cases q) rfl rfl (by decide) (by decide) (by decide) rfl (by decide) hP (fun h hP hF => ?_)
  refine s_putF dX5_init_9 fX5_9 rfl rfl rfl rfl rfl hP (fun h hP hF => ?_)
  refine x_aload_n dX5_init_12 rfl ?_
  refine x_bipush dX5_init_13 (by decide) ?_
  refine s_newa (n := 120) (t := 0) dX5_init_15 k_aI rfl (fun D => rfl) (fun Cq q => by cases q) rfl rfl (by decide) (by decide) (by decide) rfl (by decide) hP (fun h hP hF => ?_)
  refine s_putF dX5_init_17 fX5_15 rfl rfl rfl rfl rfl hP (fun h hP hF => ?_)
  refine x_vreturn dX5_init_20 rfl ?_
  exact ⟨rfl, ⟨_, _, hP.st, ⟨fun i hi => by simp at hi, fun i hi => by simp at hi⟩, by simp⟩, hP.fr⟩
theorem c_X1_init {h : AH} {p : Nat} (ho : h p = some (xO 1 [.null, .null, .int 0])) : CC mX1_init 1 2 240 [.ref p] (p + 1) h (QV (fun h' => LiR h' p [] ∧ Fr h h' p (p + 3))) := by
  refine CC.intro [some (.ref p)] pfX1_init rfl rfl ?_
  have hP : SO h h p 3 1 [.null, .null, .int 0] [] := ⟨ho, by simp, by decide, fun _ _ => rfl⟩
  refine x_aload_n dX1_init_0 rfl ?_
  refine x_objInit dX1_init_1 oiX1 k_oi k_oc (by decide) ?_
  refine x_aload_n dX1_init_4 rfl ?_
  refine x_bipush dX1_init_5 (by decide) ?_
  refine s_newa (n := 120) (t := 0) dX1_init_7 k_aI rfl (fun D => rfl) (fun Cq q => by cases q) rfl rfl (by decide) (by decide) (by decide) rfl (by decide) hP (fun h hP hF => ?_)
  refine s_putF dX1_init_9 fX1_9 rfl rfl rfl rfl rfl hP (fun h hP hF => ?_)
  refine x_aload_n dX1_init_12 rfl ?_
  refine x_bipush dX1_init_13 (by decide) ?_
  refine s_newa (n := 120) (t := 0) dX1_init_15 k_aI rfl (fun D => rfl) (fun Cq q => by cases q) rfl rfl (by decide) (by decide) (by decide) rfl (by decide) hP (fun h hP hF => ?_)
  refine s_putF dX1_init_17 fX1_15 rfl rfl rfl rfl rfl hP (fun h hP hF => ?_)
  refine x_vreturn dX1_init_20 rfl ?_
  exact ⟨rfl, ⟨_, _, hP.st, ⟨by simp, by simp⟩, fun i hi => by simp at hi⟩, hP.fr⟩
theorem c_X2_init {h : AH} {p : Nat} (ho : h p = some (xO 2 [.null, .null, .null, .int 0])) : CC mX2_init 1 3 410 [.ref p] (p + 1) h (QV (fun h' => NoR h' p 0 (fun _ => []) (fun _ => 0) ∧ Fr h h' p (p + 4))) := by
  refine CC.intro [some (.ref p)] pfX2_init rfl rfl ?_
  have hP : SO h h p 4 2 [.null, .null, .null, .int 0] [] := ⟨ho, by simp, by decide, fun _ _ => rfl⟩
  refine x_aload_n dX2_init_0 rfl ?_
  refine x_objInit dX2_init_1 oiX2 k_oi k_oc (by decide) ?_
  refine x_aload_n dX2_init_4 rfl ?_
  refine x_bipush dX2_init_5 (by decide) ?_
  refine s_newa (n := 41) (t := 0) dX2_init_7 k_aI rfl (fun D => rfl) (fun Cq q => by cases q) rfl rfl (by decide) (by decide) (by decide) rfl (by decide) hP (fun h hP hF => ?_)
  refine s_putF dX2_init_9 fX2_9 rfl rfl rfl rfl rfl hP (fun h hP hF => ?_)
  refine x_aload_n dX2_init_12 rfl ?_
  refine x_bipush dX2_init_13 (by decide) ?_
  refine s_newa (n := 41) (t := 0) dX2_init_15 k_aI rfl (fun D => rfl) (fun Cq q => by cases q) rfl rfl (by decide) (by decide) (by decide) rfl (by decide) hP (fun h hP hF => ?_)
  refine s_putF dX2_init_17 fX2_15 rfl rfl rfl rfl rfl hP (fun h hP hF => ?_)
  refine x_aload_n dX2_init_20 rfl ?_
  refine x_sipush dX2_init_21 (by decide) ?_
  refine s_newa (n := 328) (t := 0) dX2_init_24 k_aI rfl (fun D => rfl) (fun Cq q => by cases q) rfl rfl (by decide) (by decide) (by decide) rfl (by decide) hP (fun h hP hF => ?_)
  refine s_putF dX2_init_26 fX2_18 rfl rfl rfl rfl rfl hP (fun h hP hF => ?_)
  refine x_vreturn dX2_init_29 rfl ?_
  exact ⟨rfl, ⟨_, _, _, hP.st, ⟨by omega, fun i h1 h2 => by omega⟩, fun i h1 h2 => by omega⟩, hP.fr⟩
theorem c_X3_init {h : AH} {p : Nat} (ho : h p = some (xO 3 [.null, .null, .null, .int 0])) : CC mX3_init 1 3 360 [.ref p] (p + 1) h (QV (fun h' => PlR h' p [] ∧ Fr h h' p (p + 4))) := by
  refine CC.intro [some (.ref p)] pfX3_init rfl rfl ?_
  have hP : SO h h p 4 3 [.null, .null, .null, .int 0] [] := ⟨ho, by simp, by decide, fun _ _ => rfl⟩
  refine x_aload_n dX3_init_0 rfl ?_
  refine x_objInit dX3_init_1 oiX3 k_oi k_oc (by decide) ?_
  refine x_aload_n dX3_init_4 rfl ?_
  refine x_bipush dX3_init_5 (by decide) ?_
  refine s_newa (n := 120) (t := 0) dX3_init_7 k_aI rfl (fun D => rfl) (fun Cq q => by cases q) rfl rfl (by decide) (by decide) (by decide) rfl (by decide) hP (fun h hP hF => ?_)
  refine s_putF dX3_init_9 fX3_9 rfl rfl rfl rfl rfl hP (fun h hP hF => ?_)
  refine x_aload_n dX3_init_12 rfl ?_
  refine x_bipush dX3_init_13 (by decide) ?_
  refine s_newa (n := 120) (t := 0) dX3_init_15 k_aI rfl (fun D => rfl) (fun Cq q => by cases q) rfl rfl (by decide) (by decide) (by decide) rfl (by decide) hP (fun h hP hF => ?_)
  refine s_putF dX3_init_17 fX3_15 rfl rfl rfl rfl rfl hP (fun h hP hF => ?_)
  refine x_aload_n dX3_init_20 rfl ?_
  refine x_bipush dX3_init_21 (by decide) ?_
  refine s_newa (n := 120) (t := 0) dX3_init_23 k_aI rfl (fun D => rfl) (fun Cq q => by cases q) rfl rfl (by decide) (by decide) (by decide) rfl (by decide) hP (fun h hP hF => ?_)
  refine s_putF dX3_init_25 fX3_18 rfl rfl rfl rfl rfl hP (fun h hP hF => ?_)
  refine x_vreturn dX3_init_28 rfl ?_
  exact ⟨rfl, ⟨_, _, _, hP.st, ⟨by simp, by simp⟩, fun i hi => by simp at hi⟩, hP.fr⟩
/-- the state of a new outline -/
abbrev cs0 : CS := (0, fun _ => [], fun _ => 0, [], [])
theorem c_X6_init {h : AH} {q : Nat} (ho : h q = some (xO 6 [.null, .null, .null])) : CC mX6_init 2 11 1021 [.ref q] (q + 1) h (QV (fun h' => StR h' q cs0 ∧ Fr h h' q (q + 12))) := by
  refine CC.intro [some (.ref q)] pfX6_init rfl rfl ?_
  have hP : SO h h q 1 6 [.null, .null, .null] [] := ⟨ho, by simp, by decide, fun _ _ => rfl⟩
  have hG : Fr h h q (q + 12) := Fr.rf
  refine x_aload_n dX6_init_0 rfl ?_
  refine x_objInit dX6_init_1 oiX6 k_oi k_oc (by decide) ?_
  refine x_aload_n dX6_init_4 rfl ?_
  refine s_new dX6_init_5 nX6_9 (by decide) (fun h ho1 hF => ?_)
  have hG := hG.tr (hF.wd (lo' := q) (hi' := q + 12) (by omega) (by omega))
  have hP := hP.mv hF (by omega)
  refine x_dup dX6_init_8 rfl ?_
  refine v_In dX6_init_9 lX6_11 (c_X2_init (p := q + 1) ho1) rfl rfl rfl (by decide) (fun h ⟨hN, hF⟩ => ?_)
  have hG := hG.tr (hF.wd (lo' := q) (hi' := q + 12) (by omega) (by omega))
  have hP := hP.mv hF (by omega)
  refine s_putF dX6_init_12 fX6_12 rfl rfl rfl rfl rfl hP (fun h hP hF => ?_)
  refine x_aload_n dX6_init_15 rfl ?_
  have hG := hG.tr (hF.wd (lo' := q) (hi' := q + 12) (by omega) (by omega))
  have hN := hN.mv hF (by omega)
  have hP := hP.st
  refine s_new dX6_init_16 nX6_18 (by decide) (fun h ho1 hF1 => ?_)
  have hG := hG.tr (hF1.wd (lo' := q) (hi' := q + 12) (by omega) (by omega))
  have hP := hP.mv hF1 (by omega)
  refine x_dup dX6_init_19 rfl ?_
  refine v_In dX6_init_20 lX6_20 (c_X1_init (p := q + 5) ho1) rfl rfl rfl (by decide) (fun h ⟨hLi, hF2⟩ => ?_)
  have hG := hG.tr (hF2.wd (lo' := q) (hi' := q + 12) (by omega) (by omega))
  have hP := hP.mv hF2 (by omega)
  refine s_putF dX6_init_23 fX6_21 rfl rfl rfl rfl rfl hP (fun h hP hF => ?_)
  refine x_aload_n dX6_init_26 rfl ?_
  have hG := hG.tr (hF.wd (lo' := q) (hi' := q + 12) (by omega) (by omega))
  have hN := ((hN.mv hF1 (by omega)).mv hF2 (by omega)).mv hF (by omega)
  have hLi := hLi.mv hF (by omega)
  have hP := hP.st
  refine s_new dX6_init_27 nX6_25 (by decide) (fun h ho1 hF3 => ?_)
  have hG := hG.tr (hF3.wd (lo' := q) (hi' := q + 12) (by omega) (by omega))
  have hP := hP.mv hF3 (by omega)
  refine x_dup dX6_init_30 rfl ?_
  refine v_In dX6_init_31 lX6_27 (c_X3_init (p := q + 8) ho1) rfl rfl rfl (by decide) (fun h ⟨hPl, hF4⟩ => ?_)
  have hG := hG.tr (hF4.wd (lo' := q) (hi' := q + 12) (by omega) (by omega))
  have hP := hP.mv hF4 (by omega)
  refine s_putF dX6_init_34 fX6_28 rfl rfl rfl rfl rfl hP (fun h hP hF => ?_)
  refine x_widen (nc' := 11) (ns' := 1021) rfl (by decide) ?_
  refine x_vreturn dX6_init_37 rfl ?_
  have hG := hG.tr (hF.wd (lo' := q) (hi' := q + 12) (by omega) (by omega))
  exact ⟨rfl, ⟨hP.st, ((hN.mv hF3 (by omega)).mv hF4 (by omega)).mv hF (by omega), ((hLi.mv hF3 (by omega)).mv hF4 (by omega)).mv hF (by omega), hPl.mv hF (by omega)⟩, hG⟩
