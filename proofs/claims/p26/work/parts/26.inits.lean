section
variable {M M' : MD} {R : Room} {G : XG} {Z : XZ} {nc ns sz : Nat} {h h0 : AH} {pc pc' p w ci : Nat} {ls : List (Option Value)} {st : List Value} {fs : List Value} {as : List (Nat × Nat × (Nat → Int))}
theorem SO.newa {n t q : Nat} (a : SO h0 h p w ci fs as) (hs : q = p + 1 + as.length) (hw : as.length + 1 < w) : SO h0 (hU h q (xZ t n (fun _ => 0))) p w ci fs (as ++ [(t, n, fun _ => 0)]) := by
  subst hs
  refine ⟨?_, fun j x hx => ?_, by rw [List.length_append]; simpa using hw, fun q hq => ?_⟩
  · rw [hU_n (by omega)]
    exact a.1
  · by_cases q : j = as.length
    · subst q
      rw [List.getElem?_append_right (Nat.le_refl _), Nat.sub_self] at hx
      cases hx
      exact hU_s _ _ _
    · have hj := (List.getElem?_eq_some_iff.mp hx).1
      rw [List.length_append, List.length_singleton] at hj
      rw [List.getElem?_append_left (by omega)] at hx
      rw [hU_n (by omega)]
      exact a.2.1 j x hx
  · rw [hU_n (by omega)]
    exact a.2.2.2 q hq
theorem s_newa {n t : Nat} {at0 : ArrayType} {ty : FieldType} {z : Int} (hd : decode M.2.1 pc = .ok (.newarray at0, 2) ∧ pc + 2 = pc') (hac : Cond.arrayClass ty ∈ TG) (hty : newarray.typeOf at0 = ty) (ht : ∀ D : XD, (xty D)[t]? = some (D.2 t, ty)) (hp : ∀ C, ty ≠ .object C) (hdv : defaultValue ty = .int 0) (hz : z = (n : Int)) (hn : n < 2147483648) (hb : n * componentBytes ty ≤ 536870912) (hR : nc + 1 ≤ R.cells ∧ ns + n ≤ R.slots) (hs : sz = p + 1 + as.length) (hw : as.length + 1 < w) (hP : SO h0 h p w ci fs as)
    (kk : ∀ h', SO h0 h' p w ci fs (as ++ [(t, n, fun _ => 0)]) → Fr h h' p (p + w) → XX M R G Z (nc + 1) (ns + n) (sz + 1) h' pc' ls (.ref sz :: st)) : XX M R G Z nc ns sz h pc ls (.int (zI z) :: st) :=
  x_newa hd hac hty ht hp hdv hz hn hb hR (kk _ (hP.newa hs hw) (fun q hq => hU_n (by omega)))
theorem s_putF {idx k : Nat} {ty : FieldType} {v : Value} (hd : decode M.2.1 pc = .ok (.putfield idx, 3) ∧ pc + 3 = pc') (hf : FA M.1.cls idx ci k true ty) (hin : M.1.name = "<init>") (hcn : (xcl[ci]?).map (fun q => q.1) = some M.1.cls) (hn : narrow ty v = v) (hfit : fits ty v = true) (hk : Nat.blt k fs.length = true) (hP : SO h0 h p w ci fs as)
    (kk : ∀ h', SO h0 h' p w ci (fs.set k v) as → Fr h h' p (p + w) → XX M R G Z nc ns sz h' pc' ls st) : XX M R G Z nc ns sz h pc ls (v :: .ref p :: st) := x_putF hd hf hin hcn hP.1 hn hfit hk (kk _ (hP.put _) (hP.putF _))
theorem s_new {idx ci : Nat} {fs : List Value} (hd : decode M.2.1 pc = .ok (.new idx, 3) ∧ pc + 3 = pc') (hN : NA M.1.cls idx ci fs) (hR : nc + 1 ≤ R.cells ∧ ns + fs.length ≤ R.slots)
    (kk : ∀ h', h' sz = some (xO ci fs) → Fr h h' sz (sz + 1) → XX M R G Z (nc + 1) (ns + fs.length) (sz + 1) h' pc' ls (.ref sz :: st)) : XX M R G Z nc ns sz h pc ls st := x_new hd hN hR (kk _ (hU_s _ _ _) (fun q hq => hU_n (by omega)))
theorem v_In {a d mc ms n idx : Nat} {As stk : List Value} {B : AH → Prop} (hd : decode M.2.1 pc = .ok (.invokespecial idx, 3) ∧ pc + 3 = pc') (hm : MIn M.1.cls idx M' n) (hc : CC M' d mc ms (.ref a :: As) sz h (QV B)) (hn : As.length = n) (hst : stk = As.reverse ++ .ref a :: st) (hW : Nat.ble (st.map fun v => v.category).sum 8 = true)
    (hR : (d + 1 ≤ R.frames ∧ 8 + (M'.2.2.1 + 11) + 40 * d ≤ R.locals) ∧ nc + mc ≤ R.cells ∧ ns + ms ≤ R.slots)
    (kk : ∀ h', B h' → XX M R G Z (nc + mc) (ns + ms) (sz + mc) h' pc' ls st) : XX M R G Z nc ns sz h pc ls stk := x_callIn hd hm hc hn hst hW hR (fun v h' hq => by obtain ⟨rfl, hb⟩ := hq; exact kk h' hb)
theorem v_I {a d mc ms n idx : Nat} {As stk : List Value} {B : AH → Prop} (hd : decode M.2.1 pc = .ok (.invokespecial idx, 3) ∧ pc + 3 = pc') (hm : MI M.1.cls idx M' n) (hc : CC M' d mc ms (.ref a :: As) sz h (QV B)) (hn : As.length = n) (hst : stk = As.reverse ++ .ref a :: st) (hW : Nat.ble (st.map fun v => v.category).sum 8 = true)
    (hR : (d + 1 ≤ R.frames ∧ 8 + (M'.2.2.1 + 11) + 40 * d ≤ R.locals) ∧ nc + mc ≤ R.cells ∧ ns + ms ≤ R.slots)
    (kk : ∀ h', B h' → XX M R G Z (nc + mc) (ns + ms) (sz + mc) h' pc' ls st) : XX M R G Z nc ns sz h pc ls stk := x_callI hd hm hc hn hst hW hR (fun v h' hq => by obtain ⟨rfl, hb⟩ := hq; exact kk h' hb)
theorem x_sz {sz' : Nat} (e : sz = sz') (kk : XX M R G Z nc ns sz' h pc ls st) : XX M R G Z nc ns sz h pc ls st := e ▸ kk
end

theorem c_X7_init {h : AH} {p : Nat} (ho : h p = some (xO 7 [.null, .int 0])) : CC mX7_init 1 1 60 [.ref p] (p + 1) h (QV (fun h' => TyR h' p [] ∧ Fr h h' p (p + 2))) := by
  refine CC.intro [some (.ref p)] pfX7_init rfl rfl ?_
  have hP : SO h h p 2 7 [.null, .int 0] [] := ⟨ho, by simp, by decide, fun _ _ => rfl⟩
  refine x_aload_n dX7_init_0 rfl ?_
  refine x_objInit dX7_init_1 oiX7 k_oi k_oc (by decide) ?_
  refine x_aload_n dX7_init_4 rfl ?_
  refine x_bipush dX7_init_5 (by decide) ?_
  refine s_newa (n := 60) (t := 0) dX7_init_7 k_aI rfl (fun D => rfl) (fun Cq q => by cases q) rfl rfl (by decide) (by decide) (by decide) rfl (by decide) hP (fun h hP hF => ?_)
  refine s_putF dX7_init_9 fX7_9 rfl rfl rfl rfl rfl hP (fun h hP hF => ?_)
  refine x_vreturn dX7_init_12 rfl ?_
  exact ⟨rfl, ⟨_, hP.st, ⟨by simp, by simp⟩, fun i hi => by simp at hi⟩, hP.fr⟩
theorem c_X4_init {h : AH} {p : Nat} (ho : h p = some (xO 4 [.null, .null, .int 0, .int 0, .int 0])) : CC mX4_init 1 2 87 [.ref p] (p + 1) h (QV (fun h' => ReR h' p ∧ Fr h h' p (p + 3))) := by
  refine CC.intro [some (.ref p)] pfX4_init rfl rfl ?_
  have hP : SO h h p 3 4 [.null, .null, .int 0, .int 0, .int 0] [] := ⟨ho, by simp, by decide, fun _ _ => rfl⟩
  refine x_aload_n dX4_init_0 rfl ?_
  refine x_objInit dX4_init_1 oiX4 k_oi k_oc (by decide) ?_
  refine x_aload_n dX4_init_4 rfl ?_
  refine x_bipush dX4_init_5 (by decide) ?_
  refine s_newa (n := 61) (t := 0) dX4_init_7 k_aI rfl (fun D => rfl) (fun Cq q => by cases q) rfl rfl (by decide) (by decide) (by decide) rfl (by decide) hP (fun h hP hF => ?_)
  refine s_putF dX4_init_9 fX4_9 rfl rfl rfl rfl rfl hP (fun h hP hF => ?_)
  refine x_aload_n dX4_init_12 rfl ?_
  refine x_bipush dX4_init_13 (by decide) ?_
  refine s_newa (n := 26) (t := 0) dX4_init_15 k_aI rfl (fun D => rfl) (fun Cq q => by cases q) rfl rfl (by decide) (by decide) (by decide) rfl (by decide) hP (fun h hP hF => ?_)
  refine s_putF dX4_init_17 fX4_15 rfl rfl rfl rfl rfl hP (fun h hP hF => ?_)
  refine x_vreturn dX4_init_20 rfl ?_
  exact ⟨rfl, ⟨_, _, 0, 0, 0, hP.st⟩, hP.fr⟩
theorem c_X5_init {h : AH} {p : Nat} (ho : h p = some (xO 5 [.null, .null, .int 0])) : CC mX5_init 1 2 240 [.ref p] (p + 1) h (QV (fun h' => RoR h' p [] ∧ Fr h h' p (p + 3))) := by
  refine CC.intro [some (.ref p)] pfX5_init rfl rfl ?_
  have hP : SO h h p 3 5 [.null, .null, .int 0] [] := ⟨ho, by simp, by decide, fun _ _ => rfl⟩
  refine x_aload_n dX5_init_0 rfl ?_
  refine x_objInit dX5_init_1 oiX5 k_oi k_oc (by decide) ?_
  refine x_aload_n dX5_init_4 rfl ?_
  refine x_bipush dX5_init_5 (by decide) ?_
  refine s_newa (n := 120) (t := 0) dX5_init_7 k_aI rfl (fun D => rfl) (fun Cq q => by cases q) rfl rfl (by decide) (by decide) (by decide) rfl (by decide) hP (fun h hP hF => ?_)
  refine s_putF dX5_init_9 fX5_9 rfl rfl rfl rfl rfl hP (fun h hP hF => ?_)
  refine x_aload_n dX5_init_12 rfl ?_
  refine x_bipush dX5_init_13 (by decide) ?_
  refine s_newa (n := 120) (t := 0) dX5_init_15 k_aI rfl (fun D => rfl) (fun Cq q => by cases q) rfl rfl (by decide) (by decide) (by decide) rfl (by decide) hP (fun h hP hF => ?_)
  refine s_putF dX5_init_17 fX5_15 rfl rfl rfl rfl rfl hP (fun h hP hF => ?_)
  refine x_vreturn dX5_init_20 rfl ?_
  exact ⟨rfl, ⟨_, _, hP.st, ⟨fun i hi => by simp at hi, fun i hi => by simp at hi⟩, by simp⟩, hP.fr⟩
theorem c_X1_init {h : AH} {p : Nat} (ho : h p = some (xO 1 [.null, .null, .int 0])) : CC mX1_init 1 2 240 [.ref p] (p + 1) h (QV (fun h' => LiR h' p [] ∧ Fr h h' p (p + 3))) := by
  refine CC.intro [some (.ref p)] pfX1_init rfl rfl ?_
  have hP : SO h h p 3 1 [.null, .null, .int 0] [] := ⟨ho, by simp, by decide, fun _ _ => rfl⟩
  refine x_aload_n dX1_init_0 rfl ?_
  refine x_objInit dX1_init_1 oiX1 k_oi k_oc (by decide) ?_
  refine x_aload_n dX1_init_4 rfl ?_
  refine x_bipush dX1_init_5 (by decide) ?_
  refine s_newa (n := 120) (t := 0) dX1_init_7 k_aI rfl (fun D => rfl) (fun Cq q => by cases q) rfl rfl (by decide) (by decide) (by decide) rfl (by decide) hP (fun h hP hF => ?_)
  refine s_putF dX1_init_9 fX1_9 rfl rfl rfl rfl rfl hP (fun h hP hF => ?_)
  refine x_aload_n dX1_init_12 rfl ?_
  refine x_bipush dX1_init_13 (by decide) ?_
  refine s_newa (n := 120) (t := 0) dX1_init_15 k_aI rfl (fun D => rfl) (fun Cq q => by cases q) rfl rfl (by decide) (by decide) (by decide) rfl (by decide) hP (fun h hP hF => ?_)
  refine s_putF dX1_init_17 fX1_15 rfl rfl rfl rfl rfl hP (fun h hP hF => ?_)
  refine x_vreturn dX1_init_20 rfl ?_
  exact ⟨rfl, ⟨_, _, hP.st, ⟨by simp, by simp⟩, fun i hi => by simp at hi⟩, hP.fr⟩
theorem c_X2_init {h : AH} {p : Nat} (ho : h p = some (xO 2 [.null, .null, .null, .int 0])) : CC mX2_init 1 3 410 [.ref p] (p + 1) h (QV (fun h' => NoR h' p 0 (fun _ => []) (fun _ => 0) ∧ Fr h h' p (p + 4))) := by
  refine CC.intro [some (.ref p)] pfX2_init rfl rfl ?_
  have hP : SO h h p 4 2 [.null, .null, .null, .int 0] [] := ⟨ho, by simp, by decide, fun _ _ => rfl⟩
  refine x_aload_n dX2_init_0 rfl ?_
  refine x_objInit dX2_init_1 oiX2 k_oi k_oc (by decide) ?_
  refine x_aload_n dX2_init_4 rfl ?_
  refine x_bipush dX2_init_5 (by decide) ?_
  refine s_newa (n := 41) (t := 0) dX2_init_7 k_aI rfl (fun D => rfl) (fun Cq q => by cases q) rfl rfl (by decide) (by decide) (by decide) rfl (by decide) hP (fun h hP hF => ?_)
  refine s_putF dX2_init_9 fX2_9 rfl rfl rfl rfl rfl hP (fun h hP hF => ?_)
  refine x_aload_n dX2_init_12 rfl ?_
  refine x_bipush dX2_init_13 (by decide) ?_
  refine s_newa (n := 41) (t := 0) dX2_init_15 k_aI rfl (fun D => rfl) (fun Cq q => by cases q) rfl rfl (by decide) (by decide) (by decide) rfl (by decide) hP (fun h hP hF => ?_)
  refine s_putF dX2_init_17 fX2_15 rfl rfl rfl rfl rfl hP (fun h hP hF => ?_)
  refine x_aload_n dX2_init_20 rfl ?_
  refine x_sipush dX2_init_21 (by decide) ?_
  refine s_newa (n := 328) (t := 0) dX2_init_24 k_aI rfl (fun D => rfl) (fun Cq q => by cases q) rfl rfl (by decide) (by decide) (by decide) rfl (by decide) hP (fun h hP hF => ?_)
  refine s_putF dX2_init_26 fX2_18 rfl rfl rfl rfl rfl hP (fun h hP hF => ?_)
  refine x_vreturn dX2_init_29 rfl ?_
  exact ⟨rfl, ⟨_, _, _, hP.st, ⟨by omega, fun i h1 h2 => by omega⟩, fun i h1 h2 => by omega⟩, hP.fr⟩
theorem c_X3_init {h : AH} {p : Nat} (ho : h p = some (xO 3 [.null, .null, .null, .int 0])) : CC mX3_init 1 3 360 [.ref p] (p + 1) h (QV (fun h' => PlR h' p [] ∧ Fr h h' p (p + 4))) := by
  refine CC.intro [some (.ref p)] pfX3_init rfl rfl ?_
  have hP : SO h h p 4 3 [.null, .null, .null, .int 0] [] := ⟨ho, by simp, by decide, fun _ _ => rfl⟩
  refine x_aload_n dX3_init_0 rfl ?_
  refine x_objInit dX3_init_1 oiX3 k_oi k_oc (by decide) ?_
  refine x_aload_n dX3_init_4 rfl ?_
  refine x_bipush dX3_init_5 (by decide) ?_
  refine s_newa (n := 120) (t := 0) dX3_init_7 k_aI rfl (fun D => rfl) (fun Cq q => by cases q) rfl rfl (by decide) (by decide) (by decide) rfl (by decide) hP (fun h hP hF => ?_)
  refine s_putF dX3_init_9 fX3_9 rfl rfl rfl rfl rfl hP (fun h hP hF => ?_)
  refine x_aload_n dX3_init_12 rfl ?_
  refine x_bipush dX3_init_13 (by decide) ?_
  refine s_newa (n := 120) (t := 0) dX3_init_15 k_aI rfl (fun D => rfl) (fun Cq q => by cases q) rfl rfl (by decide) (by decide) (by decide) rfl (by decide) hP (fun h hP hF => ?_)
  refine s_putF dX3_init_17 fX3_15 rfl rfl rfl rfl rfl hP (fun h hP hF => ?_)
  refine x_aload_n dX3_init_20 rfl ?_
  refine x_bipush dX3_init_21 (by decide) ?_
  refine s_newa (n := 120) (t := 0) dX3_init_23 k_aI rfl (fun D => rfl) (fun Cq q => by cases q) rfl rfl (by decide) (by decide) (by decide) rfl (by decide) hP (fun h hP hF => ?_)
  refine s_putF dX3_init_25 fX3_18 rfl rfl rfl rfl rfl hP (fun h hP hF => ?_)
  refine x_vreturn dX3_init_28 rfl ?_
  exact ⟨rfl, ⟨_, _, _, hP.st, ⟨by simp, by simp⟩, fun i hi => by simp at hi⟩, hP.fr⟩
/-- the state of a new outline -/
abbrev cs0 : CS := (0, fun _ => [], fun _ => 0, [], [])
theorem c_X6_init {h : AH} {q : Nat} (ho : h q = some (xO 6 [.null, .null, .null])) : CC mX6_init 2 11 1021 [.ref q] (q + 1) h (QV (fun h' => StR h' q cs0 ∧ Fr h h' q (q + 12))) := by
  refine CC.intro [some (.ref q)] pfX6_init rfl rfl ?_
  have hP : SO h h q 1 6 [.null, .null, .null] [] := ⟨ho, by simp, by decide, fun _ _ => rfl⟩
  have hG : Fr h h q (q + 12) := Fr.rf
  refine x_aload_n dX6_init_0 rfl ?_
  refine x_objInit dX6_init_1 oiX6 k_oi k_oc (by decide) ?_
  refine x_aload_n dX6_init_4 rfl ?_
  refine s_new dX6_init_5 nX6_9 (by decide) (fun h ho1 hF => ?_)
  have hG := hG.tr (hF.wd (lo' := q) (hi' := q + 12) (by omega) (by omega))
  have hP := hP.mv hF (by omega)
  refine x_dup dX6_init_8 rfl ?_
  refine v_In dX6_init_9 lX6_11 (c_X2_init (p := q + 1) ho1) rfl rfl rfl (by decide) (fun h ⟨hN, hF⟩ => ?_)
  have hG := hG.tr (hF.wd (lo' := q) (hi' := q + 12) (by omega) (by omega))
  have hP := hP.mv hF (by omega)
  refine s_putF dX6_init_12 fX6_12 rfl rfl rfl rfl rfl hP (fun h hP hF => ?_)
  refine x_aload_n dX6_init_15 rfl ?_
  have hG := hG.tr (hF.wd (lo' := q) (hi' := q + 12) (by omega) (by omega))
  have hN := hN.mv hF (by omega)
  have hP := hP.st
  refine s_new dX6_init_16 nX6_18 (by decide) (fun h ho1 hF1 => ?_)
  have hG := hG.tr (hF1.wd (lo' := q) (hi' := q + 12) (by omega) (by omega))
  have hP := hP.mv hF1 (by omega)
  refine x_dup dX6_init_19 rfl ?_
  refine v_In dX6_init_20 lX6_20 (c_X1_init (p := q + 5) ho1) rfl rfl rfl (by decide) (fun h ⟨hLi, hF2⟩ => ?_)
  have hG := hG.tr (hF2.wd (lo' := q) (hi' := q + 12) (by omega) (by omega))
  have hP := hP.mv hF2 (by omega)
  refine s_putF dX6_init_23 fX6_21 rfl rfl rfl rfl rfl hP (fun h hP hF => ?_)
  refine x_aload_n dX6_init_26 rfl ?_
  have hG := hG.tr (hF.wd (lo' := q) (hi' := q + 12) (by omega) (by omega))
  have hN := ((hN.mv hF1 (by omega)).mv hF2 (by omega)).mv hF (by omega)
  have hLi := hLi.mv hF (by omega)
  have hP := hP.st
  refine s_new dX6_init_27 nX6_25 (by decide) (fun h ho1 hF3 => ?_)
  have hG := hG.tr (hF3.wd (lo' := q) (hi' := q + 12) (by omega) (by omega))
  have hP := hP.mv hF3 (by omega)
  refine x_dup dX6_init_30 rfl ?_
  refine v_In dX6_init_31 lX6_27 (c_X3_init (p := q + 8) ho1) rfl rfl rfl (by decide) (fun h ⟨hPl, hF4⟩ => ?_)
  have hG := hG.tr (hF4.wd (lo' := q) (hi' := q + 12) (by omega) (by omega))
  have hP := hP.mv hF4 (by omega)
  refine s_putF dX6_init_34 fX6_28 rfl rfl rfl rfl rfl hP (fun h hP hF => ?_)
  refine x_widen (nc' := 11) (ns' := 1021) rfl (by decide) ?_
  refine x_vreturn dX6_init_37 rfl ?_
  have hG := hG.tr (hF.wd (lo' := q) (hi' := q + 12) (by omega) (by omega))
  exact ⟨rfl, ⟨hP.st, ((hN.mv hF3 (by omega)).mv hF4 (by omega)).mv hF (by omega), ((hLi.mv hF3 (by omega)).mv hF4 (by omega)).mv hF (by omega), hPl.mv hF (by omega)⟩, hG⟩
theorem c_X0_init {h : AH} {p : Nat} (ho : h p = some (xO 0 [.null, .int 0, .int 0])) : CC mX0_init 3 61 5125 [.ref p] (p + 1) h (QV (fun h' => HiR h' p [] ∧ Fr h h' p (p + 62))) := by
  refine CC.intro [some (.ref p), none] pfX0_init rfl rfl ?_
  have K : ∀ (n k : Nat), n + k = 5 → ∀ (h1 : AH) (f : Nat → Option Nat), SO h1 h1 p 1 0 (hiF p 0 0) [] → h1 (p + 1) = some (xR 3 5 f) → (∀ j, j < k → f j = some (p + 2 + 12 * j)) → (∀ j, j < k → StR h1 (p + 2 + 12 * j) cs0) → Fr h h1 p (p + 62) → XX mX0_init (xrm 3 61 5125) gTrue (zMet (QV (fun h' => HiR h' p [] ∧ Fr h h' p (p + 62))) 61 5125) (1 + 12 * k) (5 + 1024 * k) (p + 2 + 12 * k) h1 14 [some (.ref p), some (.int (zI (k : Int)))] [] := by
    intro n
    induction n with
    | zero =>
      intro k hk h1 f hP hRing hf hst hG
      have hk5 : k = 5 := by omega
      subst hk5
      refine x_iload_n dX0_init_14 rfl ?_
      refine x_iconst dX0_init_15 ?_
      refine x_icmp_ge dX0_init_16 ⟨by omega, by omega⟩ ⟨by omega, by omega⟩ (fun qc16q => ?_) (fun qc16q => ?_)
      · refine x_vreturn dX0_init_38 rfl ?_
        exact ⟨rfl, ⟨0, f, fun _ => cs0, ⟨hP, hRing, hf, by omega, hst⟩, by simp, fun j hj => by simp at hj⟩, hG⟩
      · exact absurd qc16q (by omega)
    | succ n ihn =>
      intro k hk h1 f hP hRing hf hst hG
      have hk5 : k < 5 := by omega
      refine x_iload_n dX0_init_14 rfl ?_
      refine x_iconst dX0_init_15 ?_
      refine x_icmp_ge dX0_init_16 ⟨by omega, by omega⟩ ⟨by omega, by omega⟩ (fun qc16q => ?_) (fun qc16q => ?_)
      · exact absurd qc16q (by omega)
      · refine x_aload_n dX0_init_19 rfl ?_
        refine s_get dX0_init_20 fX0_11 hP rfl ?_
        refine x_iload_n dX0_init_23 rfl ?_
        refine s_new dX0_init_24 nX0_9 ⟨by show 1 + 12 * k + 1 ≤ 61; omega, by show 5 + 1024 * k + 3 ≤ 5125; omega⟩ (fun h2 ho1 hF1 => ?_)
        have hP := hP.mv hF1 (by omega)
        have hRing := (hF1 (p + 1) (by omega)).trans hRing
        have hst : ∀ j, j < k → StR h2 (p + 2 + 12 * j) cs0 := fun j hj => (hst j hj).mv hF1 (by omega)
        have hG := hG.tr (hF1.wd (lo' := p) (hi' := p + 62) (by omega) (by omega))
        refine x_dup dX0_init_27 rfl ?_
        refine v_In dX0_init_28 lX0_17 (c_X6_init ho1) rfl rfl rfl ⟨by decide, by show 1 + 12 * k + 1 + 11 ≤ 61; omega, by show 5 + 1024 * k + 3 + 1021 ≤ 5125; omega⟩ (fun h3 ⟨hSn, hF2⟩ => ?_)
        have hP := hP.mv hF2 (by omega)
        have hRing := (hF2 (p + 1) (by omega)).trans hRing
        have hst : ∀ j, j < k → StR h3 (p + 2 + 12 * j) cs0 := fun j hj => (hst j hj).mv hF2 (by omega)
        have hG := hG.tr (hF2.wd (lo' := p) (hi' := p + 62) (by omega) (by omega))
        refine x_aast dX0_init_31 hRing rfl (by omega) (by omega) hSn.1.1 ?_
        have hF4 : Fr h3 (hU h3 (p + 1) (xR 3 5 (va_up f (k : Int).toNat (some (p + 2 + 12 * k))))) (p + 1) (p + 2) := fun a ha => hU_n (by omega)
        have hG := hG.tr (hF4.wd (lo' := p) (hi' := p + 62) (by omega) (by omega))
        refine x_iinc dX0_init_32 rfl rfl rfl ?_
        refine x_goto dX0_init_35 ?_
        refine x_sz (sz' := p + 2 + 12 * (k + 1)) (by omega) (x_widen (nc' := 1 + 12 * (k + 1)) (ns' := 5 + 1024 * (k + 1)) (by omega) (by show 5 + 1024 * k + 3 + 1021 ≤ 5 + 1024 * (k + 1); omega) ?_)
        rw [show ((k : Nat) : Int) + 1 = ((k + 1 : Nat) : Int) by omega]
        refine ihn (k + 1) (by omega) _ _ (hP.mv hF4 (by omega)) (hU_s _ _ _) (fun j hj => ?_) (fun j hj => ?_) hG
        · by_cases q : j = k
          · rw [q, Int.toNat_natCast]
            exact if_pos rfl
          · rw [Int.toNat_natCast]
            refine (if_neg q).trans (hf j (by omega))
        · by_cases q : j = k
          · rw [q]
            exact hSn.mv hF4 (by omega)
          · exact (hst j (by omega)).mv hF4 (by omega)
  have hP : SO h h p 1 0 [.null, .int 0, .int 0] [] := ⟨ho, by simp, by decide, fun _ _ => rfl⟩
  refine x_aload_n dX0_init_0 rfl ?_
  refine x_objInit dX0_init_1 oiX0 k_oi k_oc (by decide) ?_
  refine x_aload_n dX0_init_4 rfl ?_
  refine x_iconst dX0_init_5 ?_
  refine x_newR (n := 5) dX0_init_6 clkX0_9 k_ao rfl (by decide) (by decide) (by decide) ?_
  have hF1 : Fr h (hU h (p + 1) (xR 3 5 (fun _ => none))) (p + 1) (p + 2) := fun a ha => hU_n (by omega)
  have hR1 : hU h (p + 1) (xR 3 5 (fun _ => none)) (p + 1) = some (xR 3 5 (fun _ => none)) := hU_s _ _ _
  have hP := hP.mv hF1 (by omega)
  generalize hU h (p + 1) (xR 3 5 (fun _ => none)) = hx at *
  refine s_putF dX0_init_9 fX0_11 rfl rfl rfl rfl rfl hP (fun hy hP hF2 => ?_)
  refine x_iconst dX0_init_12 ?_
  refine x_istore_n dX0_init_13 rfl rfl rfl ?_
  exact K 5 0 rfl hy (fun _ => none) hP.st ((hF2 (p + 1) (by omega)).trans hR1) (fun j hj => by omega) (fun j hj => by omega) ((hF1.wd (by omega) (by omega)).tr (hF2.wd (by omega) (by omega)))
theorem c_X8_init {h : AH} {x : Nat} (ho : h x = some (xO 8 [.null, .null, .null, .null, .null, .int 0, .null, .null])) : CC mX8_init 4 106 8597 [.ref x] (x + 1) h (QV (fun h' => OuA h' x ([], [], cs0, 0, cs0) ∧ Fr h h' x (x + 107))) := by
  refine CC.intro [some (.ref x)] pfX8_init rfl rfl ?_
  have hP : SO h h x 1 8 [.null, .null, .null, .null, .null, .int 0, .null, .null] [] := ⟨ho, by simp, by decide, fun _ _ => rfl⟩
  have hG : Fr h h x (x + 107) := Fr.rf
  refine x_aload_n dX8_init_0 rfl ?_
  refine x_objInit dX8_init_1 oiX8 k_oi k_oc (by decide) ?_
  refine x_aload_n dX8_init_4 rfl ?_
  refine s_new dX8_init_5 nX8_7 (by decide) (fun h ho1 hF => ?_)
  have hG := hG.tr (hF.wd (lo' := x) (hi' := x + 107) (by omega) (by omega))
  have hP := hP.mv hF (by omega)
  
  refine x_dup dX8_init_8 rfl ?_
  refine v_In dX8_init_9 lX8_9 (c_X7_init (p := x + 1) ho1) rfl rfl rfl (by decide) (fun h ⟨hT, hF⟩ => ?_)
  have hG := hG.tr (hF.wd (lo' := x) (hi' := x + 107) (by omega) (by omega))
  have hP := hP.mv hF (by omega)
  
  refine s_putF dX8_init_12 fX8_10 rfl rfl rfl rfl rfl hP (fun h hP hF => ?_)
  have hG := hG.tr (hF.wd (lo' := x) (hi' := x + 107) (by omega) (by omega))
  have hP := hP.st
  have hT := hT.mv hF (by omega)
  refine x_aload_n dX8_init_15 rfl ?_
  refine s_new dX8_init_16 nX8_16 (by decide) (fun h ho1 hF => ?_)
  have hG := hG.tr (hF.wd (lo' := x) (hi' := x + 107) (by omega) (by omega))
  have hP := hP.mv hF (by omega)
  have hT := hT.mv hF (by omega)
  refine x_dup dX8_init_19 rfl ?_
  refine v_In dX8_init_20 lX8_18 (c_X4_init (p := x + 3) ho1) rfl rfl rfl (by decide) (fun h ⟨hRe, hF⟩ => ?_)
  have hG := hG.tr (hF.wd (lo' := x) (hi' := x + 107) (by omega) (by omega))
  have hP := hP.mv hF (by omega)
  have hT := hT.mv hF (by omega)
  refine s_putF dX8_init_23 fX8_19 rfl rfl rfl rfl rfl hP (fun h hP hF => ?_)
  have hG := hG.tr (hF.wd (lo' := x) (hi' := x + 107) (by omega) (by omega))
  have hP := hP.st
  have hT := hT.mv hF (by omega)
  have hRe := hRe.mv hF (by omega)
  refine x_aload_n dX8_init_26 rfl ?_
  refine s_new dX8_init_27 nX8_23 (by decide) (fun h ho1 hF => ?_)
  have hG := hG.tr (hF.wd (lo' := x) (hi' := x + 107) (by omega) (by omega))
  have hP := hP.mv hF (by omega)
  have hT := hT.mv hF (by omega)
  have hRe := hRe.mv hF (by omega)
  refine x_dup dX8_init_30 rfl ?_
  refine v_In dX8_init_31 lX8_25 (c_X5_init (p := x + 6) ho1) rfl rfl rfl (by decide) (fun h ⟨hRo, hF⟩ => ?_)
  have hG := hG.tr (hF.wd (lo' := x) (hi' := x + 107) (by omega) (by omega))
  have hP := hP.mv hF (by omega)
  have hT := hT.mv hF (by omega)
  have hRe := hRe.mv hF (by omega)
  refine s_putF dX8_init_34 fX8_26 rfl rfl rfl rfl rfl hP (fun h hP hF => ?_)
  have hG := hG.tr (hF.wd (lo' := x) (hi' := x + 107) (by omega) (by omega))
  have hP := hP.st
  have hT := hT.mv hF (by omega)
  have hRe := hRe.mv hF (by omega)
  have hRo := hRo.mv hF (by omega)
  refine x_aload_n dX8_init_37 rfl ?_
  refine s_new dX8_init_38 nX8_30 (by decide) (fun h ho1 hF => ?_)
  have hG := hG.tr (hF.wd (lo' := x) (hi' := x + 107) (by omega) (by omega))
  have hP := hP.mv hF (by omega)
  have hT := hT.mv hF (by omega)
  have hRe := hRe.mv hF (by omega)
  have hRo := hRo.mv hF (by omega)
  refine x_dup dX8_init_41 rfl ?_
  refine v_I dX8_init_42 lX8_32 (c_X0_init (p := x + 9) ho1) rfl rfl rfl (by decide) (fun h ⟨hHi, hF⟩ => ?_)
  have hG := hG.tr (hF.wd (lo' := x) (hi' := x + 107) (by omega) (by omega))
  have hP := hP.mv hF (by omega)
  have hT := hT.mv hF (by omega)
  have hRe := hRe.mv hF (by omega)
  have hRo := hRo.mv hF (by omega)
  refine s_putF dX8_init_45 fX8_33 rfl rfl rfl rfl rfl hP (fun h hP hF => ?_)
  have hG := hG.tr (hF.wd (lo' := x) (hi' := x + 107) (by omega) (by omega))
  have hP := hP.st
  have hT := hT.mv hF (by omega)
  have hRe := hRe.mv hF (by omega)
  have hRo := hRo.mv hF (by omega)
  have hHi := hHi.mv hF (by omega)
  refine x_aload_n dX8_init_48 rfl ?_
  refine s_new dX8_init_49 nX8_37 (by decide) (fun h ho1 hF => ?_)
  have hG := hG.tr (hF.wd (lo' := x) (hi' := x + 107) (by omega) (by omega))
  have hP := hP.mv hF (by omega)
  have hT := hT.mv hF (by omega)
  have hRe := hRe.mv hF (by omega)
  have hRo := hRo.mv hF (by omega)
  have hHi := hHi.mv hF (by omega)
  refine x_dup dX8_init_52 rfl ?_
  refine v_In dX8_init_53 lX8_39 (c_X6_init (q := x + 71) ho1) rfl rfl rfl (by decide) (fun h ⟨hSp, hF⟩ => ?_)
  have hG := hG.tr (hF.wd (lo' := x) (hi' := x + 107) (by omega) (by omega))
  have hP := hP.mv hF (by omega)
  have hT := hT.mv hF (by omega)
  have hRe := hRe.mv hF (by omega)
  have hRo := hRo.mv hF (by omega)
  have hHi := hHi.mv hF (by omega)
  refine s_putF dX8_init_56 fX8_40 rfl rfl rfl rfl rfl hP (fun h hP hF => ?_)
  have hG := hG.tr (hF.wd (lo' := x) (hi' := x + 107) (by omega) (by omega))
  have hP := hP.st
  have hT := hT.mv hF (by omega)
  have hRe := hRe.mv hF (by omega)
  have hRo := hRo.mv hF (by omega)
  have hHi := hHi.mv hF (by omega)
  have hSp := hSp.mv hF (by omega)
  refine x_aload_n dX8_init_59 rfl ?_
  refine x_iconst dX8_init_60 ?_
  refine s_putz dX8_init_61 fX8_44 (Or.inl rfl) hP rfl (fun h hP hF => ?_)
  have hG := hG.tr (hF.wd (lo' := x) (hi' := x + 107) (by omega) (by omega))
  have hP := hP.st
  have hT := hT.mv hF (by omega)
  have hRe := hRe.mv hF (by omega)
  have hRo := hRo.mv hF (by omega)
  have hHi := hHi.mv hF (by omega)
  have hSp := hSp.mv hF (by omega)
  refine x_aload_n dX8_init_64 rfl ?_
  refine s_new dX8_init_65 nX8_37 (by decide) (fun h ho1 hF => ?_)
  have hG := hG.tr (hF.wd (lo' := x) (hi' := x + 107) (by omega) (by omega))
  have hP := hP.mv hF (by omega)
  have hT := hT.mv hF (by omega)
  have hRe := hRe.mv hF (by omega)
  have hRo := hRo.mv hF (by omega)
  have hHi := hHi.mv hF (by omega)
  have hSp := hSp.mv hF (by omega)
  refine x_dup dX8_init_68 rfl ?_
  refine v_In dX8_init_69 lX8_39 (c_X6_init (q := x + 83) ho1) rfl rfl rfl (by decide) (fun h ⟨hC, hF⟩ => ?_)
  have hG := hG.tr (hF.wd (lo' := x) (hi' := x + 107) (by omega) (by omega))
  have hP := hP.mv hF (by omega)
  have hT := hT.mv hF (by omega)
  have hRe := hRe.mv hF (by omega)
  have hRo := hRo.mv hF (by omega)
  have hHi := hHi.mv hF (by omega)
  have hSp := hSp.mv hF (by omega)
  refine s_putr dX8_init_72 fX8_48 hP rfl (fun h hP hF => ?_)
  have hG := hG.tr (hF.wd (lo' := x) (hi' := x + 107) (by omega) (by omega))
  have hP := hP.st
  have hT := hT.mv hF (by omega)
  have hRe := hRe.mv hF (by omega)
  have hRo := hRo.mv hF (by omega)
  have hHi := hHi.mv hF (by omega)
  have hSp := hSp.mv hF (by omega)
  have hC := hC.mv hF (by omega)
  refine x_aload_n dX8_init_75 rfl ?_
  refine s_new dX8_init_76 nX8_37 (by decide) (fun h ho1 hF => ?_)
  have hG := hG.tr (hF.wd (lo' := x) (hi' := x + 107) (by omega) (by omega))
  have hP := hP.mv hF (by omega)
  have hT := hT.mv hF (by omega)
  have hRe := hRe.mv hF (by omega)
  have hRo := hRo.mv hF (by omega)
  have hHi := hHi.mv hF (by omega)
  have hSp := hSp.mv hF (by omega)
  have hC := hC.mv hF (by omega)
  refine x_dup dX8_init_79 rfl ?_
  refine v_In dX8_init_80 lX8_39 (c_X6_init (q := x + 95) ho1) rfl rfl rfl (by decide) (fun h ⟨hD, hF⟩ => ?_)
  have hG := hG.tr (hF.wd (lo' := x) (hi' := x + 107) (by omega) (by omega))
  have hP := hP.mv hF (by omega)
  have hT := hT.mv hF (by omega)
  have hRe := hRe.mv hF (by omega)
  have hRo := hRo.mv hF (by omega)
  have hHi := hHi.mv hF (by omega)
  have hSp := hSp.mv hF (by omega)
  have hC := hC.mv hF (by omega)
  refine s_putr dX8_init_83 fX8_51 hP rfl (fun h hP hF => ?_)
  have hG := hG.tr (hF.wd (lo' := x) (hi' := x + 107) (by omega) (by omega))
  have hP := hP.st
  have hT := hT.mv hF (by omega)
  have hRe := hRe.mv hF (by omega)
  have hRo := hRo.mv hF (by omega)
  have hHi := hHi.mv hF (by omega)
  have hSp := hSp.mv hF (by omega)
  have hC := hC.mv hF (by omega)
  have hD := hD.mv hF (by omega)
  refine x_widen (nc' := 106) (ns' := 8597) rfl (by decide) ?_
  refine x_vreturn dX8_init_86 rfl ?_
  exact ⟨rfl, ⟨x + 83, x + 95, cs0, hP, hT, hRe, hRo, hHi, hSp, hC, hD, Or.inl ⟨rfl, rfl⟩⟩, hG⟩
