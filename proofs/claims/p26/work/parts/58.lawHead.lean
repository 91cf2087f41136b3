def R_law : String := "CloneOutlineLaw"
def lw_P (b : Addr) (xs : List Int32) (args : Array Value) (s : State) : Prop := args = #[.ref b] ∧ s.IntsAt b xs ∧ xs.length ≤ 260 ∧ (Jvm.Cond.and given_1 narrow_1).before args s = true
def lw_Q (_ : Array Value) (s : State) (o : Outcome) (t : State) : Prop := o = .returned (some (.int 1)) ∧ Framed s o t [] 600000 7302250
def lw_Z (below : List Frame) (a : Array Value) (s : State) : State → Prop := fun t => ∃ o, t.status = .running ∧ Ended t below o ∧ lw_Q a s o t
/-- the law's own end, with 1 on the stack, nothing written that was there before, its room as the claim has it -/
theorem lw_ret {p : Program} {l : Launch} {e : Env} {s : State} {m : MethodId} {below : List Frame} {meth : Method} {c : Code} {b : Nat} (hx : p.tables.exec = Jvm.exec) (hb : c.code = code) (hr : meth.sig.returnType = ret) (hlocks : meth.locks = false) {pc : Nat} {H : Heap} {ls : Array Slot} (hdg : decode code pc = .ok (.ireturn, 1)) : W p l e room_1 s m #[Value.ref b] below meth c H [] 600000 7302250 (lw_Z below #[Value.ref b] s) (F0 m pc ls [.int 1]) := by
  intro T hT X
  obtain ⟨fs, hret, hrun, hended, hW, hframe⟩ := X.leave (v := some (.int 1)) (hlocks := hlocks) (fun h => by rw [hr] at h; cases h)
  have hmeth' : T.vm.method? m = some meth := X.method'
  refine ⟨T.setFrames fs, ?_, .returned (some (.int 1)), hrun, hended, rfl, ⟨_, rfl⟩, hW, hframe⟩
  jvm_step X.here [X.here.top, hx, hb, hdg, hmeth', hr, ret, narrow_b1]
  (try refine ⟨rfl, ?_⟩); (try refine ⟨rfl, ?_⟩)
  first | (intro acts; rw [hret _ acts rfl rfl rfl]) | rw [hret _ _ rfl rfl rfl]
  exact Steps.refl _
/-- what holds at the law's entry: the machine, the code, the tables' words (any of lw_tbl by 'hts w (by decide +kernel)'), the script of L ints xs at the cell b, what the Statement gives of the start (any of its parts by flat_of_before) -/
def lw_At (p : Program) (s : State) (m : MethodId) (meth : Method) (c : Code) (b L : Nat) (xs : Nat → Int32) : Prop :=
  p.tables.exec = Jvm.exec ∧ c.code = code ∧ meth.sig.returnType = ret ∧ c.maxLocals = 12 ∧ s.vm.findClass R_law = some m.cls ∧ (∀ w ∈ lw_tbl, w.before #[Value.ref b] s = true) ∧ va_X b L xs s s.heap ∧ b < s.heap.size ∧ meth.locks = false ∧ (Jvm.Cond.and given_1 narrow_1).before #[Value.ref b] s = true

abbrev mLw (nm : String) : MD := (⟨RL, nm, "([I)Z"⟩, cL_law, 12, ret)
def gLw (b L : Nat) (xs : Nat → Int32) : XG := fun lo _ args s => args = #[Value.ref b] ∧ va_X b L xs s s.heap ∧ b < s.heap.size ∧ lo = s.heap.size
def gCell (b L : Nat) (xs : Nat → Int32) : XG := fun lo _ _ s => va_X b L xs s s.heap ∧ b < lo
def zLw : XZ := fun _ _ below args s => lw_Z below args s
def xBs (lo : Nat) (D : XD) (sz : Nat) (h : AH) (b L : Nat) (xs : Nat → Int32) (U : State) : Prop := xB lo D sz h U ∧ va_X b L xs U U.heap ∧ b < lo
theorem xBs_blind {lo : Nat} {D : XD} {sz : Nat} {h : AH} {b L : Nat} {xs : Nat → Int32} {args : List Value} : FrameBlind (va_Pc args (xBs lo D sz h b L xs)) := fun a U g mk q => by
  obtain ⟨qe0q, q1, q2, q3⟩ := q
  have h1 := xB_blind (lo := lo) (D := D) (sz := sz) (h := h) (args := args) a U g mk ⟨qe0q, q1⟩
  exact ⟨h1.1, h1.2, va_X.moved (u := U) (U := U.calling g mk a) (Vm.Alike.refl U.vm) q2, q3⟩
section
variable {M : MD} {R : Room} {nc ns sz : Nat} {h : AH} {pc pc' : Nat} {ls : List (Option Value)} {st : List Value} {b L : Nat} {xs : Nat → Int32}
theorem x_sldC {Z : XZ} {i v : Int} (hd : decode M.2.1 pc = .ok (.iaload, 1) ∧ pc + 1 = pc') (hv : (xs i.toNat).toInt = v) (hL : L ≤ 260) (h0 : 0 ≤ i) (h1 : i < (L : Int)) (kk : XX M R (gCell b L xs) Z nc ns sz h pc' ls (.int (zI v) :: st)) : XX M R (gCell b L xs) Z nc ns sz h pc ls (.int (zI i) :: .ref b :: st) := by
  intro p l e s m args below meth c lo D H locs la C g hl hh hs hS
  obtain ⟨hd, rfl⟩ := hd
  have g' := g
  obtain ⟨g2, g3⟩ := g'
  have hlo := C.2.2.2.2.2.2.2.2.2.2
  have hr : inR i := ⟨by omega, by omega⟩
  refine va_sld (A := fun q => lo ≤ q) C.1 C.2.1 g2 (by omega) (by omega) hS (zI_vin (by omega) h0 h1) hd ?_
  rw [zI_clamp hr, show xs i.toNat = zI v by rw [← hv]; exact (Int32.ofInt_toInt _).symm]
  exact kk C g hl hh hs hS
theorem x_slenC {Z : XZ} (hd : decode M.2.1 pc = .ok (.arraylength, 1) ∧ pc + 1 = pc') (kk : XX M R (gCell b L xs) Z nc ns sz h pc' ls (.int (zI (L : Int)) :: st)) : XX M R (gCell b L xs) Z nc ns sz h pc ls (.ref b :: st) := by
  intro p l e s m args below meth c lo D H locs la C g hl hh hs hS
  obtain ⟨hd, rfl⟩ := hd
  have g' := g
  obtain ⟨g2, g3⟩ := g'
  have hlo := C.2.2.2.2.2.2.2.2.2.2
  refine va_slen (A := fun q => lo ≤ q) C.1 C.2.1 g2 (by omega) (by omega) hS hd ?_
  rw [← zI_nat]
  exact kk C g hl hh hs hS
end
section
variable {nm : String} {b L : Nat} {xs : Nat → Int32} {nc ns sz : Nat} {h : AH} {pc pc' : Nat} {ls : List (Option Value)} {st : List Value}
theorem x_lwret (hd : decode (mLw nm).2.1 pc = .ok (.ireturn, 1) ∧ pc + 1 = pc') (h1 : nc ≤ 600000) (h2 : ns ≤ 7302250) : XX (mLw nm) room_1 (gLw b L xs) zLw nc ns sz h pc ls [.int (zI 1)] := by
  intro p l e s m args below meth c lo D H locs la C g hl hh hs hS
  obtain ⟨rfl, g2, g3, rfl⟩ := g
  refine va_forget (fun q hq => hS.2.2 q hq) ?_
  refine W.widen (k := 600000) (n := 7302250) h1 h2 ?_
  rw [zI_1]
  exact lw_ret C.1 C.2.1 C.2.2.2.1 C.2.2.2.2.2.2.2.1 hd.1
end
theorem l_S {M M' : MD} {R : Room} {G : XG} {Z : XZ} {nc ns sz d n idx : Nat} {h : AH} {pc pc' : Nat} {ls : List (Option Value)} {st stk As : List Value} {z : Int64} (hd : decode M.2.1 pc = .ok (.invokestatic idx, 3) ∧ pc + 3 = pc') (hm : MS M.1.cls idx M' n) (hc : CC M' d 0 0 As sz h (QL z h)) (hn : As.length = n) (hst : stk = As.reverse ++ st) (hW : Nat.ble (st.map fun v => v.category).sum 8 = true)
    (hR : (d + 1 ≤ R.frames ∧ 8 + (M'.2.2.1 + 11) + 40 * d ≤ R.locals) ∧ nc ≤ R.cells ∧ ns ≤ R.slots)
    (kk : XX M R G Z nc ns sz h pc' ls (.long z :: st)) : XX M R G Z nc ns sz h pc ls stk := c_S hd hm hc hn hst hW hR (fun v h' q => by obtain ⟨rfl, rfl⟩ := q; exact kk)
/-- what cell answers: some int -/
def CCell (b L : Nat) (xs : Nat → Int32) (k : Int) (sz : Nat) (h : AH) : Prop :=
  ∀ (l : Launch) (lo : Nat) (D : XD), Met l mL_cell.1 (Cond.code mL_cell.1 mL_cell.2.1 mL_cell.2.2.1 mL_cell.2.2.2 :: TG) (xrm 0 0 0) (va_Pc [.ref b, .int (zI k)] (xBs lo D sz h b L xs)) (xQ lo D 0 (QI (fun _ h' => h' = h))) 0 0 (fun q => lo ≤ q)
theorem c_L_cell (sz : Nat) (h : AH) {b L : Nat} {xs : Nat → Int32} (hL : L ≤ 260) {k : Int} (h0 : 0 ≤ k) (hk : k < 1000) : CCell b L xs k sz h := by
  intro l lo D
  refine Met.ofWF (cc := mL_cell.2.1) (maxL := mL_cell.2.2.1) (ret := mL_cell.2.2.2) pfL_cell rfl ?_
  intro p e s m ar below meth c s₁ B hml hv
  obtain ⟨rfl, ⟨hsz, hh, hK, hNW, hlo⟩, hX, hbl⟩ := hv
  have hts := atoms_spec (ws := Cond.code mL_cell.1 mL_cell.2.1 mL_cell.2.2.1 mL_cell.2.2.2 :: TG) B.pre
  have C : Cx mL_cell lo D p s m ([Value.ref b, .int (zI k)] : List Value).toArray meth c := ⟨B.exec, B.bytes, hml, B.returns, findClass_of_methodNamed B.named, fun w hw => hts w (List.mem_cons_of_mem _ hw), hNW, B.notSynchronized, (name_of_methodNamed B.named B.method).1, hK, by rw [hsz]; exact hlo⟩
  have hl := lv_entry ([Value.ref b, .int (zI k)] : List Value) (n := mL_cell.2.2.1) (Nat.ble_eq.mp rfl)
  rw [lg_entry_eq]
  have kk : XX mL_cell (xrm 0 0 0) (gCell b L xs) (zMet (QI (fun _ h' => h' = h)) 0 0) 0 0 sz h 0 [some (.ref b), some (.int (zI k))] [] := by
    refine x_iload_n dL_cell_0 rfl ?_
    refine x_aload_n dL_cell_1 rfl ?_
    refine x_slenC dL_cell_2 ?_
    refine x_icmp_ge dL_cell_3 ⟨by omega, by omega⟩ ⟨by omega, by omega⟩ (fun qc3q => ?_) (fun qc3q => ?_)
    · refine x_ldc (v := 2660009) dL_cell_12 kL_7 ?_
      rw [show (2660009 : Int32) = zI 2660009 by decide]
      refine x_iload_n dL_cell_14 rfl ?_
      refine x_imul dL_cell_15 ?_
      refine x_sipush dL_cell_16 (by decide) ?_
      refine x_iadd dL_cell_19 ?_
      refine x_ireturn dL_cell_20 rfl ?_
      exact ⟨_, rfl, rfl⟩
    · refine x_aload_n dL_cell_6 rfl ?_
      refine x_iload_n dL_cell_7 rfl ?_
      refine x_sldC dL_cell_8 rfl hL h0 (by omega) ?_
      refine x_goto dL_cell_9 ?_
      refine x_ireturn dL_cell_20 rfl ?_
      exact ⟨_, rfl, rfl⟩
  exact kk C ⟨hX, hbl⟩ (xhas.of hl (fun q hq => hq)) hh ⟨hsz, by omega⟩ va_S.rf
theorem x_cell {nm : String} {b L : Nat} {xs : Nat → Int32} {Z : XZ} {nc ns sz : Nat} {h : AH} {pc pc' : Nat} {ls : List (Option Value)} {st : List Value} {k : Int} {idx n : Nat} (hd : decode (mLw nm).2.1 pc = .ok (.invokestatic idx, 3) ∧ pc + 3 = pc') (hm : MS RL idx mL_cell n) (hn : 2 = n) (hc : CCell b L xs k sz h) (hW : Nat.ble (st.map fun v => v.category).sum 8 = true) (hnc : nc ≤ 600000) (hns : ns ≤ 7302250)
    (kk : ∀ z : Int, XX (mLw nm) room_1 (gLw b L xs) Z nc ns sz h pc' ls (.int (zI z) :: st)) : XX (mLw nm) room_1 (gLw b L xs) Z nc ns sz h pc ls (.int (zI k) :: .ref b :: st) := by
  intro p l e s m args below meth c lo D H locs la C g hl hh hs hS
  obtain ⟨hd, rfl⟩ := hd
  obtain ⟨⟨m1, m2, m3, m4, m5⟩, m7⟩ := hm
  have g' := g
  obtain ⟨g1, g2, g3, g4⟩ := g'
  have hts := C.2.2.2.2.2.1
  have hpre : ∀ U : State, U.heap = H → s.WarmedH U.vm → va_Pc [.ref b, .int (zI k)] (xBs lo D sz h b L xs) ([Value.ref b, .int (zI k)] : List Value).toArray U := fun U hU hW2 => by
    have h1 := x_pre (As := [.ref b, .int (zI k)]) C hh hs.1 hS U hU hW2
    refine ⟨h1.1, h1.2, ?_, by rw [g4]; exact g3⟩
    rw [hU]
    exact va_X.moved hW2.alike (va_X.kept g2 (hS.2.1 b g3 (by rw [g4]; exact Nat.not_le.mpr g3)))
  refine x_back (va_runS (Ts := TG) (own := (mLw nm).1.cls) (As := [.ref b, .int (zI k)]) (rest := st) (g := F0 m pc la (.int (zI k) :: .ref b :: st)) ⟨C.1, C.2.1, C.2.2.1, C.2.2.2.2.1, hts⟩ (hc l lo D) ⟨⟨rfl, rfl, Nat.le_of_ble_eq_true rfl, Nat.le_of_ble_eq_true rfl, x_ws C m3, List.mem_cons_self, hts _ m3, hts _ m2, m4, x_args m5, hts _ m1⟩, hts _ m7⟩ ⟨xBs_blind, hpre⟩ rfl hn hl.1 rfl (lv_room (Nat.ble_eq.mp hW)) hd ⟨hnc, hns⟩) rfl C g hl hs hS (fun v h' q => ?_)
  obtain ⟨z, rfl, rfl⟩ := q
  exact kk z
