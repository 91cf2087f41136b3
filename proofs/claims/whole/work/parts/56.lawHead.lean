def R_law : String := "CloneOutlineLaw"
def lw_P (b : Addr) (xs : List Int32) (args : Array Value) (s : State) : Prop := args = #[.ref b] ∧ s.IntsAt b xs ∧ xs.length ≤ 1536 ∧ (Jvm.Cond.and given_1 narrow_1).before args s = true
def lw_Q (_ : Array Value) (s : State) (o : Outcome) (t : State) : Prop := o = .returned (some (.int 1)) ∧ Framed s o t [] 600000 7302250
def lw_Z (below : List Frame) (a : Array Value) (s : State) : State → Prop := fun t => ∃ o, t.status = .running ∧ Ended t below o ∧ lw_Q a s o t
/-- the law's own end, with 1 on the stack, nothing written that was there before, its room as the claim has it -/
theorem lw_ret {p : Program} {l : Launch} {e : Env} {s : State} {m : MethodId} {below : List Frame} {meth : Method} {c : Code} {b : Nat} (hx : p.tables.exec = Jvm.exec) (hb : c.code = code) (hr : meth.sig.returnType = ret) (hlocks : meth.locks = false) {pc : Nat} {H : Heap} {ls : Array Slot} (hdg : decode code pc = .ok (.ireturn, 1)) : W p l e room_1 s m #[Value.ref b] below meth c H [] 600000 7302250 (lw_Z below #[Value.ref b] s) (F0 m pc ls [.int 1]) := by
  intro T hT X
  obtain ⟨fs, hret, hrun, hended, hW, hframe⟩ := X.leave (v := some (.int 1)) (hlocks := hlocks) (fun h => by rw [hr] at h; cases h)
  have hmeth' : T.vm.method? m = some meth := X.method'
  refine ⟨T.setFrames fs, ?_, .returned (some (.int 1)), hrun, hended, rfl, ⟨_, rfl⟩, hW, hframe⟩
  jvm_step X.here [X.here.top, hx, hb, hdg, hmeth', hr, ret, narrow_b1]
  (try refine ⟨rfl, ?_⟩); (try refine ⟨rfl, ?_⟩)
  first | (intro acts; rw [hret _ acts rfl rfl rfl]) | rw [hret _ _ rfl rfl rfl]
  exact Steps.refl _
/-- what holds at the law's entry: the machine, the code, the tables' words (any of lw_tbl by 'hts w (by decide +kernel)'), the script of L ints xs at the cell b, what the Statement gives of the start (any of its parts by flat_of_before) -/
def lw_At (p : Program) (s : State) (m : MethodId) (meth : Method) (c : Code) (b L : Nat) (xs : Nat → Int32) : Prop :=
  p.tables.exec = Jvm.exec ∧ c.code = code ∧ meth.sig.returnType = ret ∧ c.maxLocals = 4 ∧ s.vm.findClass R_law = some m.cls ∧ (∀ w ∈ lw_tbl, w.before #[Value.ref b] s = true) ∧ va_X b L xs s s.heap ∧ b < s.heap.size ∧ meth.locks = false ∧ (Jvm.Cond.and given_1 narrow_1).before #[Value.ref b] s = true

abbrev mLw (nm : String) : MD := (⟨RL, nm, "([I)Z"⟩, cL_law, 4, ret)
def gLw (b L : Nat) (xs : Nat → Int32) : XG := fun lo _ args s => args = #[Value.ref b] ∧ va_X b L xs s s.heap ∧ b < s.heap.size ∧ lo = s.heap.size
def zLw : XZ := fun _ _ below args s => lw_Z below args s
section
variable {nm : String} {b L : Nat} {xs : Nat → Int32} {nc ns sz : Nat} {h : AH} {pc pc' : Nat} {ls : List (Option Value)} {st : List Value}
theorem x_sld {Z : XZ} {i v : Int} (hd : decode (mLw nm).2.1 pc = .ok (.iaload, 1) ∧ pc + 1 = pc') (hv : (xs i.toNat).toInt = v) (hL : L ≤ 1536) (h0 : 0 ≤ i) (h1 : i < (L : Int)) (kk : XX (mLw nm) room_1 (gLw b L xs) Z nc ns sz h pc' ls (.int (zI v) :: st)) : XX (mLw nm) room_1 (gLw b L xs) Z nc ns sz h pc ls (.int (zI i) :: .ref b :: st) := by
  intro p l e s m args below meth c lo D H locs la C g hl hh hs hS
  obtain ⟨hd, rfl⟩ := hd
  have g' := g
  obtain ⟨g1, g2, g3, g4⟩ := g'
  have hr : inR i := ⟨by omega, by omega⟩
  refine va_sld (A := fun q => lo ≤ q) C.1 C.2.1 g2 g3 (by rw [g4]; exact Nat.not_le.mpr g3) hS (zI_vin (by omega) h0 h1) hd ?_
  rw [zI_clamp hr, show xs i.toNat = zI v by rw [← hv]; exact (Int32.ofInt_toInt _).symm]
  exact kk C g hl hh hs hS
theorem x_slen {Z : XZ} (hd : decode (mLw nm).2.1 pc = .ok (.arraylength, 1) ∧ pc + 1 = pc') (kk : XX (mLw nm) room_1 (gLw b L xs) Z nc ns sz h pc' ls (.int (zI (L : Int)) :: st)) : XX (mLw nm) room_1 (gLw b L xs) Z nc ns sz h pc ls (.ref b :: st) := by
  intro p l e s m args below meth c lo D H locs la C g hl hh hs hS
  obtain ⟨hd, rfl⟩ := hd
  have g' := g
  obtain ⟨g1, g2, g3, g4⟩ := g'
  refine va_slen (A := fun q => lo ≤ q) C.1 C.2.1 g2 g3 (by rw [g4]; exact Nat.not_le.mpr g3) hS hd ?_
  rw [← zI_nat]
  exact kk C g hl hh hs hS
theorem x_lwret (hd : decode (mLw nm).2.1 pc = .ok (.ireturn, 1) ∧ pc + 1 = pc') (h1 : nc ≤ 600000) (h2 : ns ≤ 7302250) : XX (mLw nm) room_1 (gLw b L xs) zLw nc ns sz h pc ls [.int (zI 1)] := by
  intro p l e s m args below meth c lo D H locs la C g hl hh hs hS
  obtain ⟨rfl, g2, g3, rfl⟩ := g
  refine va_forget (fun q hq => hS.2.2 q hq) ?_
  refine W.widen (k := 600000) (n := 7302250) h1 h2 ?_
  rw [zI_1]
  exact lw_ret C.1 C.2.1 C.2.2.2.1 C.2.2.2.2.2.2.2.1 hd.1
theorem x_same {M : MD} {R : Room} {G : XG} {Z : XZ} {z : Int} {off : Int} {tgt : Nat} (hd : decode M.2.1 pc = .ok (.if_icmp .eq off, 3) ∧ pc + 3 = pc' ∧ ((pc : Nat) : Int) + off = ((tgt : Nat) : Int)) (kt : XX M R G Z nc ns sz h tgt ls st) : XX M R G Z nc ns sz h pc ls (.int (zI z) :: .int (zI z) :: st) := by
  intro p l e s m args below meth c lo D H locs la C g hl hh hs hS
  obtain ⟨hd, rfl, ht⟩ := hd
  exact lv_icmp_eq C.1 C.2.1 hd ht (fun q => kt C g hl hh hs hS) (fun q => absurd rfl q)
end
theorem and31 (y : Int32) : ∃ n : Int, 0 ≤ n ∧ n ≤ 31 ∧ y &&& zI 31 = zI n := by
  have e2 : y.toBitVec.toNat &&& 31 ≤ 31 := Nat.and_le_right
  refine ⟨((y.toBitVec.toNat &&& 31 : Nat) : Int), by omega, by omega, ?_⟩
  rw [zI_nat]
  apply Int32.toBitVec_inj.mp
  apply BitVec.eq_of_toNat_eq
  rw [Int32.toBitVec_and, BitVec.toNat_and]
  have e1 : (zI 31).toBitVec.toNat = 31 := by decide
  rw [e1]
  show _ = (BitVec.ofNat 32 (y.toBitVec.toNat &&& 31)).toNat
  rw [BitVec.toNat_ofNat, Nat.mod_eq_of_lt (by omega)]
theorem chr_of (y : Int32) : ∃ ch : Int, (0 ≤ ch ∧ ch < 65536) ∧ (y.toUInt32 % 65536).toInt32 = zI ch := by
  refine ⟨((y.toBitVec.toNat % 65536 : Nat) : Int), ⟨by omega, by omega⟩, ?_⟩
  rw [zI_nat]
  exact pk_char y
/-- the start of the model -/
theorem MoC.zero : MoC mw0 (fun _ => 0) ([], [], cs0, 0, cs0) := by
  refine ⟨⟨rfl, ⟨rfl, fun k hk => by simp at hk⟩, fun y hy => ?_, fun y hy => ?_, fun y h1 h2 => ?_⟩, fun j S hS => by simp at hS, rfl, rfl, fun q => absurd rfl q, rfl, fun i hi => by simp at hi⟩
  · have h2 : y ≤ 0 := hy
    have h3 : y = 0 := by omega
    subst h3
    rw [if_pos (Or.inl rfl)]
    rfl
  · have h2 : y ≤ 0 := hy
    have h3 : y = 0 := by omega
    subst h3
    exact ⟨rfl, fun j hj => by simp [kid_nil] at hj⟩
  · have h3 : y ≤ 0 := h2
    omega
theorem InvS.zero : InvS cs0 := ⟨⟨by decide, ⟨fun _ => 0, fun y z hz => by cases hz⟩, fun y => List.nodup_nil, fun y z hz => by cases hz⟩, rfl⟩
theorem InvA.zero : InvA ([], [], cs0, 0, cs0) := ⟨by decide, InvS.zero, InvS.zero, fun S hS => by cases hS⟩
