section
variable {M : MD} {R : Room} {G : XG} {Z : XZ} {nc ns sz : Nat} {h : AH} {pc pc' : Nat} {ls : List (Option Value)} {st : List Value}
theorem x_alen {a n t : Nat} {f : Nat → Int} (hd : decode M.2.1 pc = .ok (.arraylength, 1) ∧ pc + 1 = pc') (he : h a = some (xZ t n f)) (ht : Nat.blt t 3 = true) (kk : XX M R G Z nc ns sz h pc' ls (.int (zI (n : Int)) :: st)) : XX M R G Z nc ns sz h pc ls (.ref a :: st) := by
  intro p l e s m args below meth c lo D H locs la C g hl hh hs hS
  obtain ⟨hd, rfl⟩ := hd
  obtain ⟨ws, p1, p2, p3⟩ := hh.get
  obtain ⟨q0, hq⟩ := p3 a _ he
  have ht' : t < 3 := Nat.blt_eq.mp ht
  have key : ∃ ty, (xty D)[t]? = some (D.2 t, ty) := by
    rcases (show t = 0 ∨ t = 1 ∨ t = 2 by omega) with rfl | rfl | rfl
    · exact ⟨_, rfl⟩
    · exact ⟨_, rfl⟩
    · exact ⟨_, rfl⟩
  obtain ⟨ty, hty⟩ := key
  exact va_alen C.1 C.2.1 C.2.2.2.2.2.2.2.2.2.1 p1 q0 t hq hty (zI_nat n).symm hd (kk C g hl hh hs hS)
theorem x_aald {a n b : Nat} {f : Nat → Option Nat} {i : Int} (hd : decode M.2.1 pc = .ok (.aaload, 1) ∧ pc + 1 = pc') (he : h a = some (xR 3 n f)) (hN : Nat.blt n 2147483648 = true) (h0 : 0 ≤ i) (h1 : i < (n : Int)) (hb : f i.toNat = some b) (kk : XX M R G Z nc ns sz h pc' ls (.ref b :: st)) : XX M R G Z nc ns sz h pc ls (.int (zI i) :: .ref a :: st) := by
  intro p l e s m args below meth c lo D H locs la C g hl hh hs hS
  obtain ⟨hd, rfl⟩ := hd
  obtain ⟨ws, p1, p2, p3⟩ := hh.get
  obtain ⟨q0, hq⟩ := p3 a _ he
  have hN' : n < 2147483648 := Nat.blt_eq.mp hN
  refine va_aldq C.1 C.2.1 C.2.2.2.2.2.2.2.2.2.1 p1 q0 3 hq (xty_3 D) (zI_vin hN' h0 h1) hd ?_
  rw [zI_clamp ⟨by omega, by omega⟩, hb]
  exact kk C g hl hh hs hS
theorem x_aast {a n b : Nat} {f : Nat → Option Nat} {fs : List Value} {i : Int} (hd : decode M.2.1 pc = .ok (.aastore, 1) ∧ pc + 1 = pc') (he : h a = some (xR 3 n f)) (hN : Nat.blt n 2147483648 = true) (h0 : 0 ≤ i) (h1 : i < (n : Int)) (hb : h b = some (xO 6 fs)) (kk : XX M R G Z nc ns sz (hU h a (xR 3 n (va_up f i.toNat (some b)))) pc' ls st) : XX M R G Z nc ns sz h pc ls (.ref b :: .int (zI i) :: .ref a :: st) := by
  intro p l e s m args below meth c lo D H locs la C g hl hh hs hS
  obtain ⟨hd, rfl⟩ := hd
  obtain ⟨ws, p1, p2, p3⟩ := hh.get
  obtain ⟨q0, hq⟩ := p3 a _ he
  obtain ⟨qk, hqk⟩ := p3 b _ hb
  have hN' : n < 2147483648 := Nat.blt_eq.mp hN
  have hin := zI_vin hN' h0 h1
  have hci : (zI i).toNatClampNeg = i.toNat := zI_clamp ⟨by omega, by omega⟩
  have hK := C.2.2.2.2.2.2.2.2.2.1
  have hlt : (zI i).toNatClampNeg < n := Nat.not_le.mp fun q => hin (Or.inr q)
  have hn0 : ¬ zI i < 0 := fun q => hin (Or.inl q)
  obtain ⟨r', hr', cellV, g1, g2, g3, -⟩ := p1 qk _ hqk
  have hcls := (hK.1 6 (RX6, TX6, 3) rfl).2
  obtain ⟨kA, comp, k1, k2, k3, -⟩ := (hK.2 3 _ (xty_3 D)).2
  have hcomp : comp = D.1.1 6 := Option.some.inj (k3.symm.trans hcls.1)
  subst hcomp
  obtain ⟨kC, hkC, -⟩ := hcls.2
  refine W.aast C.1 C.2.1 (p1 q0 _ hq) (fun q h => by cases h) (fun h => by cases h) k1 k2 rfl hkC ⟨hn0, by show _ < (arrV _ _ _).slots.size; rw [arrV_size]; exact hlt⟩ g1 (fun q h => by rw [g3] at h; cases h) (by rw [g2]; exact hkC) (by rw [g2]; exact va_assign hcls) rfl rfl hd fun H1 e z oq => ?_
  refine kk C g hl (HR.set (e := xR 3 n (va_up f i.toNat (some b))) hq p3 (p1.set p2 hq ?_ oq) (p2.set hq)) ⟨z.trans hs.1, hs.2⟩ (hS.put z oq (p2.2 q0 _ hq))
  show H1[a]? = some (vp_cell _ _)
  rw [e]
  rw [vp_cell_q, vp_cell_q, arrV_store]
  congr 2
  funext q
  rw [hci]
  by_cases hq : q = i.toNat
  · subst hq
    simp [updV, va_up, va_rf]
  · simp [updV, va_up, hq]
/-- System.arraycopy(src, 0, dst, 0, n) of int rows -/
theorem x_copy {idx a0 a n0 n1 : Nat} {f f1 : Nat → Int} {n : Int} (hd : decode M.2.1 pc = .ok (.invokestatic idx, 3) ∧ pc + 3 = pc') (hml : Cond.methodLink M.1.cls idx arraycopyName ∈ TG) (hnat : Cond.native arraycopyName ∈ TG) (hsta : Cond.static arraycopyName ∈ TG) (hini : Cond.initialized "java/lang/System" ∈ TG) (ha0 : h a0 = some (xZ 0 n0 f)) (ha1 : h a = some (xZ 0 n1 f1)) (hN : Nat.blt n0 2147483648 = true) (hn : 0 ≤ n) (h4 : n ≤ n0) (h5 : n ≤ n1)
    (hR : 1 ≤ R.frames ∧ (st.map fun v => v.category).sum + (nativeFrameWords "java/lang/System" "arraycopy" 5 + 11) ≤ R.locals)
    (kk : XX M R G Z nc ns sz (hU h a (xZ 0 n1 (zC f f1 n.toNat))) pc' ls st) : XX M R G Z nc ns sz h pc ls (.int (zI n) :: .int (zI 0) :: .ref a :: .int (zI 0) :: .ref a0 :: st) := by
  intro p l e s m args below meth c lo D H locs la C g hl hh hs hS
  obtain ⟨hd, rfl⟩ := hd
  obtain ⟨ws, p1, p2, p3⟩ := hh.get
  obtain ⟨q0, hq0⟩ := p3 a0 _ ha0
  obtain ⟨q1, hq1⟩ := p3 a _ ha1
  have hN' : n0 < 2147483648 := Nat.blt_eq.mp hN
  have hK := C.2.2.2.2.2.2.2.2.2.1
  have hts := C.2.2.2.2.2.1
  have hrn : inR n := ⟨by omega, by omega⟩
  have c0 : (zI 0).toNatClampNeg = 0 := by decide
  have cn : (zI n).toNatClampNeg = n.toNat := zI_clamp hrn
  have t0 : (zI 0).toInt = 0 := by decide
  have tn : (zI n).toInt = n := zI_toInt hrn
  have z0 : ¬ zI 0 < 0 := by decide
  have zn : ¬ zI n < 0 := by
    rw [← zI_0, zI_lt hrn ⟨by decide, by decide⟩]
    omega
  intro T hT X
  have hc0 : H[a0]? = some (vp_cell (D.2 0) (n0, .inl (fun j => zI (f j)))) := p1 q0 _ hq0
  have hc1 : H[a]? = some (vp_cell (D.2 0) (n1, .inl (fun j => zI (f1 j)))) := p1 q1 _ hq1
  obtain ⟨-, k0, hk0, cm0, hkk0⟩ := (hK.2 0 _ (xty_0 D)).1 n0 (fun j => .int (zI (f j)))
  obtain ⟨-, k1, hk1, cm1, hkk1⟩ := (hK.2 0 _ (xty_0 D)).1 n1 (fun j => .int (zI (f1 j)))
  obtain ⟨vm', X', step⟩ := X.arraycopy C.1 C.2.2.2.2.1 (hts _ hml) (hts _ hnat) (hts _ hsta) (hts _ hini) (src := a0) (dst := a) (cs := vp_cell (D.2 0) (n0, .inl (fun j => zI (f j)))) (cd := vp_cell (D.2 0) (n1, .inl (fun j => zI (f1 j)))) (srcPos := zI 0) (destPos := zI 0) (n := zI n) (by rw [hT]; exact hc0) (by rw [hT]; exact hc1)
    (fun _ h => by cases h) (fun _ h => by cases h) (fun h => by cases h) (fun h => by cases h) hk0 hk1 hkk0 hkk1 (by simp [refKind]) z0 z0 zn
    (by rw [t0, tn]; show ¬ _ > ((arrV (D.2 0) n0 (fun j => .int (zI (f j)))).slots.size : Int); rw [arrV_size]; omega)
    (by rw [t0, tn]; show ¬ _ > ((arrV (D.2 0) n1 (fun j => .int (zI (f1 j)))).slots.size : Int); rw [arrV_size]; omega)
    (fun vm₁ _ i hi => by
      have e : (vp_cell (D.2 0) (n0, .inl (fun j => zI (f j)))).slots.getD ((zI 0).toNatClampNeg + i) .null = .int (zI (f ((zI 0).toNatClampNeg + i))) := by
        show (arrV (D.2 0) n0 (fun j => .int (zI (f j)))).slots.getD _ _ = _
        rw [Array.getD_eq_getD_getElem?, arrV_read _ _ (by rw [c0]; rw [cn] at hi; omega)]
        rfl
      refine ⟨?_, ?_⟩
      · rw [e]
        rfl
      · rw [e]
        exact trivial)
    (g := F0 m pc la (.int (zI n) :: .int (zI 0) :: .ref a :: .int (zI 0) :: .ref a0 :: st)) rfl (by rw [C.2.2.1]; exact hl.1) (rest := st) rfl (by rw [C.2.1]; exact hd) hR.1 (by show 2 * 0 + _ + _ ≤ _; omega)
  have e1 : copied (vp_cell (D.2 0) (n0, .inl (fun j => zI (f j)))) (vp_cell (D.2 0) (n1, .inl (fun j => zI (f1 j)))) (zI 0) (zI 0) (zI n) = vp_cell (D.2 0) (n1, .inl (fun j => zI (zC f f1 n.toNat j))) := by
    have q := va_copied (fun z => .int z) (D.2 0) (D.2 0) (n0 := n0) (n1 := n1) (sp := (zI 0).toNatClampNeg) (dp := (zI 0).toNatClampNeg) (n := (zI n).toNatClampNeg) (fun j => zI (f j)) (fun j => zI (f1 j)) (by rw [c0, cn]; omega)
    refine Eq.trans q ?_
    rw [c0, cn]
    show _ = arrV _ _ (fun j => Value.int (zI (zC f f1 n.toNat j)))
    congr 1
    funext j
    unfold va_cpy zC
    by_cases hj : j < n.toNat
    · simp [hj]
    · simp [hj]
  rw [e1] at X' step
  have hlt : a < H.size := (Array.getElem?_eq_some_iff.mp hc1).1
  have hheap : ((T.setVm vm').setCell a (vp_cell (D.2 0) (n1, .inl (fun j => zI (zC f f1 n.toNat j))))).heap = H.setIfInBounds a (vp_cell (D.2 0) (n1, .inl (fun j => zI (zC f f1 n.toNat j)))) := by rw [← hT]; rfl
  have oq : ∀ q : Nat, q ≠ a → (H.setIfInBounds a (vp_cell (D.2 0) (n1, .inl (fun j => zI (zC f f1 n.toNat j)))))[q]? = H[q]? := fun q hq => by simp [Array.getElem?_setIfInBounds, Ne.symm hq]
  obtain ⟨t, a1, b1⟩ := kk C g hl (HR.set (e := xZ 0 n1 (zC f f1 n.toNat)) hq1 p3 (p1.set p2 hq1 (show (H.setIfInBounds a _)[a]? = some _ by simp [Array.getElem?_setIfInBounds, hlt]) oq) (p2.set hq1)) ⟨by simp; exact hs.1, hs.2⟩ ⟨by simp; exact hS.1, fun q g1 g2 => by
      rw [oq q (fun e => g2 (by rw [e]; exact p2.2 q1 _ hq1))]
      exact hS.2.1 q g1 g2, fun q hq => by
      rcases List.mem_append.mp hq with h | h
      · exact hS.2.2 q h
      · obtain ⟨z, -, hz⟩ := List.mem_map.mp h
        rw [← hz]
        exact p2.2 q1 _ hq1⟩ _ hheap X'
  exact ⟨t, step t a1, b1⟩
-- new cells
theorem x_newa {n : Nat} {t : Nat} {at0 : ArrayType} {ty : FieldType} {z : Int} (hd : decode M.2.1 pc = .ok (.newarray at0, 2) ∧ pc + 2 = pc') (hac : Cond.arrayClass ty ∈ TG) (hty : newarray.typeOf at0 = ty) (ht : ∀ D : XD, (xty D)[t]? = some (D.2 t, ty)) (hp : ∀ C, ty ≠ .object C) (hdv : defaultValue ty = .int 0) (hz : z = (n : Int)) (hn : n < 2147483648) (hb : n * componentBytes ty ≤ 536870912) (hR : nc + 1 ≤ R.cells ∧ ns + n ≤ R.slots)
    (kk : XX M R G Z (nc + 1) (ns + n) (sz + 1) (hU h sz (xZ t n (fun _ => 0))) pc' ls (.ref sz :: st)) : XX M R G Z nc ns sz h pc ls (.int (zI z) :: st) := by
  intro p l e s m args below meth c lo D H locs la C g hl hh hs hS
  obtain ⟨hd, rfl⟩ := hd
  subst hz
  have hK := C.2.2.2.2.2.2.2.2.2.1
  have hts := C.2.2.2.2.2.1
  have hr : inR (n : Int) := ⟨by omega, by omega⟩
  refine va_newaK C.1 C.2.1 (by rw [hty]; exact hts _ hac) rfl hd rfl (by rw [← zI_0, zI_lt hr ⟨by decide, by decide⟩]; omega) (by rw [zI_clamp hr]; exact Int.toNat_natCast n) (by rw [hty]; exact hb) hR.1 hR.2 hs.1 fun H' cA e1 z1 o1 hAr hnm => ?_
  have hcA : cA = D.2 t := by
    have h2 := (hK.2 t _ (ht D)).2
    rw [hty] at hnm
    cases ty with
    | object Cc => exact absurd rfl (hp Cc)
    | _ => exact Option.some.inj (hnm.symm.trans h2)
  subst hcA
  have hlo : lo ≤ sz := by
    rw [← hs.1]
    exact Nat.le_trans C.2.2.2.2.2.2.2.2.2.2 hS.1
  refine kk C g hl (hh.push (xZ t n (fun _ => 0)) hs.1 hlo o1 ?_) ⟨z1, by rw [← hs.2]; omega⟩ ⟨by rw [z1, ← hs.1]; exact Nat.le_succ_of_le hS.1, fun q h1 h2 => (o1 q (by rw [← hs.1]; exact Nat.lt_of_lt_of_le h1 hS.1)).trans (hS.2.1 q h1 h2), hS.2.2⟩
  show H'[sz]? = some (vp_cell _ _)
  rw [e1, hty, hdv, ← zI_0]
  rfl
theorem x_newR {n : Nat} {idx : Nat} {z : Int} (hd : decode M.2.1 pc = .ok (.anewarray idx, 3) ∧ pc + 3 = pc') (hcl : Cond.classLink M.1.cls idx "CloneOutline$State" ∈ TG) (hov : Cond.arrayOver (.object "CloneOutline$State") ∈ NW) (hz : z = (n : Int)) (hn : n < 2147483648) (hb : n * 4 ≤ 536870912) (hR : nc + 1 ≤ R.cells ∧ ns + n ≤ R.slots)
    (kk : XX M R G Z (nc + 1) (ns + n) (sz + 1) (hU h sz (xR 3 n (fun _ => none))) pc' ls (.ref sz :: st)) : XX M R G Z nc ns sz h pc ls (.int (zI z) :: st) := by
  intro p l e s m args below meth c lo D H locs la C g hl hh hs hS
  obtain ⟨hd, rfl⟩ := hd
  subst hz
  have hK := C.2.2.2.2.2.2.2.2.2.1
  have hts := C.2.2.2.2.2.1
  have hr : inR (n : Int) := ⟨by omega, by omega⟩
  have hcn : (zI (n : Int)).toNatClampNeg = n := by rw [zI_clamp hr]; exact Int.toNat_natCast n
  refine W.anew C.1 C.2.1 C.2.2.2.2.1 (hts _ hcl) (va_AO.use (C.2.2.2.2.2.2.1 _ hov)) rfl hd rfl (by rw [← zI_0, zI_lt hr ⟨by decide, by decide⟩]; omega) (by rw [hcn]; exact hb) hR.1 (by rw [hcn]; exact hR.2) fun cA kA comp f1 f2 f3 f4 => ?_
  rw [hcn]
  have hcA : cA = D.2 3 := by
    obtain ⟨kA', comp', g1, g2, g3, g4⟩ := (hK.2 3 _ (xty_3 D)).2
    exact Option.some.inj (f1.symm.trans g4)
  subst hcA
  have hlo : lo ≤ sz := by
    rw [← hs.1]
    exact Nat.le_trans C.2.2.2.2.2.2.2.2.2.2 hS.1
  generalize hH1 : H.push ({ cls := D.2 3, slots := Array.replicate n .null, vm := .none } : Cell) = H1
  have z1 : H1.size = H.size + 1 := by rw [← hH1, Array.size_push]
  have e1 : H1[H.size]? = some (arrV (D.2 3) n (fun _ => .null)) := by rw [← hH1, Array.getElem?_push_size, ← arrV_new]
  have o1 : ∀ q : Nat, q < H.size → H1[q]? = H[q]? := fun q hq => by rw [← hH1, Array.getElem?_push, if_neg (Nat.ne_of_lt hq)]
  rw [hs.1] at z1 e1 o1 ⊢
  refine kk C g hl (hh.push (xR 3 n (fun _ => none)) hs.1 hlo o1 ?_) ⟨z1, by rw [← hs.2]; omega⟩ ⟨by rw [z1, ← hs.1]; exact Nat.le_succ_of_le hS.1, fun q h1 h2 => (o1 q (by rw [← hs.1]; exact Nat.lt_of_lt_of_le h1 hS.1)).trans (hS.2.1 q h1 h2), hS.2.2⟩
  show H1[sz]? = some (vp_cell _ _)
  rw [vp_cell_q]
  exact e1
/-- a class whose objects are made here -/
def NA (own : String) (idx ci : Nat) (fs : List Value) : Prop := ∃ (Cn : String) (T : u_T) (N : Nat) (t0 : Nat → FieldType), xcl[ci]? = some (Cn, T, N) ∧ N = fs.length ∧ Cond.classLink own idx Cn ∈ TG ∧ Cond.instantiable Cn N ∈ TG ∧ Cond.initialized Cn ∈ TG ∧ (∀ w ∈ u_ws Cn T N, w ∈ TG) ∧ (∀ k, k < N → parseFieldDescriptor (T k).2.2.1 = some (t0 k)) ∧ ∀ j, j < N → defaultValue (t0 j) = vp_V fs j
theorem x_new {idx ci : Nat} {fs : List Value} (hd : decode M.2.1 pc = .ok (.new idx, 3) ∧ pc + 3 = pc') (hN : NA M.1.cls idx ci fs) (hR : nc + 1 ≤ R.cells ∧ ns + fs.length ≤ R.slots)
    (kk : XX M R G Z (nc + 1) (ns + fs.length) (sz + 1) (hU h sz (xO ci fs)) pc' ls (.ref sz :: st)) : XX M R G Z nc ns sz h pc ls st := by
  intro p l e s m args below meth c lo D H locs la C g hl hh hs hS
  obtain ⟨hd, rfl⟩ := hd
  obtain ⟨Cn, T, N, t0, n1, rfl, n3, n4, n5, n6, n7, n8⟩ := hN
  have hK := C.2.2.2.2.2.2.2.2.2.1
  have hts := C.2.2.2.2.2.1
  have hKn := hK.1 ci _ n1
  have hlo : lo ≤ sz := by
    rw [← hs.1]
    exact Nat.le_trans C.2.2.2.2.2.2.2.2.2.2 hS.1
  refine W.newcK C.1 C.2.1 C.2.2.2.2.1 (hts _ n3) (hts _ n4) (hts _ n5) rfl hd hR.1 hR.2 hKn.2.1 hs.1 fun H1 kC hkC e1 z1 o1 => ?_
  refine kk C g hl (hh.push (xO ci fs) hs.1 hlo o1 ?_) ⟨z1, by rw [← hs.2]; omega⟩ ⟨by rw [z1, ← hs.1]; exact Nat.le_succ_of_le hS.1, fun q h1 h2 => (o1 q (by rw [← hs.1]; exact Nat.lt_of_lt_of_le h1 hS.1)).trans (hS.2.1 q h1 h2), hS.2.2⟩
  exact ⟨_, n1, (u_born t0 hts n6 hKn hkC e1 n7).to n8⟩
theorem x_objInit {idx a : Nat} (hd : decode M.2.1 pc = .ok (.invokespecial idx, 3) ∧ pc + 3 = pc') (h1 : Cond.methodLink M.1.cls idx objectInit ∈ TG) (h2 : Cond.instanceMethod objectInit ∈ TG) (h3 : Cond.code objectInit ⟨#[0xb1]⟩ 1 none ∈ TG) (hR : 1 ≤ R.frames ∧ (st.map fun v => v.category).sum + 12 ≤ R.locals) (kk : XX M R G Z nc ns sz h pc' ls st) : XX M R G Z nc ns sz h pc ls (.ref a :: st) := by
  intro p l e s m args below meth c lo D H locs la C g hl hh hs hS
  obtain ⟨hd, rfl⟩ := hd
  have hts := C.2.2.2.2.2.1
  exact W.objInit C.1 C.2.1 C.2.2.2.2.1 (hts _ h1) (hts _ h2) (hts _ h3) rfl (by rw [C.2.2.1]; exact hl.1) rfl hd hR.1 (by show 2 * 0 + _ + _ ≤ _; omega) (kk C g hl hh hs hS)
theorem x_widen {nc' ns' : Nat} (h1 : nc = nc') (h2 : ns ≤ ns') (kk : XX M R G Z nc' ns' sz h pc ls st) : XX M R G Z nc ns sz h pc ls st := by
  intro p l e s m args below meth c lo D H locs la C g hl hh hs hS
  subst h1
  exact W.widen (Nat.le_refl _) h2 (kk C g hl hh hs hS)
end
-- a method's start and end
theorem Met.ofWF {l : Launch} {y : MethodName} {ws ws' : List Cond} {rm : Room} {Pc : Array Value → State → Prop} {Qc : Array Value → State → Outcome → State → Prop} {mc ms : Nat} {free : Addr → Prop} {cc : ByteArray} {maxL : Nat} {ret : Option FieldType}
    (hy : plainFor y = true) (hw : ws = Cond.code y cc maxL ret :: ws')
    (body : ∀ p e s m args below meth c s₁, BodyLoose p l y (headSpec ws rm) cc maxL ret e s m args below meth c s₁ → c.maxLocals = maxL → Pc args s →
      W p l e (headSpec ws rm).room s m args below meth c s.heap [] 0 0 (MQ below Qc args s mc ms free) (entryFrame m args maxL)) : Met l y ws rm Pc Qc mc ms free := by
  refine MetFree.of_bodySF (code := cc) (maxLocals := maxL) (ret := ret) hy ?_ ?_
  · intro args s m h hn
    obtain ⟨meth, c, h1, h2, h3, h4, h5, h6, -, -⟩ := Cond.code_spec hn (atoms_spec (ws := ws) h _ (by rw [hw]; exact List.mem_cons_self))
    exact ⟨meth, c, h1, h2, h3, h4, h5, h6⟩
  · intro p e s m args below meth c s₁ B hml hP _
    have hh0 : s₁.heap = s.heap := by rw [B.state]; rfl
    obtain ⟨t, a1, o, b1, b2, b3⟩ := body p e s m args below meth c s₁ B hml hP s₁ hh0 (Stand.of_body B)
    exact ⟨t, o, a1, b1, b2, ⟨b3.1, b3.2⟩⟩
theorem CC.intro {M : MD} {d mc ms : Nat} {args : List Value} {sz : Nat} {h : AH} {Q : Option Value → AH → Prop} (ls : List (Option Value)) (hp : plainFor M.1 = true) (he : xas 0 ls = lv_args 0 args) (hn : Nat.ble (lg_sl args).length M.2.2.1 = true) (kk : XM M d mc ms Q 0 0 sz h 0 ls []) : CC M d mc ms args sz h Q := by
  intro l lo D
  refine Met.ofWF (cc := M.2.1) (maxL := M.2.2.1) (ret := M.2.2.2) hp rfl ?_
  intro p e s m ar below meth c s₁ B hml hv
  obtain ⟨rfl, hsz, hh, hK, hNW, hlo⟩ := hv
  have hts := atoms_spec (ws := Cond.code M.1 M.2.1 M.2.2.1 M.2.2.2 :: TG) B.pre
  have C : Cx M lo D p s m args.toArray meth c := ⟨B.exec, B.bytes, hml, B.returns, findClass_of_methodNamed B.named, fun w hw => hts w (List.mem_cons_of_mem _ hw), hNW, B.notSynchronized, (name_of_methodNamed B.named B.method).1, hK, by rw [hsz]; exact hlo⟩
  have hl := lv_entry args (n := M.2.2.1) (Nat.ble_eq.mp hn)
  rw [lg_entry_eq]
  refine kk C trivial (xhas.of hl (fun q hq => by rw [he] at hq; exact hq)) hh ⟨hsz, by omega⟩ va_S.rf
theorem xQ_end {M : MD} {lo : Nat} {D : XD} {p : Program} {s t : State} {m : MethodId} {args : Array Value} {meth : Method} {c : Code} {H : Heap} {locs : List Loc} {nc sz : Nat} {h : AH} {Q : Option Value → AH → Prop} {v : Option Value} (hh : HR lo D h H) (hs : H.size = sz ∧ s.heap.size + nc = sz) (hS : va_S (fun q => lo ≤ q) s.heap H locs) (hq : Q v h) (ht : t.heap = H) : xQ lo D nc Q args s (.returned v) t := ⟨v, h, rfl, hq, by rw [ht]; exact hh, by rw [ht, hs.1]; exact hs.2.symm, hS.F ht⟩
section
variable {M : MD} {R : Room} {G : XG} {nc ns sz : Nat} {h : AH} {pc pc' : Nat} {ls : List (Option Value)} {Q : Option Value → AH → Prop}
theorem x_ireturn {z : Int} (hd : decode M.2.1 pc = .ok (.ireturn, 1) ∧ pc + 1 = pc') (hr : M.2.2.2 = some .int) (hq : Q (some (.int (zI z))) h) : XX M R G (zMet Q nc ns) nc ns sz h pc ls [.int (zI z)] := by
  intro p l e s m args below meth c lo D H locs la C g hl hh hs hS
  exact W.iret C.1 C.2.1 (C.2.2.2.1.trans hr) (fun t ht hW => xQ_end (M := M) (p := p) (m := m) (meth := meth) (c := c) hh hs hS hq ht) hS.2.2 hd.1 C.2.2.2.2.2.2.2.1
theorem x_zreturn {z : Int} (hd : decode M.2.1 pc = .ok (.ireturn, 1) ∧ pc + 1 = pc') (hr : M.2.2.2 = some .boolean) (hz : z = 0 ∨ z = 1) (hq : Q (some (.int (zI z))) h) : XX M R G (zMet Q nc ns) nc ns sz h pc ls [.int (zI z)] := by
  intro p l e s m args below meth c lo D H locs la C g hl hh hs hS
  exact W.zret C.1 C.2.1 (C.2.2.2.1.trans hr) (by rcases hz with rfl | rfl <;> decide) (fun t ht hW => xQ_end (M := M) (p := p) (m := m) (meth := meth) (c := c) hh hs hS hq ht) hS.2.2 hd.1 C.2.2.2.2.2.2.2.1
theorem x_lreturn {z : Int64} (hd : decode M.2.1 pc = .ok (.lreturn, 1) ∧ pc + 1 = pc') (hr : M.2.2.2 = some .long) (hq : Q (some (.long z)) h) : XX M R G (zMet Q nc ns) nc ns sz h pc ls [.long z] := by
  intro p l e s m args below meth c lo D H locs la C g hl hh hs hS
  exact W.lret C.1 C.2.1 (C.2.2.2.1.trans hr) (fun t ht hW => xQ_end (M := M) (p := p) (m := m) (meth := meth) (c := c) hh hs hS hq ht) hS.2.2 hd.1 C.2.2.2.2.2.2.2.1
theorem x_vreturn (hd : decode M.2.1 pc = .ok (.return_, 1) ∧ pc + 1 = pc') (hr : M.2.2.2 = none) (hq : Q none h) : XX M R G (zMet Q nc ns) nc ns sz h pc ls [] := by
  intro p l e s m args below meth c lo D H locs la C g hl hh hs hS
  exact W.vret C.1 C.2.1 (C.2.2.2.1.trans hr) (fun t ht hW => xQ_end (M := M) (p := p) (m := m) (meth := meth) (c := c) hh hs hS hq ht) hS.2.2 hd.1 C.2.2.2.2.2.2.2.1
end
-- calls
theorem xB_blind {lo : Nat} {D : XD} {sz : Nat} {h : AH} {args : List Value} : FrameBlind (va_Pc args (xB lo D sz h)) := fun a U g mk q => by
  obtain ⟨e0, e1, e2, e3, e4, e5⟩ := q
  refine ⟨e0, e1, e2, va_K.moved (u := U) (U := U.calling g mk a) (Vm.Alike.refl U.vm) e3, fun w hw => ?_, e5⟩
  rcases NW_nest w hw with ⟨a1, i1, x1, h1, rfl⟩ | rfl
  · exact va_Nw.same (u := U) rfl rfl (e4 _ hw)
  · exact va_AO.moved (u := U) (U := U.calling g mk a) (Vm.Alike.refl U.vm) (e4 _ hw)
theorem x_pre {M : MD} {lo : Nat} {D : XD} {p : Program} {s : State} {m : MethodId} {args : Array Value} {meth : Method} {c : Code} {H : Heap} {locs : List Loc} {sz : Nat} {h : AH} {As : List Value} (C : Cx M lo D p s m args meth c) (hh : HR lo D h H) (hs : H.size = sz) (hS : va_S (fun q => lo ≤ q) s.heap H locs) : ∀ U : State, U.heap = H → s.WarmedH U.vm → va_Pc As (xB lo D sz h) As.toArray U := fun U hU hW => ⟨rfl, by rw [hU]; exact hs, by rw [hU]; exact hh, va_K.moved hW.alike C.2.2.2.2.2.2.2.2.2.1, NW_warm hW C.2.2.2.2.2.2.1, by rw [← hs]; exact Nat.le_trans C.2.2.2.2.2.2.2.2.2.2 hS.1⟩
theorem x_ws {M M' : MD} {lo : Nat} {D : XD} {p : Program} {s : State} {m : MethodId} {args : Array Value} {meth : Method} {c : Code} (C : Cx M lo D p s m args meth c) (hc : Cond.code M'.1 M'.2.1 M'.2.2.1 M'.2.2.2 ∈ TG) : ∀ w ∈ (Cond.code M'.1 M'.2.1 M'.2.2.1 M'.2.2.2 :: TG), ∀ (a' : Array Value) (U : State), s.WarmedH U.vm → w.before a' U = true := by
  intro w hw a' U hW
  rcases List.mem_cons.mp hw with rfl | hw
  · exact TG_warm hW C.2.2.2.2.2.1 _ hc
  · exact TG_warm hW C.2.2.2.2.2.1 _ hw
theorem x_args {n : Nat} {y : MethodName} (h : (parseMethodDescriptor y.desc).map (fun d => d.parameters.length) = some n) : ∀ sig, parseMethodDescriptor y.desc = some sig → n = sig.parameters.length := fun sig hs => by
  rw [hs] at h
  exact (Option.some.inj h).symm
section
variable {M M' : MD} {R : Room} {G : XG} {Z : XZ} {nc ns sz mc ms d n idx : Nat} {h : AH} {pc pc' : Nat} {ls : List (Option Value)} {st stk As : List Value} {Q' : Option Value → AH → Prop}
theorem x_back {p : Program} {l : Launch} {e : Env} {s : State} {m : MethodId} {args : Array Value} {below : List Frame} {meth : Method} {c : Code} {H : Heap} {locs : List Loc} {lo : Nat} {D : XD} {la : Array Slot} {a : Array Value} {g0 : JFrame} (hr : va_Run p l e R s m args below meth c H locs nc ns mc ms g0 st (xQ lo D mc Q' a) (fun q => lo ≤ q)) (hg0 : g0 = F0 m pc la stk) (C : Cx M lo D p s m args meth c) (g : G lo D args s) (hl : xhas la M.2.2.1 ls) (hs : H.size = sz ∧ s.heap.size + nc = sz) (hS : va_S (fun q => lo ≤ q) s.heap H locs)
    (kk : ∀ v h', Q' v h' → XX M R G Z (nc + mc) (ns + ms) (sz + mc) h' (pc + 3) ls (v.toList ++ st)) : W p l e R s m args below meth c H locs nc ns (Z lo D below args s) g0 := by
  subst hg0
  intro T hT X
  obtain ⟨v, st₀, t, T', L, e0, X', hL, e1, e2, ⟨v', h', r1, r2, r3, r4, r5⟩, st'⟩ := hr T hT X
  cases r1
  obtain ⟨t2, a1, b1⟩ := kk v h' r2 C g hl (H := T'.heap) (locs := locs ++ L) (by rw [e1]; exact r3) ⟨by rw [e1, r4, e0, hs.1], by rw [← hs.2]; omega⟩ ⟨by rw [e1, r4, e0]; exact Nat.le_trans hS.1 (Nat.le_add_right _ _), fun q h1 h2 => by
      rw [e1, r5.2 q (by rw [e0]; exact Nat.lt_of_lt_of_le h1 hS.1) h2, e0]
      exact hS.2.1 q h1 h2, fun q hq => by
      rcases List.mem_append.mp hq with h | h
      · exact hS.2.2 q h
      · exact hL q h⟩ T' rfl X'
  exact ⟨t2, st' t2 a1, b1⟩
theorem x_callV {a ci : Nat} {fs : List Value} (hd : decode M.2.1 pc = .ok (.invokevirtual idx, 3) ∧ pc + 3 = pc') (hm : MV M.1.cls idx M' n) (hc : CC M' d mc ms (.ref a :: As) sz h Q') (he : h a = some (xO ci fs)) (hci : (xcl[ci]?).map (fun q => q.1) = some M'.1.cls) (hn : As.length = n) (hst : stk = As.reverse ++ .ref a :: st) (hW : Nat.ble (st.map fun v => v.category).sum 8 = true)
    (hR : (d + 1 ≤ R.frames ∧ 8 + (M'.2.2.1 + 11) + 40 * d ≤ R.locals) ∧ nc + mc ≤ R.cells ∧ ns + ms ≤ R.slots)
    (kk : ∀ v h', Q' v h' → XX M R G Z (nc + mc) (ns + ms) (sz + mc) h' pc' ls (v.toList ++ st)) : XX M R G Z nc ns sz h pc ls stk := by
  intro p l e s m args below meth c lo D H locs la C g hl hh hs hS
  obtain ⟨hd, rfl⟩ := hd
  obtain ⟨⟨m1, m2, m3, m4, m5⟩, m7, m8⟩ := hm
  have hts := C.2.2.2.2.2.1
  obtain ⟨ws, p1, p2, p3⟩ := hh.get
  obtain ⟨q0, hq⟩ := p3 a _ he
  obtain ⟨q, hq1, hq2⟩ := Option.map_eq_some_iff.mp hci
  have hrc := va_recv C.2.2.2.2.2.2.2.2.2.1 p1 hq1 hq
  rw [hq2] at hrc
  exact x_back (va_runV (Ts := TG) (own := M.1.cls) (C := M'.1.cls) (b := a) (As := As) (rest := st) (g := F0 m pc la stk) ⟨C.1, C.2.1, C.2.2.1, C.2.2.2.2.1, hts⟩ (hc l lo D) ⟨⟨rfl, rfl, hR.1.1, hR.1.2, x_ws C m3, List.mem_cons_self, hts _ m3, hts _ m2, m4, x_args m5, hts _ m1⟩, hts _ m7, hts _ m8⟩ ⟨xB_blind, hrc, x_pre C hh hs.1 hS⟩ rfl hn hl.1 hst (lv_room (Nat.ble_eq.mp hW)) hd hR.2) rfl C g hl hs hS kk
theorem x_callS (hd : decode M.2.1 pc = .ok (.invokestatic idx, 3) ∧ pc + 3 = pc') (hm : MS M.1.cls idx M' n) (hc : CC M' d mc ms As sz h Q') (hn : As.length = n) (hst : stk = As.reverse ++ st) (hW : Nat.ble (st.map fun v => v.category).sum 8 = true)
    (hR : (d + 1 ≤ R.frames ∧ 8 + (M'.2.2.1 + 11) + 40 * d ≤ R.locals) ∧ nc + mc ≤ R.cells ∧ ns + ms ≤ R.slots)
    (kk : ∀ v h', Q' v h' → XX M R G Z (nc + mc) (ns + ms) (sz + mc) h' pc' ls (v.toList ++ st)) : XX M R G Z nc ns sz h pc ls stk := by
  intro p l e s m args below meth c lo D H locs la C g hl hh hs hS
  obtain ⟨hd, rfl⟩ := hd
  obtain ⟨⟨m1, m2, m3, m4, m5⟩, m7⟩ := hm
  have hts := C.2.2.2.2.2.1
  exact x_back (va_runS (Ts := TG) (own := M.1.cls) (As := As) (rest := st) (g := F0 m pc la stk) ⟨C.1, C.2.1, C.2.2.1, C.2.2.2.2.1, hts⟩ (hc l lo D) ⟨⟨rfl, rfl, hR.1.1, hR.1.2, x_ws C m3, List.mem_cons_self, hts _ m3, hts _ m2, m4, x_args m5, hts _ m1⟩, hts _ m7⟩ ⟨xB_blind, x_pre C hh hs.1 hS⟩ rfl hn hl.1 hst (lv_room (Nat.ble_eq.mp hW)) hd hR.2) rfl C g hl hs hS kk
theorem x_callI {a : Nat} (hd : decode M.2.1 pc = .ok (.invokespecial idx, 3) ∧ pc + 3 = pc') (hm : MI M.1.cls idx M' n) (hc : CC M' d mc ms (.ref a :: As) sz h Q') (hn : As.length = n) (hst : stk = As.reverse ++ .ref a :: st) (hW : Nat.ble (st.map fun v => v.category).sum 8 = true)
    (hR : (d + 1 ≤ R.frames ∧ 8 + (M'.2.2.1 + 11) + 40 * d ≤ R.locals) ∧ nc + mc ≤ R.cells ∧ ns + ms ≤ R.slots)
    (kk : ∀ v h', Q' v h' → XX M R G Z (nc + mc) (ns + ms) (sz + mc) h' pc' ls (v.toList ++ st)) : XX M R G Z nc ns sz h pc ls stk := by
  intro p l e s m args below meth c lo D H locs la C g hl hh hs hS
  obtain ⟨hd, rfl⟩ := hd
  obtain ⟨⟨m1, m2, m3, m4, m5⟩, m7, m8, m9⟩ := hm
  have hts := C.2.2.2.2.2.1
  have hc' := hc l lo D
  rw [m9] at hc' m3
  exact x_back (va_runI (Ts := TG) (own := M.1.cls) (b := a) (As := As) (rest := st) (g := F0 m pc la stk) ⟨C.1, C.2.1, C.2.2.1, C.2.2.2.2.1, hts⟩ hc' ⟨⟨rfl, rfl, hR.1.1, hR.1.2, by have := x_ws C (M' := (M'.1, M'.2.1, M'.2.2.1, none)) m3; exact this, List.mem_cons_self, hts _ m3, hts _ m2, m4, x_args m5, hts _ m1⟩, m8, hts _ m7⟩ ⟨xB_blind, x_pre C hh hs.1 hS⟩ rfl hn hl.1 hst (lv_room (Nat.ble_eq.mp hW)) hd hR.2) rfl C g hl hs hS kk
theorem x_callSn (hd : decode M.2.1 pc = .ok (.invokestatic idx, 3) ∧ pc + 3 = pc') (hm : MSn M.1.cls idx M' n) (hc : CC M' d mc ms As sz h Q') (hn : As.length = n) (hst : stk = As.reverse ++ st) (hW : Nat.ble (st.map fun v => v.category).sum 8 = true)
    (hR : (d + 1 ≤ R.frames ∧ 8 + (M'.2.2.1 + 11) + 40 * d ≤ R.locals) ∧ nc + mc ≤ R.cells ∧ ns + ms ≤ R.slots)
    (kk : ∀ v h', Q' v h' → XX M R G Z (nc + mc) (ns + ms) (sz + mc) h' pc' ls (v.toList ++ st)) : XX M R G Z nc ns sz h pc ls stk := by
  intro p l e s m args below meth c lo D H locs la C g hl hh hs hS
  obtain ⟨hd, rfl⟩ := hd
  obtain ⟨⟨m1, m2, m3, m4, m5⟩, m7⟩ := hm
  have hts := C.2.2.2.2.2.1
  exact x_back (va_runSN (Ts := TG) (own := M.1.cls) (host := "CloneOutline") (As := As) (rest := st) (g := F0 m pc la stk) ⟨C.1, C.2.1, C.2.2.1, C.2.2.2.2.1, hts⟩ (hc l lo D) ⟨⟨⟨rfl, rfl, hR.1.1, hR.1.2, x_ws C m3, List.mem_cons_self⟩, hts _ m3, hts _ m2, m4, x_args m5, va_Nw.use rfl (C.2.2.2.2.2.2.1 _ m1)⟩, hts _ m7, trivial⟩ ⟨xB_blind, x_pre C hh hs.1 hS⟩ rfl hn hl.1 hst (lv_room (Nat.ble_eq.mp hW)) hd hR.2) rfl C g hl hs hS kk
theorem x_callIn {a : Nat} (hd : decode M.2.1 pc = .ok (.invokespecial idx, 3) ∧ pc + 3 = pc') (hm : MIn M.1.cls idx M' n) (hc : CC M' d mc ms (.ref a :: As) sz h Q') (hn : As.length = n) (hst : stk = As.reverse ++ .ref a :: st) (hW : Nat.ble (st.map fun v => v.category).sum 8 = true)
    (hR : (d + 1 ≤ R.frames ∧ 8 + (M'.2.2.1 + 11) + 40 * d ≤ R.locals) ∧ nc + mc ≤ R.cells ∧ ns + ms ≤ R.slots)
    (kk : ∀ v h', Q' v h' → XX M R G Z (nc + mc) (ns + ms) (sz + mc) h' pc' ls (v.toList ++ st)) : XX M R G Z nc ns sz h pc ls stk := by
  intro p l e s m args below meth c lo D H locs la C g hl hh hs hS
  obtain ⟨hd, rfl⟩ := hd
  obtain ⟨⟨m1, m2, m3, m4, m5⟩, m7, m8, m9⟩ := hm
  have hts := C.2.2.2.2.2.1
  have hc' := hc l lo D
  rw [m9] at hc' m3
  exact x_back (va_runIN (Ts := TG) (own := M.1.cls) (host := "CloneOutline") (b := a) (As := As) (rest := st) (g := F0 m pc la stk) ⟨C.1, C.2.1, C.2.2.1, C.2.2.2.2.1, hts⟩ hc' ⟨⟨⟨rfl, rfl, hR.1.1, hR.1.2, by have := x_ws C (M' := (M'.1, M'.2.1, M'.2.2.1, none)) m3; exact this, List.mem_cons_self⟩, hts _ m3, hts _ m2, m4, x_args m5, va_Nw.use rfl (C.2.2.2.2.2.2.1 _ m1)⟩, m8, hts _ m7⟩ ⟨xB_blind, x_pre C hh hs.1 hS⟩ rfl hn hl.1 hst (lv_room (Nat.ble_eq.mp hW)) hd hR.2) rfl C g hl hs hS kk
end

