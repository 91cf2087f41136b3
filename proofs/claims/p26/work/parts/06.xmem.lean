theorem xty_0 (D : XD) : (xty D)[0]? = some (D.2 0, .int) := rfl
theorem xty_3 (D : XD) : (xty D)[3]? = some (D.2 3, .object "CloneOutline$State") := rfl
/-- a field, as an instruction of a class reaches it: which class of xcl, which slot, what type -/
def FA (own : String) (idx ci k : Nat) (fin : Bool) (ty : FieldType) : Prop :=
  ∃ (C : String) (T : u_T) (N : Nat) (t0 : Nat → FieldType), xcl[ci]? = some (C, T, N) ∧ k < N ∧ Cond.fieldLink own idx C (T k).2.1 (T k).2.2.1 ∈ TG ∧ (T k).1 = C ∧ (T k).2.2.2 = fin ∧ parseFieldDescriptor (T k).2.2.1 = some ty ∧ (∀ w ∈ u_ws C T N, w ∈ TG) ∧ (∀ k, k < N → parseFieldDescriptor (T k).2.2.1 = some (t0 k)) ∧ (∀ a, a < N → ∀ b, b < N → a ≠ b → (T a).2.1 ≠ (T b).2.1)
/-- a method, as an instruction of a class reaches it -/
def MLw (own : String) (idx : Nat) (M' : MD) (n : Nat) : Prop :=
  Cond.methodLink own idx M'.1 ∈ TG ∧ Cond.initialized M'.1.cls ∈ TG ∧ Cond.code M'.1 M'.2.1 M'.2.2.1 M'.2.2.2 ∈ TG ∧ (M'.1.cls ≠ "java/lang/invoke/MethodHandle" ∧ M'.1.cls ≠ "java/lang/invoke/VarHandle") ∧ (parseMethodDescriptor M'.1.desc).map (fun d => d.parameters.length) = some n
def MV (own : String) (idx : Nat) (M' : MD) (n : Nat) : Prop := MLw own idx M' n ∧ Cond.instanceMethod M'.1 ∈ TG ∧ Cond.selects M'.1.cls M'.1 M'.1 ∈ TG
def MS (own : String) (idx : Nat) (M' : MD) (n : Nat) : Prop := MLw own idx M' n ∧ Cond.static M'.1 ∈ TG
def MI (own : String) (idx : Nat) (M' : MD) (n : Nat) : Prop := MLw own idx M' n ∧ Cond.instanceMethod M'.1 ∈ TG ∧ M'.1.name = "<init>" ∧ M'.2.2.2 = none
def MLn (own : String) (idx : Nat) (M' : MD) (n : Nat) : Prop :=
  Cond.methodLinkNest own idx M'.1 "CloneOutline" ∈ NW ∧ Cond.initialized M'.1.cls ∈ TG ∧ Cond.code M'.1 M'.2.1 M'.2.2.1 M'.2.2.2 ∈ TG ∧ (M'.1.cls ≠ "java/lang/invoke/MethodHandle" ∧ M'.1.cls ≠ "java/lang/invoke/VarHandle") ∧ (parseMethodDescriptor M'.1.desc).map (fun d => d.parameters.length) = some n
def MSn (own : String) (idx : Nat) (M' : MD) (n : Nat) : Prop := MLn own idx M' n ∧ Cond.static M'.1 ∈ TG
def MIn (own : String) (idx : Nat) (M' : MD) (n : Nat) : Prop := MLn own idx M' n ∧ Cond.instanceMethod M'.1 ∈ TG ∧ M'.1.name = "<init>" ∧ M'.2.2.2 = none
section
variable {M : MD} {R : Room} {G : XG} {Z : XZ} {nc ns sz : Nat} {h : AH} {pc pc' : Nat} {ls : List (Option Value)} {st : List Value}
theorem x_get {idx ci k a : Nat} {fin : Bool} {ty : FieldType} {fs : List Value} {v : Value} (hd : decode M.2.1 pc = .ok (.getfield idx, 3) ∧ pc + 3 = pc') (hf : FA M.1.cls idx ci k fin ty) (he : h a = some (xO ci fs)) (hv : fs[k]? = some v) (kk : XX M R G Z nc ns sz h pc' ls (v :: st)) : XX M R G Z nc ns sz h pc ls (.ref a :: st) := by
  intro p l e s m args below meth c lo D H locs la C g hl hh hs hS
  obtain ⟨hd, rfl⟩ := hd
  obtain ⟨Cn, T, N, t0, f1, f2, f3, f4, f5, f6, f7, f8, f9⟩ := hf
  obtain ⟨ws, p1, p2, p3⟩ := hh.get
  obtain ⟨q0, hq⟩ := p3 a _ he
  exact va_get (Ts := TG) C.1 C.2.1 C.2.2.2.2.2.1 f7 C.2.2.2.2.1 C.2.2.2.2.2.2.2.2.2.1 p1 q0 hq f1 k f2 (C.2.2.2.2.2.1 _ f3) (fun x hx => by rw [f4] at hx; exact hx) hv hd (kk C g hl hh hs hS)
theorem x_put {idx ci k a : Nat} {ty : FieldType} {fs : List Value} {v : Value} (hd : decode M.2.1 pc = .ok (.putfield idx, 3) ∧ pc + 3 = pc') (hf : FA M.1.cls idx ci k false ty) (he : h a = some (xO ci fs)) (hn : narrow ty v = v) (hfit : fits ty v = true) (hk : Nat.blt k fs.length = true) (kk : XX M R G Z nc ns sz (hU h a (xO ci (fs.set k v))) pc' ls st) : XX M R G Z nc ns sz h pc ls (v :: .ref a :: st) := by
  intro p l e s m args below meth c lo D H locs la C g hl hh hs hS
  obtain ⟨hd, rfl⟩ := hd
  obtain ⟨Cn, T, N, t0, f1, f2, f3, f4, f5, f6, f7, f8, f9⟩ := hf
  obtain ⟨ws, p1, p2, p3⟩ := hh.get
  obtain ⟨q0, hq⟩ := p3 a _ he
  have hK := C.2.2.2.2.2.2.2.2.2.1
  have hts := C.2.2.2.2.2.1
  have hap := va_apart (own := Cn) hts f7 t0 f8 f9 hK f1
  obtain ⟨r, h1, cell, q1, q2, q3, q4⟩ := p1 q0 _ hq
  have hr : r = (Cn, T, N) := Option.some.inj (h1.symm.trans f1)
  subst hr
  obtain ⟨hSl, hfc, kC, hkC, hkind⟩ := hK.1 ci _ f1
  obtain ⟨cf, kf, fi, f, hi, hsl⟩ := hSl k f2
  have hlay := hts _ (f7 _ (u_in_lay f2))
  unfold u_lay at hlay
  rw [if_neg (by rw [f5]; decide)] at hlay
  have hst := (u_facts hfc hkC (u_lays hts f7 f2) hi).1
  have h6 := u_store hfc hkC hkind hlay hi f6 hn hfit
  refine W.putK C.1 C.2.1 (f := f) ⟨C.2.2.2.2.1, hts _ f3, ⟨_, _, _, by rw [f4] at hi; exact hi⟩, hst⟩ (by rw [q2]; exact h6) q1 q3 (by rw [hsl]; exact k2_hasslot (q4 k f2)) rfl rfl hd fun H' e1 e2 e3 => ?_
  rw [hsl] at e1 ⊢
  exact kk C g hl (HR.set (e := xO ci (fs.set k v)) hq p3 (p1.set p2 hq ⟨_, f1, t_OB.to (V := updV (vp_V fs) k v) ⟨_, e1, q2, q3, t_set q4 hap f2 v⟩ (fun j _ => vp_updV_set (Nat.blt_eq.mp hk) v j)⟩ e3) (p2.set hq)) ⟨e2.trans hs.1, hs.2⟩ (hS.put e2 e3 (p2.2 q0 _ hq))
theorem x_putF {idx ci k a : Nat} {ty : FieldType} {fs : List Value} {v : Value} (hd : decode M.2.1 pc = .ok (.putfield idx, 3) ∧ pc + 3 = pc') (hf : FA M.1.cls idx ci k true ty) (hin : M.1.name = "<init>") (hcn : (xcl[ci]?).map (fun q => q.1) = some M.1.cls) (he : h a = some (xO ci fs)) (hn : narrow ty v = v) (hfit : fits ty v = true) (hk : Nat.blt k fs.length = true) (kk : XX M R G Z nc ns sz (hU h a (xO ci (fs.set k v))) pc' ls st) : XX M R G Z nc ns sz h pc ls (v :: .ref a :: st) := by
  intro p l e s m args below meth c lo D H locs la C g hl hh hs hS
  obtain ⟨hd, rfl⟩ := hd
  obtain ⟨Cn, T, N, t0, f1, f2, f3, f4, f5, f6, f7, f8, f9⟩ := hf
  obtain ⟨ws, p1, p2, p3⟩ := hh.get
  obtain ⟨q0, hq⟩ := p3 a _ he
  have hK := C.2.2.2.2.2.2.2.2.2.1
  have hts := C.2.2.2.2.2.1
  have hap := va_apart (own := Cn) hts f7 t0 f8 f9 hK f1
  obtain ⟨r, h1, cell, q1, q2, q3, q4⟩ := p1 q0 _ hq
  have hr : r = (Cn, T, N) := Option.some.inj (h1.symm.trans f1)
  subst hr
  obtain ⟨hSl, hfc, kC, hkC, hkind⟩ := hK.1 ci _ f1
  obtain ⟨cf, kf, fi, f, hi, hsl⟩ := hSl k f2
  have hlay := hts _ (f7 _ (u_in_lay f2))
  unfold u_lay at hlay
  rw [if_pos f5] at hlay
  have hst := (u_facts hfc hkC (u_lays hts f7 f2) hi).1
  have hown : Cn = M.1.cls := by
    rw [f1] at hcn
    exact Option.some.inj hcn
  have hcf : m.cls = cf := by
    obtain ⟨_, _, c', _, _, _, -, -, hf', -, -, -, hown2, -⟩ := Cond.laysFinal_spec hlay
    have e1 : c' = cf := by have := hi.symm.trans hf'; simp at this; exact this.1.symm
    rw [f4, hown] at hown2
    rw [← e1]; exact Option.some.inj (C.2.2.2.2.1.symm.trans hown2)
  have h6 := u_fits hfc hkC hkind (Or.inr hlay) hi f6 hn hfit
  refine W.putFinK C.1 C.2.1 C.2.2.2.2.1 (hts _ f3) (by rw [f4] at hi; exact hi) hst hcf (C.2.2.2.2.2.2.2.2.1.trans hin) (by rw [q2]; exact h6) q1 q3 (by rw [hsl]; exact k2_hasslot (q4 k f2)) rfl rfl hd fun H' e1 e2 e3 => ?_
  rw [hsl] at e1 ⊢
  exact kk C g hl (HR.set (e := xO ci (fs.set k v)) hq p3 (p1.set p2 hq ⟨_, f1, t_OB.to (V := updV (vp_V fs) k v) ⟨_, e1, q2, q3, t_set q4 hap f2 v⟩ (fun j _ => vp_updV_set (Nat.blt_eq.mp hk) v j)⟩ e3) (p2.set hq)) ⟨e2.trans hs.1, hs.2⟩ (hS.put e2 e3 (p2.2 q0 _ hq))
theorem x_iald {a n : Nat} {f : Nat → Int} {i : Int} (hd : decode M.2.1 pc = .ok (.iaload, 1) ∧ pc + 1 = pc') (he : h a = some (xZ 0 n f)) (hN : Nat.blt n 2147483648 = true) (h0 : 0 ≤ i) (h1 : i < (n : Int)) (kk : XX M R G Z nc ns sz h pc' ls (.int (zI (f i.toNat)) :: st)) : XX M R G Z nc ns sz h pc ls (.int (zI i) :: .ref a :: st) := by
  intro p l e s m args below meth c lo D H locs la C g hl hh hs hS
  obtain ⟨hd, rfl⟩ := hd
  obtain ⟨ws, p1, p2, p3⟩ := hh.get
  obtain ⟨q0, hq⟩ := p3 a _ he
  have hN' : n < 2147483648 := Nat.blt_eq.mp hN
  refine va_iald C.1 C.2.1 C.2.2.2.2.2.2.2.2.2.1 p1 q0 0 hq (xty_0 D) (zI_vin hN' h0 h1) hd ?_
  rw [zI_clamp ⟨by omega, by omega⟩]
  exact kk C g hl hh hs hS
theorem x_iast {a n : Nat} {f : Nat → Int} {i x : Int} (hd : decode M.2.1 pc = .ok (.iastore, 1) ∧ pc + 1 = pc') (he : h a = some (xZ 0 n f)) (hN : Nat.blt n 2147483648 = true) (h0 : 0 ≤ i) (h1 : i < (n : Int)) (kk : XX M R G Z nc ns sz (hU h a (xZ 0 n (zU f i.toNat x))) pc' ls st) : XX M R G Z nc ns sz h pc ls (.int (zI x) :: .int (zI i) :: .ref a :: st) := by
  intro p l e s m args below meth c lo D H locs la C g hl hh hs hS
  obtain ⟨hd, rfl⟩ := hd
  obtain ⟨ws, p1, p2, p3⟩ := hh.get
  obtain ⟨q0, hq⟩ := p3 a _ he
  have hN' : n < 2147483648 := Nat.blt_eq.mp hN
  have hin := zI_vin hN' h0 h1
  have hci : (zI i).toNatClampNeg = i.toNat := zI_clamp ⟨by omega, by omega⟩
  refine W.iast C.1 C.2.1 (p1 q0 _ hq) ((C.2.2.2.2.2.2.2.2.2.1.2 0 _ (xty_0 D)).1 n (fun j => .int (zI (f j)))) (fun q => by cases q) (by show ¬ (_ < 0 ∨ (arrV _ _ _).slots.size ≤ _); rw [arrV_size]; exact hin) rfl rfl hd fun H1 e z oq => ?_
  refine kk C g hl (HR.set (e := xZ 0 n (zU f i.toNat x)) hq p3 (p1.set p2 hq ?_ oq) (p2.set hq)) ⟨z.trans hs.1, hs.2⟩ (hS.put z oq (p2.2 q0 _ hq))
  show H1[a]? = some (vp_cell _ _)
  rw [e]
  rw [vp_cell_i, vp_cell_i, arrV_store]
  congr 2
  funext q
  rw [hci]
  by_cases hq : q = i.toNat
  · subst hq
    simp [updV, zU]
  · simp [updV, zU, hq]


end
