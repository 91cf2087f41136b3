/-! THE X LAYER. A world h : Nat → Option AC says which cells are known; XX is the weakest precondition at a place of a method; CC is a method's contract. -/
def zI (z : Int) : Int32 := Int32.ofInt z
abbrev inR (z : Int) : Prop := -2147483648 ≤ z ∧ z < 2147483648
theorem zI_add (a b : Int) : zI a + zI b = zI (a + b) := (Int32.ofInt_add a b).symm
theorem zI_sub (a b : Int) : zI a - zI b = zI (a - b) := (Int32.ofInt_sub a b).symm
theorem zI_mul (a b : Int) : zI a * zI b = zI (a * b) := (Int32.ofInt_mul a b).symm
theorem zI_neg (a : Int) : - zI a = zI (-a) := (Int32.ofInt_neg a).symm
theorem zI_toInt {z : Int} (h : inR z) : (zI z).toInt = z := Int32.toInt_ofInt_of_le h.1 h.2
theorem zI_of (x : Int32) : ∃ z : Int, inR z ∧ x = zI z := ⟨x.toInt, ⟨Int32.le_toInt x, Int32.toInt_lt x⟩, (Int32.ofInt_toInt x).symm⟩
theorem zI_inj {a b : Int} (ha : inR a) (hb : inR b) : zI a = zI b ↔ a = b := ⟨fun h => by rw [← zI_toInt ha, ← zI_toInt hb, h], fun h => by rw [h]⟩
theorem zI_lt {a b : Int} (ha : inR a) (hb : inR b) : zI a < zI b ↔ a < b := by rw [Int32.lt_iff_toInt_lt, zI_toInt ha, zI_toInt hb]
theorem zI_le {a b : Int} (ha : inR a) (hb : inR b) : zI a ≤ zI b ↔ a ≤ b := by rw [Int32.le_iff_toInt_le, zI_toInt ha, zI_toInt hb]
theorem zI_clamp {a : Int} (ha : inR a) : (zI a).toNatClampNeg = a.toNat := Int32.toNatClampNeg_ofInt_of_le ha.1 ha.2
theorem zI_0 : zI 0 = 0 := by decide
theorem zI_1 : zI 1 = 1 := by decide
theorem zI_nat (n : Nat) : zI (n : Int) = Int32.ofNat n := Int32.ofInt_eq_ofNat
theorem zI_vin {i : Int} {n : Nat} (hn : n < 2147483648) (h0 : 0 ≤ i) (h1 : i < n) : vp_in (zI i) n := by
  have hr : inR i := ⟨by omega, by omega⟩
  unfold vp_in
  rw [show (0 : Int32) = zI 0 from zI_0.symm, zI_lt hr ⟨by omega, by omega⟩, zI_clamp hr]
  omega
-- the world
abbrev AC : Type := (Nat × Nat × (Nat → Int)) ⊕ ((Nat × Nat × (Nat → Option Nat)) ⊕ (Nat × List Value))
abbrev AH : Type := Nat → Option AC
abbrev xZ (t n : Nat) (g : Nat → Int) : AC := .inl (t, n, g)
abbrev xR (t n : Nat) (g : Nat → Option Nat) : AC := .inr (.inl (t, n, g))
abbrev xO (ci : Nat) (fs : List Value) : AC := .inr (.inr (ci, fs))
def hU (h : AH) (a : Nat) (e : AC) : AH := fun q => if q = a then some e else h q
theorem hU_s (h : AH) (a : Nat) (e : AC) : hU h a e a = some e := if_pos rfl
theorem hU_n {h : AH} {a q : Nat} {e : AC} (n : q ≠ a) : hU h a e q = h q := if_neg n
def zU (g : Nat → Int) (k : Nat) (x : Int) : Nat → Int := fun j => if j = k then x else g j
theorem zU_s (g : Nat → Int) (k : Nat) (x : Int) : zU g k x k = x := if_pos rfl
theorem zU_n {g : Nat → Int} {k j : Nat} {x : Int} (n : j ≠ k) : zU g k x j = g j := if_neg n
def zC (f g : Nat → Int) (n : Nat) : Nat → Int := fun j => if j < n then f j else g j
theorem zC_in {f g : Nat → Int} {n j : Nat} (h : j < n) : zC f g n j = f j := if_pos h
abbrev XD : Type := va_G × (Nat → ClassId)
def xty (D : XD) : List (ClassId × FieldType) := [(D.2 0, .int), (D.2 1, .int), (D.2 2, .int), (D.2 3, .object "CloneOutline$State")]
abbrev xcl : List vw_C := [(RX0, TX0, 3), (RX1, TX1, 3), (RX2, TX2, 4), (RX3, TX3, 4), (RX4, TX4, 5), (RX5, TX5, 3), (RX6, TX6, 3), (RX7, TX7, 2), (RX8, TX8, 8)]
def xE (D : XD) (e : AC) : va_E := match e with
  | .inl (t, n, g) => .inl (D.2 t, n, .inl (fun j => zI (g j)))
  | .inr (.inl (t, n, g)) => .inl (D.2 t, n, .inr (.inr (.inr (.inr g))))
  | .inr (.inr (ci, fs)) => .inr (ci, fs)
def HR (lo : Nat) (D : XD) (h : AH) (H : Heap) : Prop := ∃ ws : va_W, va_P D.1 xcl ws H ∧ va_D (fun q => lo ≤ q) ws ∧ ∀ a e, h a = some e → (a, xE D e) ∈ ws
theorem HR.get {lo : Nat} {D : XD} {h : AH} {H : Heap} (hh : HR lo D h H) : ∃ ws : va_W, va_P D.1 xcl ws H ∧ va_D (fun q => lo ≤ q) ws ∧ ∀ a e, h a = some e → ∃ k : Nat, ws[k]? = some (a, xE D e) := by
  obtain ⟨ws, h1, h2, h3⟩ := hh
  exact ⟨ws, h1, h2, fun a e q => List.getElem?_of_mem (h3 a e q)⟩
theorem HR.lt {lo : Nat} {D : XD} {h : AH} {H : Heap} (hh : HR lo D h H) {a : Nat} {e : AC} (he : h a = some e) : a < H.size := by
  obtain ⟨ws, h1, h2, h3⟩ := hh.get
  obtain ⟨k, hk⟩ := h3 a e he
  exact (h1 k _ hk).lt
theorem HR.set {lo : Nat} {D : XD} {h : AH} {H1 : Heap} {ws : va_W} {k a : Nat} {e0 : va_E} (e : AC) (hk : ws[k]? = some (a, e0)) (h3 : ∀ a e, h a = some e → ∃ k : Nat, ws[k]? = some (a, xE D e)) (p : va_P D.1 xcl (ws.set k (a, xE D e)) H1) (d : va_D (fun q => lo ≤ q) (ws.set k (a, xE D e))) : HR lo D (hU h a e) H1 := by
  have hl := (List.getElem?_eq_some_iff.mp hk).1
  refine ⟨_, p, d, fun b e' hb => ?_⟩
  by_cases hab : b = a
  · subst hab
    rw [hU_s] at hb
    cases hb
    exact List.mem_of_getElem? (List.getElem?_set_self hl)
  · rw [hU_n hab] at hb
    obtain ⟨j, hj⟩ := h3 b e' hb
    have hne : k ≠ j := fun q => by subst q; rw [hk] at hj; cases hj; exact hab rfl
    exact List.mem_of_getElem? (i := j) (by rw [List.getElem?_set_ne hne]; exact hj)
theorem HR.push {lo : Nat} {D : XD} {h : AH} {H H1 : Heap} {a : Nat} (e : AC) (hh : HR lo D h H) (hs : H.size = a) (hlo : lo ≤ a) (hk : ∀ q, q < a → H1[q]? = H[q]?) (he : va_at D.1 xcl (a, xE D e) H1) : HR lo D (hU h a e) H1 := by
  obtain ⟨ws, h1, h2, h3⟩ := hh
  refine ⟨ws ++ [(a, xE D e)], ((h1.kept (fun k q hq => hk q.1 (by rw [← hs]; exact (h1 k q hq).lt))).app (fun k q hq => ?_)), h2.push h1 hs.symm hlo, fun b e' hb => ?_⟩
  · have hz : k < 1 := (List.getElem?_eq_some_iff.mp hq).1
    rw [show k = 0 by omega] at hq
    cases hq
    exact he
  · by_cases hab : b = a
    · subst hab
      rw [hU_s] at hb
      cases hb
      exact List.mem_append_right _ (List.mem_singleton.mpr rfl)
    · rw [hU_n hab] at hb
      exact List.mem_append_left _ (h3 b e' hb)
-- the locals
def xhas (la : Array Slot) (n : Nat) (ls : List (Option Value)) : Prop := la.size = n ∧ lv_wf la ∧ ∀ (i : Nat) (v : Value), ls[i]? = some (some v) → la[i]? = some (Slot.val v)
def xas : Nat → List (Option Value) → List (Nat × Value)
  | _, [] => []
  | k, none :: l => xas (k + 1) l
  | k, some v :: l => (k, v) :: xas (k + 1) l
theorem xas_mem : ∀ (ls : List (Option Value)) (k j : Nat) (v : Value), (j, v) ∈ xas k ls ↔ k ≤ j ∧ ls[j - k]? = some (some v)
  | [], k, j, v => by simp [xas]
  | none :: l, k, j, v => by
    rw [xas, xas_mem l (k + 1) j v]
    constructor
    · rintro ⟨h1, h2⟩
      refine ⟨by omega, ?_⟩
      rw [show j - k = (j - (k + 1)) + 1 by omega, List.getElem?_cons_succ]
      exact h2
    · rintro ⟨h1, h2⟩
      rcases Nat.eq_or_lt_of_le h1 with h | h
      · rw [h, Nat.sub_self] at h2
        simp at h2
      · rw [show j - k = (j - (k + 1)) + 1 by omega, List.getElem?_cons_succ] at h2
        exact ⟨by omega, h2⟩
  | some x :: l, k, j, v => by
    rw [xas, List.mem_cons, xas_mem l (k + 1) j v]
    constructor
    · rintro (h | ⟨h1, h2⟩)
      · cases h
        exact ⟨Nat.le_refl _, by rw [Nat.sub_self]; rfl⟩
      · refine ⟨by omega, ?_⟩
        rw [show j - k = (j - (k + 1)) + 1 by omega, List.getElem?_cons_succ]
        exact h2
    · rintro ⟨h1, h2⟩
      rcases Nat.eq_or_lt_of_le h1 with h | h
      · subst h
        rw [Nat.sub_self] at h2
        simp at h2
        exact Or.inl (by rw [h2])
      · rw [show j - k = (j - (k + 1)) + 1 by omega, List.getElem?_cons_succ] at h2
        exact Or.inr ⟨by omega, h2⟩
theorem xhas.lv {la : Array Slot} {n : Nat} {ls : List (Option Value)} (h : xhas la n ls) : lv_has la n (xas 0 ls) := ⟨h.1, h.2.1, fun q hq => h.2.2 q.1 q.2 (by have := (xas_mem ls 0 q.1 q.2).mp hq; simpa using this)⟩
/-- storing a value of one slot behind no long -/
def xst : List (Option Value) → Nat → Value → List (Option Value)
  | [], _, _ => []
  | _ :: l, 0, v => some v :: l
  | x :: l, i + 1, v => x :: xst l i v
def xno2 : List (Option Value) → Nat → Bool
  | [], _ => true
  | _ :: _, 0 => true
  | [_], 1 => true
  | some v :: _ :: _, 1 => v.category == 1
  | none :: _ :: _, 1 => true
  | _ :: l, i + 2 => xno2 l (i + 1)
theorem xst_get : ∀ (ls : List (Option Value)) (i j : Nat) (v w : Value), (xst ls i v)[j]? = some (some w) → (j = i ∧ w = v) ∨ (j ≠ i ∧ ls[j]? = some (some w))
  | [], i, j, v, w, h => by simp [xst] at h
  | x :: l, 0, j, v, w, h => by
    cases j with
    | zero => simp [xst] at h; exact Or.inl ⟨rfl, h.symm⟩
    | succ j => rw [xst, List.getElem?_cons_succ] at h; exact Or.inr ⟨by omega, by rw [List.getElem?_cons_succ]; exact h⟩
  | x :: l, i + 1, j, v, w, h => by
    cases j with
    | zero => exact Or.inr ⟨by omega, h⟩
    | succ j =>
      rw [xst, List.getElem?_cons_succ] at h
      rcases xst_get l i j v w h with ⟨a, b⟩ | ⟨a, b⟩
      · exact Or.inl ⟨by omega, b⟩
      · exact Or.inr ⟨by omega, by rw [List.getElem?_cons_succ]; exact b⟩
theorem xno2_get : ∀ (ls : List (Option Value)) (i j : Nat) (w : Value), xno2 ls i = true → ls[j]? = some (some w) → j + 1 = i → i < ls.length → w.category = 1
  | [], i, j, w, _, h, _, _ => by simp at h
  | [x], i, j, w, _, _, e, hl => by
    simp at hl
    omega
  | x :: y :: l, 0, j, w, _, _, e, _ => by omega
  | some v :: y :: l, 1, j, w, hn, h, e, _ => by
    have : j = 0 := by omega
    subst this
    simp at h
    subst h
    simpa [xno2] using hn
  | none :: y :: l, 1, j, w, hn, h, e, _ => by
    have : j = 0 := by omega
    subst this
    simp at h
  | x :: y :: l, i + 2, j, w, hn, h, e, hl => by
    have : j = (j - 1) + 1 := by omega
    rw [this, List.getElem?_cons_succ] at h
    exact xno2_get (y :: l) (i + 1) (j - 1) w (by cases x <;> simpa [xno2] using hn) h (by omega) (by simp at hl ⊢; omega)
theorem xst_sub {ls : List (Option Value)} {i : Nat} {v : Value} (h2 : xno2 ls i = true) (hi : i < ls.length) : ∀ q ∈ xas 0 (xst ls i v), q ∈ (i, v) :: (xas 0 ls).filter (fun q => !(q.1 == i) && !(q.1 + 1 == i && q.2.category == 2)) := by
  rintro ⟨j, w⟩ hq
  have h := (xas_mem _ 0 j w).mp hq
  rw [Nat.sub_zero] at h
  rcases xst_get ls i j v w h.2 with ⟨rfl, rfl⟩ | ⟨a, b⟩
  · exact List.mem_cons_self
  · refine List.mem_cons_of_mem _ (List.mem_filter.mpr ⟨(xas_mem ls 0 j w).mpr ⟨Nat.zero_le _, by rw [Nat.sub_zero]; exact b⟩, ?_⟩)
    simp only [Bool.and_eq_true, Bool.not_eq_true', beq_eq_false_iff_ne, ne_eq, Bool.and_eq_false_iff]
    refine ⟨a, ?_⟩
    by_cases e : j + 1 = i
    · exact Or.inr (by rw [xno2_get ls i j w h2 b e hi]; decide)
    · exact Or.inl e
theorem xhas.of {la : Array Slot} {n : Nat} {ls : List (Option Value)} {l : List (Nat × Value)} (h : lv_has la n l) (hs : ∀ q ∈ xas 0 ls, q ∈ l) : xhas la n ls := ⟨h.1, h.2.1, fun i v hv => h.2.2 (i, v) (hs (i, v) ((xas_mem ls 0 i v).mpr ⟨Nat.zero_le _, by rw [Nat.sub_zero]; exact hv⟩))⟩
theorem xhas.less {la : Array Slot} {n : Nat} {ls ls' : List (Option Value)} (h : xhas la n ls) (hs : ∀ (i : Nat) (v : Value), ls'[i]? = some (some v) → ls[i]? = some (some v)) : xhas la n ls' := ⟨h.1, h.2.1, fun i v hv => h.2.2 i v (hs i v hv)⟩
-- the words
def xgood (w : Cond) : Bool := goodWord w
def TG : List Cond := lw_tbl.filter xgood
def NW : List Cond := [.methodLinkNest "CloneOutline" 9 yX7_init "CloneOutline", .methodLinkNest "CloneOutline" 18 yX4_init "CloneOutline", .methodLinkNest "CloneOutline" 25 yX5_init "CloneOutline", .methodLinkNest "CloneOutline$History" 17 yX6_init "CloneOutline", .methodLinkNest "CloneOutline$State" 11 yX2_init "CloneOutline", .methodLinkNest "CloneOutline$State" 20 yX1_init "CloneOutline", .methodLinkNest "CloneOutline$State" 27 yX3_init "CloneOutline", .methodLinkNest "CloneOutline" 39 yX6_init "CloneOutline", .methodLinkNest "CloneOutline$Nodes" 54 yX8_isMark "CloneOutline", .arrayOver (.object "CloneOutline$State")]
theorem NW_nest : ∀ w ∈ NW, (∃ a i x h, w = .methodLinkNest a i x h) ∨ w = .arrayOver (.object "CloneOutline$State") := by
  intro w hw
  simp only [NW, List.mem_cons, List.not_mem_nil, or_false] at hw
  rcases hw with rfl | rfl | rfl | rfl | rfl | rfl | rfl | rfl | rfl | rfl <;> first | exact Or.inr rfl | exact Or.inl ⟨_, _, _, _, rfl⟩
theorem NW_warm {s U : State} (hW : s.WarmedH U.vm) (h : ∀ w ∈ NW, va_Nw w s) : ∀ w ∈ NW, va_Nw w U := by
  intro w hw
  have h1 := h w hw
  rcases NW_nest w hw with ⟨a, i, x, hh, rfl⟩ | rfl
  · exact va_Nw.warmM hW h1
  · exact va_AO.moved (u := s) hW.alike h1
theorem TG_warm {args a' : Array Value} {s U : State} (hW : s.WarmedH U.vm) (h : ∀ w ∈ TG, w.before args s = true) : ∀ w ∈ TG, w.before a' U = true := by
  intro w hw
  exact word_at hW (good_of_word (List.mem_filter.mp hw).2) (h w hw)
theorem TG_in {w : Cond} (h : w ∈ lw_tbl) (hg : xgood w = true) : w ∈ TG := List.mem_filter.mpr ⟨h, hg⟩
abbrev MD : Type := MethodName × ByteArray × Nat × Option FieldType
def Cx (M : MD) (lo : Nat) (D : XD) (p : Program) (s : State) (m : MethodId) (args : Array Value) (meth : Method) (c : Code) : Prop :=
  p.tables.exec = Jvm.exec ∧ c.code = M.2.1 ∧ c.maxLocals = M.2.2.1 ∧ meth.sig.returnType = M.2.2.2 ∧ s.vm.findClass M.1.cls = some m.cls ∧ (∀ w ∈ TG, w.before args s = true) ∧ (∀ w ∈ NW, va_Nw w s) ∧ meth.locks = false ∧ meth.name = M.1.name ∧ va_K D.1 xcl (xty D) s ∧ lo ≤ s.heap.size
abbrev XG : Type := Nat → XD → Array Value → State → Prop
abbrev XZ : Type := Nat → XD → List Frame → Array Value → State → State → Prop
def XX (M : MD) (R : Room) (G : XG) (Z : XZ) (nc ns sz : Nat) (h : AH) (pc : Nat) (ls : List (Option Value)) (st : List Value) : Prop :=
  ∀ ⦃p : Program⦄ ⦃l : Launch⦄ ⦃e : Env⦄ ⦃s : State⦄ ⦃m : MethodId⦄ ⦃args : Array Value⦄ ⦃below : List Frame⦄ ⦃meth : Method⦄ ⦃c : Code⦄ ⦃lo : Nat⦄ ⦃D : XD⦄ ⦃H : Heap⦄ ⦃locs : List Loc⦄ ⦃la : Array Slot⦄, Cx M lo D p s m args meth c → G lo D args s → xhas la M.2.2.1 ls → HR lo D h H → (H.size = sz ∧ s.heap.size + nc = sz) → va_S (fun q => lo ≤ q) s.heap H locs →
  W p l e R s m args below meth c H locs nc ns (Z lo D below args s) (F0 m pc la st)
def xrm (d mc ms : Nat) : Room := { frames := d, cells := mc, slots := ms, locals := 40 * d }
def xB (lo : Nat) (D : XD) (sz : Nat) (h : AH) (U : State) : Prop := U.heap.size = sz ∧ HR lo D h U.heap ∧ va_K D.1 xcl (xty D) U ∧ (∀ w ∈ NW, va_Nw w U) ∧ lo ≤ sz
def xQ (lo : Nat) (D : XD) (mc : Nat) (Q : Option Value → AH → Prop) : Array Value → State → Outcome → State → Prop := fun _ st oc t => ∃ v h', oc = .returned v ∧ Q v h' ∧ HR lo D h' t.heap ∧ t.heap.size = st.heap.size + mc ∧ va_F (fun q => lo ≤ q) st t
def CC (M : MD) (d mc ms : Nat) (args : List Value) (sz : Nat) (h : AH) (Q : Option Value → AH → Prop) : Prop :=
  ∀ (l : Launch) (lo : Nat) (D : XD), Met l M.1 (Cond.code M.1 M.2.1 M.2.2.1 M.2.2.2 :: TG) (xrm d mc ms) (va_Pc args (xB lo D sz h)) (xQ lo D mc Q) mc ms (fun q => lo ≤ q)
def zMet (Q : Option Value → AH → Prop) (mc ms : Nat) : XZ := fun lo D below args s => MQ below (xQ lo D mc Q) args s mc ms (fun q => lo ≤ q)
def gTrue : XG := fun _ _ _ _ => True
abbrev XM (M : MD) (d mc ms : Nat) (Q : Option Value → AH → Prop) (nc ns sz : Nat) (h : AH) (pc : Nat) (ls : List (Option Value)) (st : List Value) : Prop := XX M (xrm d mc ms) gTrue (zMet Q mc ms) nc ns sz h pc ls st
theorem CC.mono {M : MD} {d mc ms : Nat} {args : List Value} {sz : Nat} {h : AH} {Q Q' : Option Value → AH → Prop} (hc : CC M d mc ms args sz h Q) (hq : ∀ v h', Q v h' → Q' v h') : CC M d mc ms args sz h Q' := by
  intro l lo D p e ha hcl hk s m ar below hf happ hP hK
  obtain ⟨k, o, h1, h2, h3, h4⟩ := hc l lo D p e ha hcl hk s m ar below hf happ hP hK
  refine ⟨k, o, h1, h2, h3, ?_⟩
  obtain ⟨⟨v, h', q1, q2, q3⟩, q4⟩ := h4
  exact ⟨⟨v, h', q1, hq _ _ q2, q3⟩, q4⟩
