/-! STRUCTS: an object at p, its rows of numbers at p+1, p+2, ..; SO h0 h says: h holds it so, and h is h0 but for [p, p+w) -/
def SO (h0 h : AH) (p w ci : Nat) (fs : List Value) (as : List (Nat × Nat × (Nat → Int))) : Prop :=
  h p = some (xO ci fs) ∧ (∀ (j : Nat) (a : Nat × Nat × (Nat → Int)), as[j]? = some a → h (p + 1 + j) = some (.inl a)) ∧ (as.length < w) ∧ ∀ q, ¬ (p ≤ q ∧ q < p + w) → h q = h0 q
def Fr (h0 h : AH) (lo hi : Nat) : Prop := ∀ q, ¬ (lo ≤ q ∧ q < hi) → h q = h0 q
theorem Fr.rf {h : AH} {lo hi : Nat} : Fr h h lo hi := fun _ _ => rfl
theorem Fr.tr {h0 h1 h2 : AH} {lo hi : Nat} (a : Fr h0 h1 lo hi) (b : Fr h1 h2 lo hi) : Fr h0 h2 lo hi := fun q n => (b q n).trans (a q n)
theorem Fr.wd {h0 h1 : AH} {lo hi lo' hi' : Nat} (a : Fr h0 h1 lo hi) (e1 : lo' ≤ lo) (e2 : hi ≤ hi') : Fr h0 h1 lo' hi' := fun q n => a q (fun z => n ⟨by omega, by omega⟩)
theorem SO.fr {h0 h : AH} {p w ci : Nat} {fs : List Value} {as : List (Nat × Nat × (Nat → Int))} (a : SO h0 h p w ci fs as) : Fr h0 h p (p + w) := a.2.2.2
theorem SO.st {h0 h : AH} {p w ci : Nat} {fs : List Value} {as : List (Nat × Nat × (Nat → Int))} (a : SO h0 h p w ci fs as) : SO h h p w ci fs as := ⟨a.1, a.2.1, a.2.2.1, fun _ _ => rfl⟩
/-- a struct where nothing was changed -/
theorem SO.mv {h0 h h' : AH} {p w ci lo hi : Nat} {fs : List Value} {as : List (Nat × Nat × (Nat → Int))} (a : SO h0 h p w ci fs as) (f : Fr h h' lo hi) (d : hi ≤ p ∨ p + w ≤ lo) : SO h' h' p w ci fs as := by
  have hw := a.2.2.1
  refine ⟨(f p (by omega)).trans a.1, fun j x hx => (f _ ?_).trans (a.2.1 j x hx), a.2.2.1, fun _ _ => rfl⟩
  have hj := (List.getElem?_eq_some_iff.mp hx).1
  omega
theorem SO.putF {h0 h : AH} {p w ci : Nat} {fs : List Value} {as : List (Nat × Nat × (Nat → Int))} (a : SO h0 h p w ci fs as) (fs' : List Value) : Fr h (hU h p (xO ci fs')) p (p + w) := fun q hq => hU_n (by have := a.2.2.1; omega)
theorem SO.astF {h0 h : AH} {p w ci : Nat} {fs : List Value} {as : List (Nat × Nat × (Nat → Int))} (a : SO h0 h p w ci fs as) (j : Nat) (x : Nat × Nat × (Nat → Int)) (hj : j < as.length) : Fr h (hU h (p + 1 + j) (.inl x)) p (p + w) := fun q hq => hU_n (by have := a.2.2.1; omega)
theorem SO.put {h0 h : AH} {p w ci : Nat} {fs : List Value} {as : List (Nat × Nat × (Nat → Int))} (a : SO h0 h p w ci fs as) (fs' : List Value) : SO h0 (hU h p (xO ci fs')) p w ci fs' as := by
  have hw := a.2.2.1
  refine ⟨hU_s _ _ _, fun j x hx => ?_, hw, fun q hq => ?_⟩
  · rw [hU_n (by omega)]
    exact a.2.1 j x hx
  · rw [hU_n (by omega)]
    exact a.2.2.2 q hq
theorem SO.ast {h0 h : AH} {p w ci : Nat} {fs : List Value} {as : List (Nat × Nat × (Nat → Int))} (a : SO h0 h p w ci fs as) (j : Nat) (x : Nat × Nat × (Nat → Int)) (hj : j < as.length) : SO h0 (hU h (p + 1 + j) (.inl x)) p w ci fs (as.set j x) := by
  have hw := a.2.2.1
  refine ⟨?_, fun k y hy => ?_, by rw [List.length_set]; exact hw, fun q hq => ?_⟩
  · rw [hU_n (by omega)]
    exact a.1
  · by_cases hk : k = j
    · subst hk
      rw [List.getElem?_set_self hj] at hy
      cases hy
      exact hU_s _ _ _
    · rw [List.getElem?_set_ne (Ne.symm hk)] at hy
      rw [hU_n (by omega)]
      exact a.2.1 k y hy
  · rw [hU_n (by omega)]
    exact a.2.2.2 q hq
abbrev QR (z : Int) (h : AH) : Option Value → AH → Prop := fun v h' => v = some (.int (zI z)) ∧ h' = h
abbrev QB (P : Prop) [Decidable P] (h : AH) : Option Value → AH → Prop := fun v h' => v = some (.int (zI (if P then 1 else 0))) ∧ h' = h
abbrev QL (z : Int64) (h : AH) : Option Value → AH → Prop := fun v h' => v = some (.long z) ∧ h' = h
abbrev QV (B : AH → Prop) : Option Value → AH → Prop := fun v h' => v = none ∧ B h'
abbrev QI (B : Int → AH → Prop) : Option Value → AH → Prop := fun v h' => ∃ z : Int, v = some (.int (zI z)) ∧ B z h'
section
variable {M : MD} {R : Room} {G : XG} {Z : XZ} {nc ns sz : Nat} {h0 h : AH} {pc pc' : Nat} {ls : List (Option Value)} {st : List Value} {p w ci : Nat} {fs : List Value} {as : List (Nat × Nat × (Nat → Int))}
theorem s_get {idx k : Nat} {fin : Bool} {ty : FieldType} {v : Value} (hd : decode M.2.1 pc = .ok (.getfield idx, 3) ∧ pc + 3 = pc') (hf : FA M.1.cls idx ci k fin ty) (hP : SO h0 h p w ci fs as) (hv : fs[k]? = some v) (kk : XX M R G Z nc ns sz h pc' ls (v :: st)) : XX M R G Z nc ns sz h pc ls (.ref p :: st) := x_get hd hf hP.1 hv kk
theorem s_puti {idx k : Nat} {z : Int} (hd : decode M.2.1 pc = .ok (.putfield idx, 3) ∧ pc + 3 = pc') (hf : FA M.1.cls idx ci k false .int) (hP : SO h0 h p w ci fs as) (hk : Nat.blt k fs.length = true) (kk : ∀ h', SO h0 h' p w ci (fs.set k (.int (zI z))) as → Fr h h' p (p + w) → XX M R G Z nc ns sz h' pc' ls st) : XX M R G Z nc ns sz h pc ls (.int (zI z) :: .ref p :: st) := x_put hd hf hP.1 rfl rfl hk (kk _ (hP.put _) (hP.putF _))
theorem s_putz {idx k : Nat} {z : Int} (hd : decode M.2.1 pc = .ok (.putfield idx, 3) ∧ pc + 3 = pc') (hf : FA M.1.cls idx ci k false .boolean) (hz : z = 0 ∨ z = 1) (hP : SO h0 h p w ci fs as) (hk : Nat.blt k fs.length = true) (kk : ∀ h', SO h0 h' p w ci (fs.set k (.int (zI z))) as → Fr h h' p (p + w) → XX M R G Z nc ns sz h' pc' ls st) : XX M R G Z nc ns sz h pc ls (.int (zI z) :: .ref p :: st) := x_put hd hf hP.1 (by rcases hz with rfl | rfl <;> decide) (by rcases hz with rfl | rfl <;> decide) hk (kk _ (hP.put _) (hP.putF _))
theorem s_putr {idx k b : Nat} {C : String} (hd : decode M.2.1 pc = .ok (.putfield idx, 3) ∧ pc + 3 = pc') (hf : FA M.1.cls idx ci k false (.object C)) (hP : SO h0 h p w ci fs as) (hk : Nat.blt k fs.length = true) (kk : ∀ h', SO h0 h' p w ci (fs.set k (.ref b)) as → Fr h h' p (p + w) → XX M R G Z nc ns sz h' pc' ls st) : XX M R G Z nc ns sz h pc ls (.ref b :: .ref p :: st) := x_put hd hf hP.1 rfl rfl hk (kk _ (hP.put _) (hP.putF _))
theorem s_iald {j n : Nat} {f : Nat → Int} {i : Int} (hd : decode M.2.1 pc = .ok (.iaload, 1) ∧ pc + 1 = pc') (hP : SO h0 h p w ci fs as) (hj : as[j]? = some (0, n, f)) (hN : Nat.blt n 2147483648 = true) (hi : 0 ≤ i ∧ i < (n : Int)) (kk : XX M R G Z nc ns sz h pc' ls (.int (zI (f i.toNat)) :: st)) : XX M R G Z nc ns sz h pc ls (.int (zI i) :: .ref (p + 1 + j) :: st) := x_iald hd (hP.2.1 j _ hj) hN hi.1 hi.2 kk
theorem s_iast {j n : Nat} {f : Nat → Int} {i x : Int} (hd : decode M.2.1 pc = .ok (.iastore, 1) ∧ pc + 1 = pc') (hP : SO h0 h p w ci fs as) (hj : as[j]? = some (0, n, f)) (hN : Nat.blt n 2147483648 = true) (hi : 0 ≤ i ∧ i < (n : Int)) (kk : ∀ h', SO h0 h' p w ci fs (as.set j (0, n, zU f i.toNat x)) → Fr h h' p (p + w) → XX M R G Z nc ns sz h' pc' ls st) : XX M R G Z nc ns sz h pc ls (.int (zI x) :: .int (zI i) :: .ref (p + 1 + j) :: st) := x_iast hd (hP.2.1 j _ hj) hN hi.1 hi.2 (kk _ (hP.ast j _ (List.getElem?_eq_some_iff.mp hj).1) (hP.astF j _ (List.getElem?_eq_some_iff.mp hj).1))
theorem s_copy {idx j a0 n0 n1 : Nat} {f f1 : Nat → Int} {n : Int} (hd : decode M.2.1 pc = .ok (.invokestatic idx, 3) ∧ pc + 3 = pc') (hml : Cond.methodLink M.1.cls idx arraycopyName ∈ TG) (hP : SO h0 h p w ci fs as) (hj : as[j]? = some (0, n1, f1)) (ha0 : h a0 = some (.inl (0, n0, f))) (hN : Nat.blt n0 2147483648 = true) (hn : 0 ≤ n ∧ n ≤ n0 ∧ n ≤ n1)
    (hR : 1 ≤ R.frames ∧ (st.map fun v => v.category).sum + (nativeFrameWords "java/lang/System" "arraycopy" 5 + 11) ≤ R.locals)
    (kk : ∀ h', SO h0 h' p w ci fs (as.set j (0, n1, zC f f1 n.toNat)) → Fr h h' p (p + w) → XX M R G Z nc ns sz h' pc' ls st) : XX M R G Z nc ns sz h pc ls (.int (zI n) :: .int (zI 0) :: .ref (p + 1 + j) :: .int (zI 0) :: .ref a0 :: st) :=
  x_copy hd hml k_nat k_sta k_sys ha0 (hP.2.1 j _ hj) hN hn.1 hn.2.1 hn.2.2 hR (kk _ (hP.ast j _ (List.getElem?_eq_some_iff.mp hj).1) (hP.astF j _ (List.getElem?_eq_some_iff.mp hj).1))
end
-- calls that make nothing
section
variable {M M' : MD} {R : Room} {G : XG} {Z : XZ} {nc ns sz d n idx : Nat} {h : AH} {pc pc' : Nat} {ls : List (Option Value)} {st stk As : List Value} {Q' : Option Value → AH → Prop}
theorem c_V {a ci : Nat} {fs : List Value} (hd : decode M.2.1 pc = .ok (.invokevirtual idx, 3) ∧ pc + 3 = pc') (hm : MV M.1.cls idx M' n) (hc : CC M' d 0 0 (.ref a :: As) sz h Q') (he : h a = some (xO ci fs)) (hci : (xcl[ci]?).map (fun q => q.1) = some M'.1.cls) (hn : As.length = n) (hst : stk = As.reverse ++ .ref a :: st) (hW : Nat.ble (st.map fun v => v.category).sum 8 = true)
    (hR : (d + 1 ≤ R.frames ∧ 8 + (M'.2.2.1 + 11) + 40 * d ≤ R.locals) ∧ nc ≤ R.cells ∧ ns ≤ R.slots)
    (kk : ∀ v h', Q' v h' → XX M R G Z nc ns sz h' pc' ls (v.toList ++ st)) : XX M R G Z nc ns sz h pc ls stk := x_callV hd hm hc he hci hn hst hW hR kk
theorem c_S (hd : decode M.2.1 pc = .ok (.invokestatic idx, 3) ∧ pc + 3 = pc') (hm : MS M.1.cls idx M' n) (hc : CC M' d 0 0 As sz h Q') (hn : As.length = n) (hst : stk = As.reverse ++ st) (hW : Nat.ble (st.map fun v => v.category).sum 8 = true)
    (hR : (d + 1 ≤ R.frames ∧ 8 + (M'.2.2.1 + 11) + 40 * d ≤ R.locals) ∧ nc ≤ R.cells ∧ ns ≤ R.slots)
    (kk : ∀ v h', Q' v h' → XX M R G Z nc ns sz h' pc' ls (v.toList ++ st)) : XX M R G Z nc ns sz h pc ls stk := x_callS hd hm hc hn hst hW hR kk
theorem c_Sn (hd : decode M.2.1 pc = .ok (.invokestatic idx, 3) ∧ pc + 3 = pc') (hm : MSn M.1.cls idx M' n) (hc : CC M' d 0 0 As sz h Q') (hn : As.length = n) (hst : stk = As.reverse ++ st) (hW : Nat.ble (st.map fun v => v.category).sum 8 = true)
    (hR : (d + 1 ≤ R.frames ∧ 8 + (M'.2.2.1 + 11) + 40 * d ≤ R.locals) ∧ nc ≤ R.cells ∧ ns ≤ R.slots)
    (kk : ∀ v h', Q' v h' → XX M R G Z nc ns sz h' pc' ls (v.toList ++ st)) : XX M R G Z nc ns sz h pc ls stk := x_callSn hd hm hc hn hst hW hR kk
/-- a call that answers a number and changes nothing -/
theorem p_V {a ci : Nat} {fs : List Value} {z : Int} (hd : decode M.2.1 pc = .ok (.invokevirtual idx, 3) ∧ pc + 3 = pc') (hm : MV M.1.cls idx M' n) (hc : CC M' d 0 0 (.ref a :: As) sz h (QR z h)) (he : h a = some (xO ci fs)) (hci : (xcl[ci]?).map (fun q => q.1) = some M'.1.cls) (hn : As.length = n) (hst : stk = As.reverse ++ .ref a :: st) (hW : Nat.ble (st.map fun v => v.category).sum 8 = true)
    (hR : (d + 1 ≤ R.frames ∧ 8 + (M'.2.2.1 + 11) + 40 * d ≤ R.locals) ∧ nc ≤ R.cells ∧ ns ≤ R.slots)
    (kk : XX M R G Z nc ns sz h pc' ls (.int (zI z) :: st)) : XX M R G Z nc ns sz h pc ls stk := c_V hd hm hc he hci hn hst hW hR (fun v h' q => by obtain ⟨rfl, rfl⟩ := q; exact kk)
theorem p_S {z : Int} (hd : decode M.2.1 pc = .ok (.invokestatic idx, 3) ∧ pc + 3 = pc') (hm : MS M.1.cls idx M' n) (hc : CC M' d 0 0 As sz h (QR z h)) (hn : As.length = n) (hst : stk = As.reverse ++ st) (hW : Nat.ble (st.map fun v => v.category).sum 8 = true)
    (hR : (d + 1 ≤ R.frames ∧ 8 + (M'.2.2.1 + 11) + 40 * d ≤ R.locals) ∧ nc ≤ R.cells ∧ ns ≤ R.slots)
    (kk : XX M R G Z nc ns sz h pc' ls (.int (zI z) :: st)) : XX M R G Z nc ns sz h pc ls stk := c_S hd hm hc hn hst hW hR (fun v h' q => by obtain ⟨rfl, rfl⟩ := q; exact kk)
theorem p_Sn {z : Int} (hd : decode M.2.1 pc = .ok (.invokestatic idx, 3) ∧ pc + 3 = pc') (hm : MSn M.1.cls idx M' n) (hc : CC M' d 0 0 As sz h (QR z h)) (hn : As.length = n) (hst : stk = As.reverse ++ st) (hW : Nat.ble (st.map fun v => v.category).sum 8 = true)
    (hR : (d + 1 ≤ R.frames ∧ 8 + (M'.2.2.1 + 11) + 40 * d ≤ R.locals) ∧ nc ≤ R.cells ∧ ns ≤ R.slots)
    (kk : XX M R G Z nc ns sz h pc' ls (.int (zI z) :: st)) : XX M R G Z nc ns sz h pc ls stk := c_Sn hd hm hc hn hst hW hR (fun v h' q => by obtain ⟨rfl, rfl⟩ := q; exact kk)
theorem l_V {a ci : Nat} {fs : List Value} {z : Int64} (hd : decode M.2.1 pc = .ok (.invokevirtual idx, 3) ∧ pc + 3 = pc') (hm : MV M.1.cls idx M' n) (hc : CC M' d 0 0 (.ref a :: As) sz h (QL z h)) (he : h a = some (xO ci fs)) (hci : (xcl[ci]?).map (fun q => q.1) = some M'.1.cls) (hn : As.length = n) (hst : stk = As.reverse ++ .ref a :: st) (hW : Nat.ble (st.map fun v => v.category).sum 8 = true)
    (hR : (d + 1 ≤ R.frames ∧ 8 + (M'.2.2.1 + 11) + 40 * d ≤ R.locals) ∧ nc ≤ R.cells ∧ ns ≤ R.slots)
    (kk : XX M R G Z nc ns sz h pc' ls (.long z :: st)) : XX M R G Z nc ns sz h pc ls stk := c_V hd hm hc he hci hn hst hW hR (fun v h' q => by obtain ⟨rfl, rfl⟩ := q; exact kk)
/-- a call that answers nothing and changes the world to one that B tells -/
theorem v_V {a ci : Nat} {fs : List Value} {B : AH → Prop} (hd : decode M.2.1 pc = .ok (.invokevirtual idx, 3) ∧ pc + 3 = pc') (hm : MV M.1.cls idx M' n) (hc : CC M' d 0 0 (.ref a :: As) sz h (QV B)) (he : h a = some (xO ci fs)) (hci : (xcl[ci]?).map (fun q => q.1) = some M'.1.cls) (hn : As.length = n) (hst : stk = As.reverse ++ .ref a :: st) (hW : Nat.ble (st.map fun v => v.category).sum 8 = true)
    (hR : (d + 1 ≤ R.frames ∧ 8 + (M'.2.2.1 + 11) + 40 * d ≤ R.locals) ∧ nc ≤ R.cells ∧ ns ≤ R.slots)
    (kk : ∀ h', B h' → XX M R G Z nc ns sz h' pc' ls st) : XX M R G Z nc ns sz h pc ls stk := c_V hd hm hc he hci hn hst hW hR (fun v h' q => by obtain ⟨rfl, q⟩ := q; exact kk h' q)
/-- a call that answers a number and changes the world -/
theorem i_V {a ci : Nat} {fs : List Value} {B : Int → AH → Prop} (hd : decode M.2.1 pc = .ok (.invokevirtual idx, 3) ∧ pc + 3 = pc') (hm : MV M.1.cls idx M' n) (hc : CC M' d 0 0 (.ref a :: As) sz h (QI B)) (he : h a = some (xO ci fs)) (hci : (xcl[ci]?).map (fun q => q.1) = some M'.1.cls) (hn : As.length = n) (hst : stk = As.reverse ++ .ref a :: st) (hW : Nat.ble (st.map fun v => v.category).sum 8 = true)
    (hR : (d + 1 ≤ R.frames ∧ 8 + (M'.2.2.1 + 11) + 40 * d ≤ R.locals) ∧ nc ≤ R.cells ∧ ns ≤ R.slots)
    (kk : ∀ z h', B z h' → XX M R G Z nc ns sz h' pc' ls (.int (zI z) :: st)) : XX M R G Z nc ns sz h pc ls stk := c_V hd hm hc he hci hn hst hW hR (fun v h' q => by obtain ⟨z, rfl, q⟩ := q; exact kk z h' q)
theorem i_S {B : Int → AH → Prop} (hd : decode M.2.1 pc = .ok (.invokestatic idx, 3) ∧ pc + 3 = pc') (hm : MS M.1.cls idx M' n) (hc : CC M' d 0 0 As sz h (QI B)) (hn : As.length = n) (hst : stk = As.reverse ++ st) (hW : Nat.ble (st.map fun v => v.category).sum 8 = true)
    (hR : (d + 1 ≤ R.frames ∧ 8 + (M'.2.2.1 + 11) + 40 * d ≤ R.locals) ∧ nc ≤ R.cells ∧ ns ≤ R.slots)
    (kk : ∀ z h', B z h' → XX M R G Z nc ns sz h' pc' ls (.int (zI z) :: st)) : XX M R G Z nc ns sz h pc ls stk := c_S hd hm hc hn hst hW hR (fun v h' q => by obtain ⟨z, rfl, q⟩ := q; exact kk z h' q)
end
-- counting and seeking
def cB (p : Nat → Bool) : Nat → Nat
  | 0 => 0
  | n + 1 => cB p n + (if p n then 1 else 0)
theorem cB_s (p : Nat → Bool) (n : Nat) : cB p (n + 1) = cB p n + (if p n then 1 else 0) := rfl
theorem cB_le (p : Nat → Bool) : ∀ n, cB p n ≤ n
  | 0 => Nat.le_refl _
  | n + 1 => by
    have := cB_le p n
    rw [cB_s]
    split <;> omega
theorem cB_mono (p : Nat → Bool) (m : Nat) : ∀ n, cB p m ≤ cB p (m + n)
  | 0 => Nat.le_refl _
  | n + 1 => by
    have := cB_mono p m n
    rw [← Nat.add_assoc, cB_s]
    omega
theorem cB_cong {p q : Nat → Bool} : ∀ {n : Nat}, (∀ k, k < n → p k = q k) → cB p n = cB q n
  | 0, _ => rfl
  | n + 1, h => by rw [cB_s, cB_s, cB_cong (fun k hk => h k (by omega)), h n (by omega)]

