section
variable {M : MD} {R : Room} {G : XG} {Z : XZ} {nc ns sz : Nat} {h : AH} {pc pc' : Nat} {ls : List (Option Value)} {st : List Value}
theorem x_iconst {n : Int} (hd : decode M.2.1 pc = .ok (.iconst n, 1) ∧ pc + 1 = pc') (k : XX M R G Z nc ns sz h pc' ls (.int (zI n) :: st)) : XX M R G Z nc ns sz h pc ls st := by
  intro p l e s m args below meth c lo D H locs la C g hl hh hs hS
  obtain ⟨hd, rfl⟩ := hd
  exact lv_iconst C.1 C.2.1 hd rfl (k C g hl hh hs hS)

theorem x_bipush {n : Int} (hd : decode M.2.1 pc = .ok (.bipush n, 2) ∧ pc + 2 = pc') (hv : (Int8.ofInt n).toInt32 = zI n) (k : XX M R G Z nc ns sz h pc' ls (.int (zI n) :: st)) : XX M R G Z nc ns sz h pc ls st := by
  intro p l e s m args below meth c lo D H locs la C g hl hh hs hS
  obtain ⟨hd, rfl⟩ := hd
  refine lv_bipush C.1 C.2.1 hd ?_ (k C g hl hh hs hS)
  exact hv

theorem x_sipush {n : Int} (hd : decode M.2.1 pc = .ok (.sipush n, 3) ∧ pc + 3 = pc') (hv : (Int16.ofInt n).toInt32 = zI n) (k : XX M R G Z nc ns sz h pc' ls (.int (zI n) :: st)) : XX M R G Z nc ns sz h pc ls st := by
  intro p l e s m args below meth c lo D H locs la C g hl hh hs hS
  obtain ⟨hd, rfl⟩ := hd
  refine lv_sipush C.1 C.2.1 hd ?_ (k C g hl hh hs hS)
  exact hv

theorem x_lconst {n : Fin 2} {v : Int64} (hd : decode M.2.1 pc = .ok (.lconst n, 1) ∧ pc + 1 = pc') (hv : Int64.ofNat (n : Nat) = v) (k : XX M R G Z nc ns sz h pc' ls (.long v :: st)) : XX M R G Z nc ns sz h pc ls st := by
  intro p l e s m args below meth c lo D H locs la C g hl hh hs hS
  obtain ⟨hd, rfl⟩ := hd
  exact lv_lconst C.1 C.2.1 hd hv (k C g hl hh hs hS)

theorem x_ldc2 {index : Nat} {v : Int64} (hd : decode M.2.1 pc = .ok (.ldc2_w index, 3) ∧ pc + 3 = pc') (hv : Cond.constantLong M.1.cls index v ∈ TG) (k : XX M R G Z nc ns sz h pc' ls (.long v :: st)) : XX M R G Z nc ns sz h pc ls st := by
  intro p l e s m args below meth c lo D H locs la C g hl hh hs hS
  obtain ⟨hd, rfl⟩ := hd
  exact lv_ldc2 C.1 C.2.1 C.2.2.2.2.1 (C.2.2.2.2.2.1 _ hv) hd (k C g hl hh hs hS)

theorem x_iload_n {k0 : Fin 4} {x : Int32} (hd : decode M.2.1 pc = .ok (.iload_n k0, 1) ∧ pc + 1 = pc') (hv : ls[(k0 : Nat)]? = some (some (.int x))) (k : XX M R G Z nc ns sz h pc' ls (.int x :: st)) : XX M R G Z nc ns sz h pc ls st := by
  intro p l e s m args below meth c lo D H locs la C g hl hh hs hS
  obtain ⟨hd, rfl⟩ := hd
  exact lv_iload_n C.1 C.2.1 hd rfl (hl.2.2 _ _ hv) (k C g hl hh hs hS)

theorem x_iload {i : Nat} {x : Int32} (hd : decode M.2.1 pc = .ok (.iload i, 2) ∧ pc + 2 = pc') (hv : ls[i]? = some (some (.int x))) (k : XX M R G Z nc ns sz h pc' ls (.int x :: st)) : XX M R G Z nc ns sz h pc ls st := by
  intro p l e s m args below meth c lo D H locs la C g hl hh hs hS
  obtain ⟨hd, rfl⟩ := hd
  exact lv_iload C.1 C.2.1 hd (hl.2.2 _ _ hv) (k C g hl hh hs hS)

theorem x_lload_n {k0 : Fin 4} {x : Int64} (hd : decode M.2.1 pc = .ok (.lload_n k0, 1) ∧ pc + 1 = pc') (hv : ls[(k0 : Nat)]? = some (some (.long x))) (k : XX M R G Z nc ns sz h pc' ls (.long x :: st)) : XX M R G Z nc ns sz h pc ls st := by
  intro p l e s m args below meth c lo D H locs la C g hl hh hs hS
  obtain ⟨hd, rfl⟩ := hd
  exact lv_lload_n C.1 C.2.1 hd rfl (hl.2.2 _ _ hv) (k C g hl hh hs hS)

theorem x_lload {i : Nat} {x : Int64} (hd : decode M.2.1 pc = .ok (.lload i, 2) ∧ pc + 2 = pc') (hv : ls[i]? = some (some (.long x))) (k : XX M R G Z nc ns sz h pc' ls (.long x :: st)) : XX M R G Z nc ns sz h pc ls st := by
  intro p l e s m args below meth c lo D H locs la C g hl hh hs hS
  obtain ⟨hd, rfl⟩ := hd
  exact lv_lload C.1 C.2.1 hd (hl.2.2 _ _ hv) (k C g hl hh hs hS)

theorem x_aload_n {k0 : Fin 4} {x : Nat} (hd : decode M.2.1 pc = .ok (.aload_n k0, 1) ∧ pc + 1 = pc') (hv : ls[(k0 : Nat)]? = some (some (.ref x))) (k : XX M R G Z nc ns sz h pc' ls (.ref x :: st)) : XX M R G Z nc ns sz h pc ls st := by
  intro p l e s m args below meth c lo D H locs la C g hl hh hs hS
  obtain ⟨hd, rfl⟩ := hd
  exact lv_aload_n C.1 C.2.1 hd rfl (hl.2.2 _ _ hv) (k C g hl hh hs hS)

theorem x_aload {i : Nat} {x : Nat} (hd : decode M.2.1 pc = .ok (.aload i, 2) ∧ pc + 2 = pc') (hv : ls[i]? = some (some (.ref x))) (k : XX M R G Z nc ns sz h pc' ls (.ref x :: st)) : XX M R G Z nc ns sz h pc ls st := by
  intro p l e s m args below meth c lo D H locs la C g hl hh hs hS
  obtain ⟨hd, rfl⟩ := hd
  exact lv_aload C.1 C.2.1 hd (hl.2.2 _ _ hv) (k C g hl hh hs hS)

theorem x_istore_n {k0 : Fin 4} {x : Int32} (hd : decode M.2.1 pc = .ok (.istore_n k0, 1) ∧ pc + 1 = pc') (hn : Nat.blt (k0 : Nat) ls.length = true) (h2 : xno2 ls (k0 : Nat) = true) (hM : ls.length = M.2.2.1) (k : XX M R G Z nc ns sz h pc' (xst ls (k0 : Nat) (.int x)) st) : XX M R G Z nc ns sz h pc ls (.int x :: st) := by
  intro p l e s m args below meth c lo D H locs la C g hl hh hs hS
  obtain ⟨hd, rfl⟩ := hd
  have hn' : (k0 : Nat) < ls.length := Nat.blt_eq.mp hn
  refine lv_istore_n C.1 C.2.1 hd rfl hl.lv (by rw [← hM]; exact hn') rfl (fun la' hl' => ?_)
  exact k C g (xhas.of hl' (xst_sub h2 hn')) hh hs hS

theorem x_istore {i : Nat} {x : Int32} (hd : decode M.2.1 pc = .ok (.istore i, 2) ∧ pc + 2 = pc') (hn : Nat.blt i ls.length = true) (h2 : xno2 ls i = true) (hM : ls.length = M.2.2.1) (k : XX M R G Z nc ns sz h pc' (xst ls i (.int x)) st) : XX M R G Z nc ns sz h pc ls (.int x :: st) := by
  intro p l e s m args below meth c lo D H locs la C g hl hh hs hS
  obtain ⟨hd, rfl⟩ := hd
  have hn' : i < ls.length := Nat.blt_eq.mp hn
  refine lv_istore C.1 C.2.1 hd hl.lv (by rw [← hM]; exact hn') rfl (fun la' hl' => ?_)
  exact k C g (xhas.of hl' (xst_sub h2 hn')) hh hs hS

theorem x_astore_n {k0 : Fin 4} {x : Nat} (hd : decode M.2.1 pc = .ok (.astore_n k0, 1) ∧ pc + 1 = pc') (hn : Nat.blt (k0 : Nat) ls.length = true) (h2 : xno2 ls (k0 : Nat) = true) (hM : ls.length = M.2.2.1) (k : XX M R G Z nc ns sz h pc' (xst ls (k0 : Nat) (.ref x)) st) : XX M R G Z nc ns sz h pc ls (.ref x :: st) := by
  intro p l e s m args below meth c lo D H locs la C g hl hh hs hS
  obtain ⟨hd, rfl⟩ := hd
  have hn' : (k0 : Nat) < ls.length := Nat.blt_eq.mp hn
  refine lv_astore_n C.1 C.2.1 hd rfl hl.lv (by rw [← hM]; exact hn') rfl (fun la' hl' => ?_)
  exact k C g (xhas.of hl' (xst_sub h2 hn')) hh hs hS

theorem x_astore {i : Nat} {x : Nat} (hd : decode M.2.1 pc = .ok (.astore i, 2) ∧ pc + 2 = pc') (hn : Nat.blt i ls.length = true) (h2 : xno2 ls i = true) (hM : ls.length = M.2.2.1) (k : XX M R G Z nc ns sz h pc' (xst ls i (.ref x)) st) : XX M R G Z nc ns sz h pc ls (.ref x :: st) := by
  intro p l e s m args below meth c lo D H locs la C g hl hh hs hS
  obtain ⟨hd, rfl⟩ := hd
  have hn' : i < ls.length := Nat.blt_eq.mp hn
  refine lv_astore C.1 C.2.1 hd hl.lv (by rw [← hM]; exact hn') rfl (fun la' hl' => ?_)
  exact k C g (xhas.of hl' (xst_sub h2 hn')) hh hs hS

/-- a long: its second place is unknown afterwards -/
def xst2 (ls : List (Option Value)) (i : Nat) (v : Value) : List (Option Value) := (xst ls i v).set (i + 1) none
theorem xst2_sub {ls : List (Option Value)} {i : Nat} {v : Value} (h2 : xno2 ls i = true) (hi : i < ls.length) : ∀ q ∈ xas 0 (xst2 ls i v), q ∈ (i, v) :: (xas 0 ls).filter (fun q => !(q.1 == i) && (!(q.1 == i + 1) && !(q.1 + 1 == i && q.2.category == 2))) := by
  rintro ⟨j, w⟩ hq
  have h := (xas_mem _ 0 j w).mp hq
  rw [Nat.sub_zero] at h
  have hne : j ≠ i + 1 := by
    rintro rfl
    have h' := h.2
    unfold xst2 at h'
    rw [List.getElem?_set] at h'
    simp at h'
  have h3 : (xst ls i v)[j]? = some (some w) := by
    have h' := h.2
    unfold xst2 at h'
    rwa [List.getElem?_set_ne (Ne.symm hne)] at h'
  rcases xst_get ls i j v w h3 with ⟨rfl, rfl⟩ | ⟨a, b⟩
  · exact List.mem_cons_self
  · refine List.mem_cons_of_mem _ (List.mem_filter.mpr ⟨(xas_mem ls 0 j w).mpr ⟨Nat.zero_le _, by rw [Nat.sub_zero]; exact b⟩, ?_⟩)
    simp only [Bool.and_eq_true, Bool.not_eq_true', beq_eq_false_iff_ne, ne_eq, Bool.and_eq_false_iff]
    refine ⟨a, hne, ?_⟩
    by_cases e : j + 1 = i
    · exact Or.inr (by rw [xno2_get ls i j w h2 b e hi]; decide)
    · exact Or.inl e
theorem x_lstore_n {k0 : Fin 4} {x : Int64} (hd : decode M.2.1 pc = .ok (.lstore_n k0, 1) ∧ pc + 1 = pc') (hn : Nat.blt ((k0 : Nat) + 1) ls.length = true) (h2 : xno2 ls (k0 : Nat) = true) (hM : ls.length = M.2.2.1) (k : XX M R G Z nc ns sz h pc' (xst2 ls (k0 : Nat) (.long x)) st) : XX M R G Z nc ns sz h pc ls (.long x :: st) := by
  intro p l e s m args below meth c lo D H locs la C g hl hh hs hS
  obtain ⟨hd, rfl⟩ := hd
  have hn' : (k0 : Nat) + 1 < ls.length := Nat.blt_eq.mp hn
  refine lv_lstore_n C.1 C.2.1 hd rfl hl.lv (by rw [← hM]; exact hn') rfl (fun la' hl' => ?_)
  exact k C g (xhas.of hl' (xst2_sub h2 (by omega))) hh hs hS
theorem x_iinc {i : Nat} {n : Int} {z : Int} (hd : decode M.2.1 pc = .ok (.iinc i n, 3) ∧ pc + 3 = pc') (hv : ls[i]? = some (some (.int (zI z)))) (h2 : xno2 ls i = true) (hM : ls.length = M.2.2.1) (k : XX M R G Z nc ns sz h pc' (xst ls i (.int (zI (z + n)))) st) : XX M R G Z nc ns sz h pc ls st := by
  intro p l e s m args below meth c lo D H locs la C g hl hh hs hS
  obtain ⟨hd, rfl⟩ := hd
  have hn' : i < ls.length := (List.getElem?_eq_some_iff.mp hv).1
  have hmem : (i, Value.int (zI z)) ∈ xas 0 ls := (xas_mem ls 0 i _).mpr ⟨Nat.zero_le _, by rw [Nat.sub_zero]; exact hv⟩
  obtain ⟨j, hj⟩ := List.getElem?_of_mem hmem
  refine lv_iinc C.1 C.2.1 hd hl.lv hj (zI_add z n) (by rw [← hM]; exact hn') rfl (fun la' hl' => ?_)
  exact k C g (xhas.of hl' (xst_sub h2 hn')) hh hs hS

theorem x_iadd {a b : Int} (hd : decode M.2.1 pc = .ok (.iadd, 1) ∧ pc + 1 = pc') (k : XX M R G Z nc ns sz h pc' ls (.int (zI (a + b)) :: st)) : XX M R G Z nc ns sz h pc ls (.int (zI b) :: .int (zI a) :: st) := by
  intro p l e s m args below meth c lo D H locs la C g hl hh hs hS
  obtain ⟨hd, rfl⟩ := hd
  refine lv_iadd C.1 C.2.1 hd ?_
  rw [zI_add]
  exact k C g hl hh hs hS

theorem x_isub {a b : Int} (hd : decode M.2.1 pc = .ok (.isub, 1) ∧ pc + 1 = pc') (k : XX M R G Z nc ns sz h pc' ls (.int (zI (a - b)) :: st)) : XX M R G Z nc ns sz h pc ls (.int (zI b) :: .int (zI a) :: st) := by
  intro p l e s m args below meth c lo D H locs la C g hl hh hs hS
  obtain ⟨hd, rfl⟩ := hd
  refine lv_isub C.1 C.2.1 hd ?_
  rw [zI_sub]
  exact k C g hl hh hs hS

theorem x_imul {a b : Int} (hd : decode M.2.1 pc = .ok (.imul, 1) ∧ pc + 1 = pc') (k : XX M R G Z nc ns sz h pc' ls (.int (zI (a * b)) :: st)) : XX M R G Z nc ns sz h pc ls (.int (zI b) :: .int (zI a) :: st) := by
  intro p l e s m args below meth c lo D H locs la C g hl hh hs hS
  obtain ⟨hd, rfl⟩ := hd
  refine lv_imul C.1 C.2.1 hd ?_
  rw [zI_mul]
  exact k C g hl hh hs hS

theorem x_ineg {a : Int} (hd : decode M.2.1 pc = .ok (.ineg, 1) ∧ pc + 1 = pc') (k : XX M R G Z nc ns sz h pc' ls (.int (zI (-a)) :: st)) : XX M R G Z nc ns sz h pc ls (.int (zI a) :: st) := by
  intro p l e s m args below meth c lo D H locs la C g hl hh hs hS
  obtain ⟨hd, rfl⟩ := hd
  refine lv_ineg C.1 C.2.1 hd ?_
  rw [zI_neg]
  exact k C g hl hh hs hS

theorem x_iand {x y : Int32} {z : Int} (hd : decode M.2.1 pc = .ok (.iand, 1) ∧ pc + 1 = pc') (hv : x &&& y = zI z) (k : XX M R G Z nc ns sz h pc' ls (.int (zI z) :: st)) : XX M R G Z nc ns sz h pc ls (.int y :: .int x :: st) := by
  intro p l e s m args below meth c lo D H locs la C g hl hh hs hS
  obtain ⟨hd, rfl⟩ := hd
  refine lv_iand C.1 C.2.1 hd ?_
  rw [hv]
  exact k C g hl hh hs hS

theorem x_ixor {x y : Int32} {z : Int} (hd : decode M.2.1 pc = .ok (.ixor, 1) ∧ pc + 1 = pc') (hv : x ^^^ y = zI z) (k : XX M R G Z nc ns sz h pc' ls (.int (zI z) :: st)) : XX M R G Z nc ns sz h pc ls (.int y :: .int x :: st) := by
  intro p l e s m args below meth c lo D H locs la C g hl hh hs hS
  obtain ⟨hd, rfl⟩ := hd
  refine lv_ixor C.1 C.2.1 hd ?_
  rw [hv]
  exact k C g hl hh hs hS

theorem x_ishl {x y : Int32} {z : Int} (hd : decode M.2.1 pc = .ok (.ishl, 1) ∧ pc + 1 = pc') (hv : x <<< (y &&& 31) = zI z) (k : XX M R G Z nc ns sz h pc' ls (.int (zI z) :: st)) : XX M R G Z nc ns sz h pc ls (.int y :: .int x :: st) := by
  intro p l e s m args below meth c lo D H locs la C g hl hh hs hS
  obtain ⟨hd, rfl⟩ := hd
  refine lv_ishl C.1 C.2.1 hd ?_
  rw [hv]
  exact k C g hl hh hs hS

theorem x_ishr {x y : Int32} {z : Int} (hd : decode M.2.1 pc = .ok (.ishr, 1) ∧ pc + 1 = pc') (hv : x >>> (y &&& 31) = zI z) (k : XX M R G Z nc ns sz h pc' ls (.int (zI z) :: st)) : XX M R G Z nc ns sz h pc ls (.int y :: .int x :: st) := by
  intro p l e s m args below meth c lo D H locs la C g hl hh hs hS
  obtain ⟨hd, rfl⟩ := hd
  refine lv_ishr C.1 C.2.1 hd ?_
  rw [hv]
  exact k C g hl hh hs hS

theorem x_irem {x y : Int32} {z : Int} (hd : decode M.2.1 pc = .ok (.irem, 1) ∧ pc + 1 = pc') (hy : ¬ y = 0) (hv : x - x / y * y = zI z) (k : XX M R G Z nc ns sz h pc' ls (.int (zI z) :: st)) : XX M R G Z nc ns sz h pc ls (.int y :: .int x :: st) := by
  intro p l e s m args below meth c lo D H locs la C g hl hh hs hS
  obtain ⟨hd, rfl⟩ := hd
  refine lv_irem C.1 C.2.1 hd hy ?_
  rw [hv]
  exact k C g hl hh hs hS

theorem x_ladd {x y v : Int64} (hd : decode M.2.1 pc = .ok (.ladd, 1) ∧ pc + 1 = pc') (hv : x + y = v) (k : XX M R G Z nc ns sz h pc' ls (.long v :: st)) : XX M R G Z nc ns sz h pc ls (.long y :: .long x :: st) := by
  intro p l e s m args below meth c lo D H locs la C g hl hh hs hS
  obtain ⟨hd, rfl⟩ := hd
  refine lv_ladd C.1 C.2.1 hd ?_
  rw [hv]
  exact k C g hl hh hs hS

theorem x_lsub {x y v : Int64} (hd : decode M.2.1 pc = .ok (.lsub, 1) ∧ pc + 1 = pc') (hv : x - y = v) (k : XX M R G Z nc ns sz h pc' ls (.long v :: st)) : XX M R G Z nc ns sz h pc ls (.long y :: .long x :: st) := by
  intro p l e s m args below meth c lo D H locs la C g hl hh hs hS
  obtain ⟨hd, rfl⟩ := hd
  refine lv_lsub C.1 C.2.1 hd ?_
  rw [hv]
  exact k C g hl hh hs hS

theorem x_land {x y v : Int64} (hd : decode M.2.1 pc = .ok (.land, 1) ∧ pc + 1 = pc') (hv : x &&& y = v) (k : XX M R G Z nc ns sz h pc' ls (.long v :: st)) : XX M R G Z nc ns sz h pc ls (.long y :: .long x :: st) := by
  intro p l e s m args below meth c lo D H locs la C g hl hh hs hS
  obtain ⟨hd, rfl⟩ := hd
  refine lv_land C.1 C.2.1 hd ?_
  rw [hv]
  exact k C g hl hh hs hS

theorem x_lor {x y v : Int64} (hd : decode M.2.1 pc = .ok (.lor, 1) ∧ pc + 1 = pc') (hv : x ||| y = v) (k : XX M R G Z nc ns sz h pc' ls (.long v :: st)) : XX M R G Z nc ns sz h pc ls (.long y :: .long x :: st) := by
  intro p l e s m args below meth c lo D H locs la C g hl hh hs hS
  obtain ⟨hd, rfl⟩ := hd
  refine lv_lor C.1 C.2.1 hd ?_
  rw [hv]
  exact k C g hl hh hs hS

theorem x_lxor {x y v : Int64} (hd : decode M.2.1 pc = .ok (.lxor, 1) ∧ pc + 1 = pc') (hv : x ^^^ y = v) (k : XX M R G Z nc ns sz h pc' ls (.long v :: st)) : XX M R G Z nc ns sz h pc ls (.long y :: .long x :: st) := by
  intro p l e s m args below meth c lo D H locs la C g hl hh hs hS
  obtain ⟨hd, rfl⟩ := hd
  refine lv_lxor C.1 C.2.1 hd ?_
  rw [hv]
  exact k C g hl hh hs hS

theorem x_lushr {x v : Int64} {y : Int32} (hd : decode M.2.1 pc = .ok (.lushr, 1) ∧ pc + 1 = pc') (hv : (x.toUInt64 >>> (y.toInt64.toUInt64 &&& Int64.toUInt64 63)).toInt64 = v) (k : XX M R G Z nc ns sz h pc' ls (.long v :: st)) : XX M R G Z nc ns sz h pc ls (.int y :: .long x :: st) := by
  intro p l e s m args below meth c lo D H locs la C g hl hh hs hS
  obtain ⟨hd, rfl⟩ := hd
  exact lv_lushr C.1 C.2.1 hd hv (k C g hl hh hs hS)

theorem x_lshl {x v : Int64} {y : Int32} (hd : decode M.2.1 pc = .ok (.lshl, 1) ∧ pc + 1 = pc') (hv : x <<< (y.toInt64 &&& 63) = v) (k : XX M R G Z nc ns sz h pc' ls (.long v :: st)) : XX M R G Z nc ns sz h pc ls (.int y :: .long x :: st) := by
  intro p l e s m args below meth c lo D H locs la C g hl hh hs hS
  obtain ⟨hd, rfl⟩ := hd
  exact lv_lshl C.1 C.2.1 hd hv (k C g hl hh hs hS)

theorem x_lshr {x v : Int64} {y : Int32} (hd : decode M.2.1 pc = .ok (.lshr, 1) ∧ pc + 1 = pc') (hv : x >>> (y.toInt64 &&& 63) = v) (k : XX M R G Z nc ns sz h pc' ls (.long v :: st)) : XX M R G Z nc ns sz h pc ls (.int y :: .long x :: st) := by
  intro p l e s m args below meth c lo D H locs la C g hl hh hs hS
  obtain ⟨hd, rfl⟩ := hd
  exact lv_lshr C.1 C.2.1 hd hv (k C g hl hh hs hS)

theorem x_lcmp {x y : Int64} {z : Int} (hd : decode M.2.1 pc = .ok (.lcmp, 1) ∧ pc + 1 = pc') (hv : lg_cmp x y = zI z) (k : XX M R G Z nc ns sz h pc' ls (.int (zI z) :: st)) : XX M R G Z nc ns sz h pc ls (.long y :: .long x :: st) := by
  intro p l e s m args below meth c lo D H locs la C g hl hh hs hS
  obtain ⟨hd, rfl⟩ := hd
  refine W.lcmp C.1 C.2.1 hd ?_
  rw [hv]
  exact k C g hl hh hs hS

theorem x_l2i {x : Int64} {z : Int} (hd : decode M.2.1 pc = .ok (.l2i, 1) ∧ pc + 1 = pc') (hv : x.toInt32 = zI z) (k : XX M R G Z nc ns sz h pc' ls (.int (zI z) :: st)) : XX M R G Z nc ns sz h pc ls (.long x :: st) := by
  intro p l e s m args below meth c lo D H locs la C g hl hh hs hS
  obtain ⟨hd, rfl⟩ := hd
  exact lv_l2i C.1 C.2.1 hd hv (k C g hl hh hs hS)

theorem x_i2c {x : Int32} {z : Int} (hd : decode M.2.1 pc = .ok (.i2c, 1) ∧ pc + 1 = pc') (hv : (x.toUInt32 % 65536).toInt32 = zI z) (k : XX M R G Z nc ns sz h pc' ls (.int (zI z) :: st)) : XX M R G Z nc ns sz h pc ls (.int x :: st) := by
  intro p l e s m args below meth c lo D H locs la C g hl hh hs hS
  obtain ⟨hd, rfl⟩ := hd
  exact lv_i2c C.1 C.2.1 hd hv (k C g hl hh hs hS)

theorem x_dup {v : Value} (hd : decode M.2.1 pc = .ok (.dup, 1) ∧ pc + 1 = pc') (hv : v.category = 1) (k : XX M R G Z nc ns sz h pc' ls (v :: v :: st)) : XX M R G Z nc ns sz h pc ls (v :: st) := by
  intro p l e s m args below meth c lo D H locs la C g hl hh hs hS
  obtain ⟨hd, rfl⟩ := hd
  exact lv_dup C.1 C.2.1 hd hv (k C g hl hh hs hS)

theorem x_pop {v : Value} (hd : decode M.2.1 pc = .ok (.pop, 1) ∧ pc + 1 = pc') (hv : v.category = 1) (k : XX M R G Z nc ns sz h pc' ls st) : XX M R G Z nc ns sz h pc ls (v :: st) := by
  intro p l e s m args below meth c lo D H locs la C g hl hh hs hS
  obtain ⟨hd, rfl⟩ := hd
  exact lv_pop C.1 C.2.1 hd hv (k C g hl hh hs hS)

theorem x_dup2 {v u : Value} (hd : decode M.2.1 pc = .ok (.dup2, 1) ∧ pc + 1 = pc') (hv : v.category = 1) (hu : u.category = 1) (k : XX M R G Z nc ns sz h pc' ls (v :: u :: v :: u :: st)) : XX M R G Z nc ns sz h pc ls (v :: u :: st) := by
  intro p l e s m args below meth c lo D H locs la C g hl hh hs hS
  obtain ⟨hd, rfl⟩ := hd
  exact lv_dup2_11 C.1 C.2.1 hd hv hu (k C g hl hh hs hS)

/-- what a branch asks, in the form of the kit's row -/
theorem x_icmp_eq {a b : Int} {off : Int} {tgt : Nat} (hd : decode M.2.1 pc = .ok (.if_icmp .eq off, 3) ∧ pc + 3 = pc' ∧ ((pc : Nat) : Int) + off = ((tgt : Nat) : Int)) (ha : inR a) (hb : inR b) (kt : a = b → XX M R G Z nc ns sz h tgt ls st) (kf : ¬ (a = b) → XX M R G Z nc ns sz h pc' ls st) : XX M R G Z nc ns sz h pc ls (.int (zI b) :: .int (zI a) :: st) := by
  intro p l e s m args below meth c lo D H locs la C g hl hh hs hS
  obtain ⟨hd, rfl, ht⟩ := hd
  have key : (zI a = zI b) ↔ (a = b) := zI_inj ha hb
  exact lv_icmp_eq C.1 C.2.1 hd ht (fun q => kt (key.mp q) C g hl hh hs hS) (fun q => kf ((fun z => q (key.mpr z))) C g hl hh hs hS)

theorem x_if_eq {a : Int} {off : Int} {tgt : Nat} (hd : decode M.2.1 pc = .ok (.ifCond .eq off, 3) ∧ pc + 3 = pc' ∧ ((pc : Nat) : Int) + off = ((tgt : Nat) : Int)) (ha : inR a) (kt : a = 0 → XX M R G Z nc ns sz h tgt ls st) (kf : ¬ (a = 0) → XX M R G Z nc ns sz h pc' ls st) : XX M R G Z nc ns sz h pc ls (.int (zI a) :: st) := by
  intro p l e s m args below meth c lo D H locs la C g hl hh hs hS
  obtain ⟨hd, rfl, ht⟩ := hd
  have hb : inR 0 := ⟨by decide, by decide⟩
  have key : (zI a = 0) ↔ (a = 0) := by
    have q := zI_inj ha hb
    rwa [zI_0] at q
  exact lv_if_eq C.1 C.2.1 hd ht (fun q => kt (key.mp q) C g hl hh hs hS) (fun q => kf ((fun z => q (key.mpr z))) C g hl hh hs hS)

theorem x_icmp_ne {a b : Int} {off : Int} {tgt : Nat} (hd : decode M.2.1 pc = .ok (.if_icmp .ne off, 3) ∧ pc + 3 = pc' ∧ ((pc : Nat) : Int) + off = ((tgt : Nat) : Int)) (ha : inR a) (hb : inR b) (kt : ¬ a = b → XX M R G Z nc ns sz h tgt ls st) (kf : a = b → XX M R G Z nc ns sz h pc' ls st) : XX M R G Z nc ns sz h pc ls (.int (zI b) :: .int (zI a) :: st) := by
  intro p l e s m args below meth c lo D H locs la C g hl hh hs hS
  obtain ⟨hd, rfl, ht⟩ := hd
  have key : (¬ zI a = zI b) ↔ (¬ a = b) := not_congr (zI_inj ha hb)
  exact lv_icmp_ne C.1 C.2.1 hd ht (fun q => kt (key.mp q) C g hl hh hs hS) (fun q => kf ((Classical.byContradiction fun z => key.mpr z q)) C g hl hh hs hS)

theorem x_if_ne {a : Int} {off : Int} {tgt : Nat} (hd : decode M.2.1 pc = .ok (.ifCond .ne off, 3) ∧ pc + 3 = pc' ∧ ((pc : Nat) : Int) + off = ((tgt : Nat) : Int)) (ha : inR a) (kt : ¬ a = 0 → XX M R G Z nc ns sz h tgt ls st) (kf : a = 0 → XX M R G Z nc ns sz h pc' ls st) : XX M R G Z nc ns sz h pc ls (.int (zI a) :: st) := by
  intro p l e s m args below meth c lo D H locs la C g hl hh hs hS
  obtain ⟨hd, rfl, ht⟩ := hd
  have hb : inR 0 := ⟨by decide, by decide⟩
  have key : (¬ zI a = 0) ↔ (¬ a = 0) := by
    have q := not_congr (zI_inj ha hb)
    rwa [zI_0] at q
  exact lv_if_ne C.1 C.2.1 hd ht (fun q => kt (key.mp q) C g hl hh hs hS) (fun q => kf ((Classical.byContradiction fun z => key.mpr z q)) C g hl hh hs hS)

theorem x_icmp_lt {a b : Int} {off : Int} {tgt : Nat} (hd : decode M.2.1 pc = .ok (.if_icmp .lt off, 3) ∧ pc + 3 = pc' ∧ ((pc : Nat) : Int) + off = ((tgt : Nat) : Int)) (ha : inR a) (hb : inR b) (kt : a < b → XX M R G Z nc ns sz h tgt ls st) (kf : ¬ (a < b) → XX M R G Z nc ns sz h pc' ls st) : XX M R G Z nc ns sz h pc ls (.int (zI b) :: .int (zI a) :: st) := by
  intro p l e s m args below meth c lo D H locs la C g hl hh hs hS
  obtain ⟨hd, rfl, ht⟩ := hd
  have key : (zI a < zI b) ↔ (a < b) := zI_lt ha hb
  exact lv_icmp_lt C.1 C.2.1 hd ht (fun q => kt (key.mp q) C g hl hh hs hS) (fun q => kf ((fun z => q (key.mpr z))) C g hl hh hs hS)

theorem x_if_lt {a : Int} {off : Int} {tgt : Nat} (hd : decode M.2.1 pc = .ok (.ifCond .lt off, 3) ∧ pc + 3 = pc' ∧ ((pc : Nat) : Int) + off = ((tgt : Nat) : Int)) (ha : inR a) (kt : a < 0 → XX M R G Z nc ns sz h tgt ls st) (kf : ¬ (a < 0) → XX M R G Z nc ns sz h pc' ls st) : XX M R G Z nc ns sz h pc ls (.int (zI a) :: st) := by
  intro p l e s m args below meth c lo D H locs la C g hl hh hs hS
  obtain ⟨hd, rfl, ht⟩ := hd
  have hb : inR 0 := ⟨by decide, by decide⟩
  have key : (zI a < 0) ↔ (a < 0) := by
    have q := zI_lt ha hb
    rwa [zI_0] at q
  exact lv_if_lt C.1 C.2.1 hd ht (fun q => kt (key.mp q) C g hl hh hs hS) (fun q => kf ((fun z => q (key.mpr z))) C g hl hh hs hS)

theorem x_icmp_ge {a b : Int} {off : Int} {tgt : Nat} (hd : decode M.2.1 pc = .ok (.if_icmp .ge off, 3) ∧ pc + 3 = pc' ∧ ((pc : Nat) : Int) + off = ((tgt : Nat) : Int)) (ha : inR a) (hb : inR b) (kt : b ≤ a → XX M R G Z nc ns sz h tgt ls st) (kf : ¬ (b ≤ a) → XX M R G Z nc ns sz h pc' ls st) : XX M R G Z nc ns sz h pc ls (.int (zI b) :: .int (zI a) :: st) := by
  intro p l e s m args below meth c lo D H locs la C g hl hh hs hS
  obtain ⟨hd, rfl, ht⟩ := hd
  have key : (zI b ≤ zI a) ↔ (b ≤ a) := zI_le hb ha
  exact lv_icmp_ge C.1 C.2.1 hd ht (fun q => kt (key.mp q) C g hl hh hs hS) (fun q => kf ((fun z => q (key.mpr z))) C g hl hh hs hS)

theorem x_if_ge {a : Int} {off : Int} {tgt : Nat} (hd : decode M.2.1 pc = .ok (.ifCond .ge off, 3) ∧ pc + 3 = pc' ∧ ((pc : Nat) : Int) + off = ((tgt : Nat) : Int)) (ha : inR a) (kt : 0 ≤ a → XX M R G Z nc ns sz h tgt ls st) (kf : ¬ (0 ≤ a) → XX M R G Z nc ns sz h pc' ls st) : XX M R G Z nc ns sz h pc ls (.int (zI a) :: st) := by
  intro p l e s m args below meth c lo D H locs la C g hl hh hs hS
  obtain ⟨hd, rfl, ht⟩ := hd
  have hb : inR 0 := ⟨by decide, by decide⟩
  have key : (0 ≤ zI a) ↔ (0 ≤ a) := by
    have q := zI_le hb ha
    rwa [zI_0] at q
  exact lv_if_ge C.1 C.2.1 hd ht (fun q => kt (key.mp q) C g hl hh hs hS) (fun q => kf ((fun z => q (key.mpr z))) C g hl hh hs hS)

theorem x_icmp_gt {a b : Int} {off : Int} {tgt : Nat} (hd : decode M.2.1 pc = .ok (.if_icmp .gt off, 3) ∧ pc + 3 = pc' ∧ ((pc : Nat) : Int) + off = ((tgt : Nat) : Int)) (ha : inR a) (hb : inR b) (kt : b < a → XX M R G Z nc ns sz h tgt ls st) (kf : ¬ (b < a) → XX M R G Z nc ns sz h pc' ls st) : XX M R G Z nc ns sz h pc ls (.int (zI b) :: .int (zI a) :: st) := by
  intro p l e s m args below meth c lo D H locs la C g hl hh hs hS
  obtain ⟨hd, rfl, ht⟩ := hd
  have key : (zI b < zI a) ↔ (b < a) := zI_lt hb ha
  exact lv_icmp_gt C.1 C.2.1 hd ht (fun q => kt (key.mp q) C g hl hh hs hS) (fun q => kf ((fun z => q (key.mpr z))) C g hl hh hs hS)

theorem x_if_gt {a : Int} {off : Int} {tgt : Nat} (hd : decode M.2.1 pc = .ok (.ifCond .gt off, 3) ∧ pc + 3 = pc' ∧ ((pc : Nat) : Int) + off = ((tgt : Nat) : Int)) (ha : inR a) (kt : 0 < a → XX M R G Z nc ns sz h tgt ls st) (kf : ¬ (0 < a) → XX M R G Z nc ns sz h pc' ls st) : XX M R G Z nc ns sz h pc ls (.int (zI a) :: st) := by
  intro p l e s m args below meth c lo D H locs la C g hl hh hs hS
  obtain ⟨hd, rfl, ht⟩ := hd
  have hb : inR 0 := ⟨by decide, by decide⟩
  have key : (0 < zI a) ↔ (0 < a) := by
    have q := zI_lt hb ha
    rwa [zI_0] at q
  exact lv_if_gt C.1 C.2.1 hd ht (fun q => kt (key.mp q) C g hl hh hs hS) (fun q => kf ((fun z => q (key.mpr z))) C g hl hh hs hS)

theorem x_icmp_le {a b : Int} {off : Int} {tgt : Nat} (hd : decode M.2.1 pc = .ok (.if_icmp .le off, 3) ∧ pc + 3 = pc' ∧ ((pc : Nat) : Int) + off = ((tgt : Nat) : Int)) (ha : inR a) (hb : inR b) (kt : a ≤ b → XX M R G Z nc ns sz h tgt ls st) (kf : ¬ (a ≤ b) → XX M R G Z nc ns sz h pc' ls st) : XX M R G Z nc ns sz h pc ls (.int (zI b) :: .int (zI a) :: st) := by
  intro p l e s m args below meth c lo D H locs la C g hl hh hs hS
  obtain ⟨hd, rfl, ht⟩ := hd
  have key : (zI a ≤ zI b) ↔ (a ≤ b) := zI_le ha hb
  exact lv_icmp_le C.1 C.2.1 hd ht (fun q => kt (key.mp q) C g hl hh hs hS) (fun q => kf ((fun z => q (key.mpr z))) C g hl hh hs hS)

theorem x_if_le {a : Int} {off : Int} {tgt : Nat} (hd : decode M.2.1 pc = .ok (.ifCond .le off, 3) ∧ pc + 3 = pc' ∧ ((pc : Nat) : Int) + off = ((tgt : Nat) : Int)) (ha : inR a) (kt : a ≤ 0 → XX M R G Z nc ns sz h tgt ls st) (kf : ¬ (a ≤ 0) → XX M R G Z nc ns sz h pc' ls st) : XX M R G Z nc ns sz h pc ls (.int (zI a) :: st) := by
  intro p l e s m args below meth c lo D H locs la C g hl hh hs hS
  obtain ⟨hd, rfl, ht⟩ := hd
  have hb : inR 0 := ⟨by decide, by decide⟩
  have key : (zI a ≤ 0) ↔ (a ≤ 0) := by
    have q := zI_le ha hb
    rwa [zI_0] at q
  exact lv_if_le C.1 C.2.1 hd ht (fun q => kt (key.mp q) C g hl hh hs hS) (fun q => kf ((fun z => q (key.mpr z))) C g hl hh hs hS)

/-- a branch on a truth value that was answered -/
theorem x_ifB_eq {P : Prop} {dP : Decidable P} {off : Int} {tgt : Nat} (hd : decode M.2.1 pc = .ok (.ifCond .eq off, 3) ∧ pc + 3 = pc' ∧ ((pc : Nat) : Int) + off = ((tgt : Nat) : Int)) (kt : ¬ P → XX M R G Z nc ns sz h tgt ls st) (kf : P → XX M R G Z nc ns sz h pc' ls st) : XX M R G Z nc ns sz h pc ls (.int (zI (if P then 1 else 0)) :: st) := by
  by_cases hP : P
  · rw [if_pos hP]
    exact x_if_eq hd ⟨by decide, by decide⟩ (fun q => absurd q (by decide)) (fun _ => kf hP)
  · rw [if_neg hP]
    exact x_if_eq hd ⟨by decide, by decide⟩ (fun _ => kt hP) (fun q => absurd rfl q)
theorem x_ifB_ne {P : Prop} {dP : Decidable P} {off : Int} {tgt : Nat} (hd : decode M.2.1 pc = .ok (.ifCond .ne off, 3) ∧ pc + 3 = pc' ∧ ((pc : Nat) : Int) + off = ((tgt : Nat) : Int)) (kt : P → XX M R G Z nc ns sz h tgt ls st) (kf : ¬ P → XX M R G Z nc ns sz h pc' ls st) : XX M R G Z nc ns sz h pc ls (.int (zI (if P then 1 else 0)) :: st) := by
  by_cases hP : P
  · rw [if_pos hP]
    exact x_if_ne hd ⟨by decide, by decide⟩ (fun _ => kt hP) (fun q => absurd q (by decide))
  · rw [if_neg hP]
    exact x_if_ne hd ⟨by decide, by decide⟩ (fun q => absurd rfl q) (fun _ => kf hP)
theorem x_goto {off : Int} {tgt : Nat} (hd : decode M.2.1 pc = .ok (.goto off, 3) ∧ pc + 3 = pc' ∧ ((pc : Nat) : Int) + off = ((tgt : Nat) : Int)) (k : XX M R G Z nc ns sz h tgt ls st) : XX M R G Z nc ns sz h pc ls st := by
  intro p l e s m args below meth c lo D H locs la C g hl hh hs hS
  exact lv_goto C.1 C.2.1 hd.1 hd.2.2 (k C g hl hh hs hS)
theorem x_tableOut {dflt lo0 hi : Int} {offs : Array Int} {len : Nat} {a : Int} (tgt : Nat) (hd : decode M.2.1 pc = .ok (.tableswitch dflt lo0 hi offs, len) ∧ pc + len = pc') (ha : inR a) (hx : a < lo0 ∨ hi < a) (ht : ((pc : Nat) : Int) + dflt = ((tgt : Nat) : Int)) (k : XX M R G Z nc ns sz h tgt ls st) : XX M R G Z nc ns sz h pc ls (.int (zI a) :: st) := by
  intro p l e s m args below meth c lo D H locs la C g hl hh hs hS
  exact lv_tableOut C.1 C.2.1 hd.1 (by rw [zI_toInt ha]; exact hx) ht (k C g hl hh hs hS)
theorem x_tableIn {dflt lo0 hi : Int} {offs : Array Int} {len : Nat} {off : Int} (a : Int) (tgt : Nat) (hd : decode M.2.1 pc = .ok (.tableswitch dflt lo0 hi offs, len) ∧ pc + len = pc') (ha : inR a) (h1 : ¬ a < lo0) (h2 : ¬ hi < a) (ho : offs[(a - lo0).toNat]? = some off) (ht : ((pc : Nat) : Int) + off = ((tgt : Nat) : Int)) (k : XX M R G Z nc ns sz h tgt ls st) : XX M R G Z nc ns sz h pc ls (.int (zI a) :: st) := by
  intro p l e s m args below meth c lo D H locs la C g hl hh hs hS
  exact lv_tableIn C.1 C.2.1 hd.1 (by rw [zI_toInt ha]; exact h1) (by rw [zI_toInt ha]; exact h2) (by rw [zI_toInt ha]; exact ho) ht (k C g hl hh hs hS)
theorem x_locals {ls' : List (Option Value)} (hs' : ∀ (i : Nat) (v : Value), ls'[i]? = some (some v) → ls[i]? = some (some v)) (k : XX M R G Z nc ns sz h pc ls' st) : XX M R G Z nc ns sz h pc ls st := by
  intro p l e s m args below meth c lo D H locs la C g hl hh hs hS
  exact k C g (hl.less hs') hh hs hS

end
