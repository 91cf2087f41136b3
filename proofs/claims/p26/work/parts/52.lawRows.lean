/-! Rows that only the law's methods need; its small methods: low, texts; the number that digest makes. -/
section
variable {M : MD} {R : Room} {G : XG} {Z : XZ} {nc ns sz : Nat} {h : AH} {pc pc' : Nat} {ls : List (Option Value)} {st : List Value}
theorem x_lmul {x y : Int64} (hd : decode M.2.1 pc = .ok (.lmul, 1) ∧ pc + 1 = pc') (k : XX M R G Z nc ns sz h pc' ls (.long (x * y) :: st)) : XX M R G Z nc ns sz h pc ls (.long y :: .long x :: st) := by
  intro p l e s m args below meth c lo D H locs la C g hl hh hs hS
  obtain ⟨hd, rfl⟩ := hd
  exact lv_lmul C.1 C.2.1 hd (k C g hl hh hs hS)
theorem x_i2l {z : Int} (hd : decode M.2.1 pc = .ok (.i2l, 1) ∧ pc + 1 = pc') (k : XX M R G Z nc ns sz h pc' ls (.long (zI z).toInt64 :: st)) : XX M R G Z nc ns sz h pc ls (.int (zI z) :: st) := by
  intro p l e s m args below meth c lo D H locs la C g hl hh hs hS
  obtain ⟨hd, rfl⟩ := hd
  exact lv_i2l C.1 C.2.1 hd rfl (k C g hl hh hs hS)
theorem x_lstore {i : Nat} {x : Int64} (hd : decode M.2.1 pc = .ok (.lstore i, 2) ∧ pc + 2 = pc') (hn : Nat.blt (i + 1) ls.length = true) (h2 : xno2 ls i = true) (hM : ls.length = M.2.2.1) (k : XX M R G Z nc ns sz h pc' (xst2 ls i (.long x)) st) : XX M R G Z nc ns sz h pc ls (.long x :: st) := by
  intro p l e s m args below meth c lo D H locs la C g hl hh hs hS
  obtain ⟨hd, rfl⟩ := hd
  have hn' : i + 1 < ls.length := Nat.blt_eq.mp hn
  refine lv_lstore C.1 C.2.1 hd hl.lv (by rw [← hM]; exact hn') rfl (fun la' hl' => ?_)
  exact k C g (xhas.of hl' (xst2_sub h2 (by omega))) hh hs hS
theorem x_ldc {index : Nat} {v : Int32} (hd : decode M.2.1 pc = .ok (.ldc index, 2) ∧ pc + 2 = pc') (hv : Cond.constant M.1.cls index v ∈ TG) (k : XX M R G Z nc ns sz h pc' ls (.int v :: st)) : XX M R G Z nc ns sz h pc ls st := by
  intro p l e s m args below meth c lo D H locs la C g hl hh hs hS
  obtain ⟨hd, rfl⟩ := hd
  exact lv_ldc C.1 C.2.1 C.2.2.2.2.1 (C.2.2.2.2.2.1 _ hv) hd (k C g hl hh hs hS)
end
theorem kL_7 : Cond.constant RL 7 2660009 ∈ TG := TG_in (List.mem_append_right _ (List.mem_of_getElem? (i := 485) (by decide +kernel))) (by decide +kernel)
theorem kL_8 : Cond.constant RL 8 2147483647 ∈ TG := TG_in (List.mem_append_right _ (List.mem_of_getElem? (i := 489) (by decide +kernel))) (by decide +kernel)
def sI (x : Int32) : Int := x.toInt
theorem zI_sI (x : Int32) : zI (sI x) = x := Int32.ofInt_toInt x
theorem sI_r (x : Int32) : inR (sI x) := ⟨Int32.le_toInt x, Int32.toInt_lt x⟩
/-- low, as a whole number -/
def lwZ (a n : Int) : Int := (((zI a).toBitVec.toNat % 2147483648 % n.toNat : Nat) : Int)
theorem lwZ_r (a : Int) {n : Int} (hn : 1 ≤ n) : 0 ≤ lwZ a n ∧ lwZ a n < n := by
  unfold lwZ
  have := Nat.mod_lt ((zI a).toBitVec.toNat % 2147483648) (show 0 < n.toNat by omega)
  omega
theorem and_31 (x : Int32) : x &&& 2147483647 = zI ((x.toBitVec.toNat % 2147483648 : Nat) : Int) := by
  rw [zI_nat]
  apply Int32.toBitVec_inj.mp
  apply BitVec.eq_of_toNat_eq
  rw [Int32.toBitVec_and, BitVec.toNat_and]
  have e1 : (2147483647 : Int32).toBitVec.toNat = 2 ^ 31 - 1 := by decide
  rw [e1, Nat.and_two_pow_sub_one_eq_mod]
  show _ = (BitVec.ofNat 32 (x.toBitVec.toNat % 2147483648)).toNat
  rw [BitVec.toNat_ofNat, Nat.mod_eq_of_lt (by omega : x.toBitVec.toNat % 2147483648 < 2 ^ 32)]
theorem c_L_low (sz : Nat) (h : AH) {a n : Int} (hn : 1 ≤ n ∧ n < 2147483648) : CC mL_low 0 0 0 [.int (zI a), .int (zI n)] sz h (QR (lwZ a n) h) := by
  refine CC.intro [some (.int (zI a)), some (.int (zI n))] pfL_low rfl rfl ?_
  refine x_iload_n dL_low_0 rfl ?_
  refine x_ldc (v := 2147483647) dL_low_1 kL_8 ?_
  refine x_iand dL_low_3 (and_31 _) ?_
  refine x_iload_n dL_low_4 rfl ?_
  obtain ⟨d, rfl⟩ : ∃ d : Nat, n = d := ⟨n.toNat, by omega⟩
  refine x_irem dL_low_5 (z := lwZ a d) (fun q => ?_) ?_ ?_
  · rw [← zI_0, zI_inj ⟨by omega, by omega⟩ ⟨by omega, by omega⟩] at q
    omega
  · have h1 := Nat.mod_lt (zI a).toBitVec.toNat (show 0 < 2147483648 by decide)
    unfold lwZ
    rw [zI_nat, zI_nat, zI_nat, Int.toNat_natCast]
    exact pk_rem (a := (zI a).toBitVec.toNat % 2147483648) (d := d) (by omega) (by omega) (by omega)
  refine x_ireturn dL_low_6 rfl ?_
  exact ⟨rfl, rfl⟩
/-- the letters that texts types -/
def shZ (g k : Int) : Int := sI (zI g >>> (zI k &&& 31))
def ltr (g : Int) (k : Nat) : Int := 97 + lwZ (shZ g (2 * (k : Int))) 4
theorem ltr_r (g : Int) (k : Nat) : 97 ≤ ltr g k ∧ ltr g k < 101 := by
  have := lwZ_r (shZ g (2 * (k : Int))) (n := 4) (by decide)
  unfold ltr
  omega
def ltx (g : Int) (n : Nat) : List Int := (List.range n).map (ltr g)
theorem ltx_len (g : Int) (n : Nat) : (ltx g n).length = n := by rw [ltx, List.length_map, List.length_range]
theorem ltx_s (g : Int) (n : Nat) : ltx g (n + 1) = ltx g n ++ [ltr g n] := by
  unfold ltx
  rw [List.range_succ, List.map_append]
  rfl
theorem i2c_z {z : Int} (h0 : 0 ≤ z) (h1 : z < 65536) : ((zI z).toUInt32 % 65536).toInt32 = zI z := by
  obtain ⟨n, rfl⟩ : ∃ n : Nat, z = n := ⟨z.toNat, by omega⟩
  rw [pk_char, zI_nat]
  have : (Int32.ofNat n).toBitVec.toNat = n := by
    show (BitVec.ofNat 32 n).toNat = n
    rw [BitVec.toNat_ofNat, Nat.mod_eq_of_lt (by omega)]
  rw [this, Nat.mod_eq_of_lt (by omega)]
  rfl
theorem lcmp_z (x y : Int64) : ∃ z : Int, lg_cmp x y = zI z ∧ (-1 ≤ z ∧ z ≤ 1) ∧ (z = 0 ↔ x = y) := by
  unfold lg_cmp
  by_cases q : x = y
  · subst q
    refine ⟨0, ?_, by omega, by simp⟩
    rw [if_neg (by simp), if_pos rfl]
    rfl
  · by_cases q2 : x > y
    · rw [if_pos q2]
      exact ⟨1, rfl, by omega, by simp [q]⟩
    · rw [if_neg q2, if_neg q]
      exact ⟨-1, rfl, by omega, by simp [q]⟩
-- the number that digest makes
def dgC (S : CS) : Nat → Int64
  | 0 => 101
  | i + 1 => 31 * dgC S i + (zI (spCnt [] [] S (i : Int))).toInt64
def dgR (S : CS) : Nat → Int64
  | 0 => dgC S 7
  | i + 1 => 31 * dgR S i + 7 * (zI (spRow S (i : Int) 0)).toInt64 + 3 * (zI (spRow S (i : Int) 1)).toInt64 + (zI (spRow S (i : Int) 4)).toInt64
def dgW (S : CS) (y : Int) (v : Int64) : Nat → Int64
  | 0 => v
  | i + 1 => 31 * dgW S y v i + (zI (spNod S y (i : Int))).toInt64
def dgM (S : CS) : Nat → Int64
  | 0 => dgR S (rwN S).toNat
  | i + 1 => dgW S ((i : Int) + 1) (dgM S i) 8
theorem dgC_s (S : CS) {i : Int} (h : 0 ≤ i) : dgC S (i + 1).toNat = 31 * dgC S i.toNat + (zI (spCnt [] [] S i)).toInt64 := by
  rw [show (i + 1).toNat = i.toNat + 1 by omega, dgC, show ((i.toNat : Nat) : Int) = i by omega]
theorem dgR_s (S : CS) {i : Int} (h : 0 ≤ i) : dgR S (i + 1).toNat = 31 * dgR S i.toNat + 7 * (zI (spRow S i 0)).toInt64 + 3 * (zI (spRow S i 1)).toInt64 + (zI (spRow S i 4)).toInt64 := by
  rw [show (i + 1).toNat = i.toNat + 1 by omega, dgR, show ((i.toNat : Nat) : Int) = i by omega]
theorem dgW_s (S : CS) (y : Int) (v : Int64) {i : Int} (h : 0 ≤ i) : dgW S y v (i + 1).toNat = 31 * dgW S y v i.toNat + (zI (spNod S y i)).toInt64 := by
  rw [show (i + 1).toNat = i.toNat + 1 by omega, dgW, show ((i.toNat : Nat) : Int) = i by omega]
theorem dgM_s (S : CS) {i : Int} (h : 1 ≤ i) : dgM S i.toNat = dgW S i (dgM S (i - 1).toNat) 8 := by
  rw [show i.toNat = (i - 1).toNat + 1 by omega, dgM, show (((i - 1).toNat : Nat) : Int) + 1 = i by omega]
theorem cnt_free (t : List Int) (hs : List CS) (S : CS) {v : Int} (h0 : 0 ≤ v) (h : v < 7) : spCnt t hs S v = spCnt [] [] S v := by
  rcases (show v = 0 ∨ v = 1 ∨ v = 2 ∨ v = 3 ∨ v = 4 ∨ v = 5 ∨ v = 6 by omega) with rfl | rfl | rfl | rfl | rfl | rfl | rfl <;> rfl
