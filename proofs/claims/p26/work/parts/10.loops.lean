theorem x_loop {σ : Type} {M : MD} {R : Room} {G : XG} {Z : XZ} {nc ns sz : Nat} {h : AH} {pc : Nat} {ls st : List _} (H : σ → AH) (L : σ → List (Option Value)) (I : σ → Prop) (μ : σ → Nat) (s0 : σ) (hh : h = H s0) (hl : ls = L s0) (h0 : I s0)
    (step : ∀ s, I s → (∀ s', I s' → μ s' < μ s → XX M R G Z nc ns sz (H s') pc (L s') st) → XX M R G Z nc ns sz (H s) pc (L s) st) : XX M R G Z nc ns sz h pc ls st := by
  subst hh
  subst hl
  have key : ∀ (n : Nat) (s : σ), μ s < n → I s → XX M R G Z nc ns sz (H s) pc (L s) st := by
    intro n
    induction n with
    | zero => intro s hs; omega
    | succ n ih => intro s hs hI; exact step s hI (fun s' hI' hlt => ih s' (by omega) hI')
  exact key (μ s0 + 1) s0 (by omega) h0
theorem x_kill {M : MD} {R : Room} {G : XG} {Z : XZ} {nc ns sz : Nat} {h : AH} {pc : Nat} {ls : List (Option Value)} {st : List Value} (i : Nat) (kk : XX M R G Z nc ns sz h pc (ls.set i none) st) : XX M R G Z nc ns sz h pc ls st := by
  refine x_locals (fun j v hv => ?_) kk
  by_cases e : i = j
  · subst e
    rw [List.getElem?_set] at hv
    simp at hv
  · rwa [List.getElem?_set_ne e] at hv
-- counting and seeking, by whole numbers
def cZ (p : Nat → Bool) (i : Int) : Int := (cB p i.toNat : Int)
theorem cZ_0 (p : Nat → Bool) : cZ p 0 = 0 := rfl
theorem cZ_t {p : Nat → Bool} {i : Int} (h : 0 ≤ i) (hp : p i.toNat = true) : cZ p (i + 1) = cZ p i + 1 := by
  unfold cZ
  rw [show (i + 1).toNat = i.toNat + 1 by omega, cB_s, if_pos hp]
  omega
theorem cZ_f {p : Nat → Bool} {i : Int} (h : 0 ≤ i) (hp : p i.toNat = false) : cZ p (i + 1) = cZ p i := by
  unfold cZ
  rw [show (i + 1).toNat = i.toNat + 1 by omega, cB_s, if_neg (by rw [hp]; decide)]
  omega
theorem cZ_r (p : Nat → Bool) {i : Int} (h : 0 ≤ i) : 0 ≤ cZ p i ∧ cZ p i ≤ i := by
  have := cB_le p i.toNat
  unfold cZ
  omega
def fB (p : Nat → Bool) : Nat → Nat → Nat
  | 0, j => j
  | n + 1, j => if p j = true then j else fB p n (j + 1)
def fZ (p : Nat → Bool) (len : Nat) (i : Int) : Int := (fB p (len - i.toNat) i.toNat : Int)
theorem fZ_hit {p : Nat → Bool} {len : Nat} {i : Int} (h : 0 ≤ i) (h1 : i < len) (hp : p i.toNat = true) : fZ p len i = i := by
  unfold fZ
  rw [show len - i.toNat = (len - i.toNat - 1) + 1 by omega, fB, if_pos hp]
  omega
theorem fZ_skip {p : Nat → Bool} {len : Nat} {i : Int} (h : 0 ≤ i) (h1 : i < len) (hp : p i.toNat = false) : fZ p len i = fZ p len (i + 1) := by
  unfold fZ
  rw [show len - i.toNat = (len - (i + 1).toNat) + 1 by omega, fB, if_neg (by rw [hp]; decide), show i.toNat + 1 = (i + 1).toNat by omega]
theorem fZ_end {p : Nat → Bool} {len : Nat} {i : Int} (h : 0 ≤ i) (h1 : (len : Int) ≤ i) : fZ p len i = i := by
  unfold fZ
  rw [show len - i.toNat = 0 by omega, fB]
  omega
theorem fB_spec (p : Nat → Bool) : ∀ (n j : Nat), j ≤ fB p n j ∧ fB p n j ≤ j + n ∧ (∀ k, j ≤ k → k < fB p n j → p k = false) ∧ (fB p n j < j + n → p (fB p n j) = true)
  | 0, j => ⟨Nat.le_refl _, Nat.le_refl _, fun k h1 h2 => by rw [fB] at h2; omega, fun h => by rw [fB] at h; omega⟩
  | n + 1, j => by
    rw [fB]
    by_cases hp : p j = true
    · rw [if_pos hp]
      exact ⟨Nat.le_refl _, by omega, fun k h1 h2 => by omega, fun _ => hp⟩
    · rw [if_neg hp]
      obtain ⟨a, b, c, d⟩ := fB_spec p n (j + 1)
      refine ⟨by omega, by omega, fun k h1 h2 => ?_, fun h => d (by omega)⟩
      rcases Nat.eq_or_lt_of_le h1 with e | e
      · subst e
        simpa using hp
      · exact c k e h2
theorem fZ_spec (p : Nat → Bool) (len : Nat) {i : Int} (h : 0 ≤ i) (hl : i ≤ len) : i ≤ fZ p len i ∧ fZ p len i ≤ len ∧ (∀ k : Nat, i ≤ k → (k : Int) < fZ p len i → p k = false) ∧ (fZ p len i < len → p (fZ p len i).toNat = true) := by
  obtain ⟨a, b, c, d⟩ := fB_spec p (len - i.toNat) i.toNat
  unfold fZ
  refine ⟨by omega, by omega, fun k h1 h2 => c k (by omega) (by omega), fun h2 => ?_⟩
  rw [Int.toNat_natCast]
  exact d (by omega)
/-- the last one below n, or -1 -/
def bB (p : Nat → Bool) : Nat → Int
  | 0 => -1
  | n + 1 => if p n = true then (n : Int) else bB p n
theorem bB_spec (p : Nat → Bool) : ∀ n, (bB p n = -1 ∧ ∀ k, k < n → p k = false) ∨ (∃ j : Nat, bB p n = j ∧ j < n ∧ p j = true ∧ ∀ k, j < k → k < n → p k = false)
  | 0 => Or.inl ⟨rfl, fun k h => by omega⟩
  | n + 1 => by
    rw [bB]
    by_cases hp : p n = true
    · rw [if_pos hp]
      exact Or.inr ⟨n, rfl, by omega, hp, fun k h1 h2 => by omega⟩
    · rw [if_neg hp]
      have hf : p n = false := by simpa using hp
      rcases bB_spec p n with ⟨a, b⟩ | ⟨j, a, b, c, d⟩
      · exact Or.inl ⟨a, fun k hk => by
          rcases Nat.eq_or_lt_of_le (Nat.le_of_lt_succ hk) with e | e
          · rw [e]; exact hf
          · exact b k e⟩
      · exact Or.inr ⟨j, a, by omega, c, fun k h1 h2 => by
          rcases Nat.eq_or_lt_of_le (Nat.le_of_lt_succ h2) with e | e
          · rw [e]; exact hf
          · exact d k h1 e⟩
def bZ (p : Nat → Bool) (i : Int) : Int := bB p (i + 1).toNat
theorem bZ_hit {p : Nat → Bool} {i : Int} (h : 0 ≤ i) (hp : p i.toNat = true) : bZ p i = i := by
  unfold bZ
  rw [show (i + 1).toNat = i.toNat + 1 by omega, bB, if_pos hp]
  omega
theorem bZ_skip {p : Nat → Bool} {i : Int} (h : 0 ≤ i) (hp : p i.toNat = false) : bZ p i = bZ p (i - 1) := by
  unfold bZ
  rw [show (i + 1).toNat = i.toNat + 1 by omega, bB, if_neg (by rw [hp]; decide), show i.toNat = (i - 1 + 1).toNat by omega]
theorem bZ_end {p : Nat → Bool} {i : Int} (h : i < 0) : bZ p i = -1 := by
  unfold bZ
  rw [show (i + 1).toNat = 0 by omega, bB]
def sZ (g : Nat → Nat) (i : Int) : Int := ((List.range i.toNat).map fun k => (g k : Int)).sum
theorem sZ_0 (g : Nat → Nat) : sZ g 0 = 0 := rfl
theorem sZ_s (g : Nat → Nat) {i : Int} (h : 0 ≤ i) : sZ g (i + 1) = sZ g i + g i.toNat := by
  unfold sZ
  rw [show (i + 1).toNat = i.toNat + 1 by omega, List.range_succ, List.map_append, List.sum_append]
  simp
def mB (g : Nat → Nat) : Nat → Nat
  | 0 => 0
  | n + 1 => max (mB g n) (g n)
def mZ (g : Nat → Nat) (i : Int) : Int := (mB g i.toNat : Int)
theorem mZ_0 (g : Nat → Nat) : mZ g 0 = 0 := rfl
theorem mZ_s (g : Nat → Nat) {i : Int} (h : 0 ≤ i) : mZ g (i + 1) = max (mZ g i) (g i.toNat) := by
  unfold mZ
  rw [show (i + 1).toNat = i.toNat + 1 by omega, mB]
  omega
-- java.lang.Math

theorem c_J9_max_7cf53 (sz : Nat) (h : AH) {a b : Int} (ha : inR a) (hb : inR b) : CC mJ9_max_7cf53 0 0 0 [.int (zI a), .int (zI b)] sz h (QR (max a b) h) := by
  refine CC.intro [some (.int (zI a)), some (.int (zI b))] pfJ9_max_7cf53 rfl rfl ?_
  refine x_iload_n dJ9_max_7cf53_0 rfl ?_
  refine x_iload_n dJ9_max_7cf53_1 rfl ?_
  refine x_icmp_lt dJ9_max_7cf53_2 ha hb (fun c2 => ?_) (fun c2 => ?_)
  · refine x_iload_n dJ9_max_7cf53_9 rfl ?_
    refine x_ireturn dJ9_max_7cf53_10 rfl ?_
    exact ⟨by congr 3; omega, rfl⟩
  · refine x_iload_n dJ9_max_7cf53_5 rfl ?_
    refine x_goto dJ9_max_7cf53_6 ?_
    refine x_ireturn dJ9_max_7cf53_10 rfl ?_
    exact ⟨by congr 3; omega, rfl⟩
theorem c_J9_min_7cf53 (sz : Nat) (h : AH) {a b : Int} (ha : inR a) (hb : inR b) : CC mJ9_min_7cf53 0 0 0 [.int (zI a), .int (zI b)] sz h (QR (min a b) h) := by
  refine CC.intro [some (.int (zI a)), some (.int (zI b))] pfJ9_min_7cf53 rfl rfl ?_
  refine x_iload_n dJ9_min_7cf53_0 rfl ?_
  refine x_iload_n dJ9_min_7cf53_1 rfl ?_
  refine x_icmp_gt dJ9_min_7cf53_2 ha hb (fun c2 => ?_) (fun c2 => ?_)
  · refine x_iload_n dJ9_min_7cf53_9 rfl ?_
    refine x_ireturn dJ9_min_7cf53_10 rfl ?_
    exact ⟨by congr 3; omega, rfl⟩
  · refine x_iload_n dJ9_min_7cf53_5 rfl ?_
    refine x_goto dJ9_min_7cf53_6 ?_
    refine x_ireturn dJ9_min_7cf53_10 rfl ?_
    exact ⟨by congr 3; omega, rfl⟩
theorem c_J9_abs_0f7a4 (sz : Nat) (h : AH) {a : Int} (ha : inR a) : CC mJ9_abs_0f7a4 0 0 0 [.int (zI a)] sz h (QR (if 0 ≤ a then a else -a) h) := by
  refine CC.intro [some (.int (zI a))] pfJ9_abs_0f7a4 rfl rfl ?_
  refine x_iload_n dJ9_abs_0f7a4_0 rfl ?_
  refine x_if_ge dJ9_abs_0f7a4_1 ha (fun c1 => ?_) (fun c1 => ?_)
  · refine x_iload_n dJ9_abs_0f7a4_9 rfl ?_
    refine x_ireturn dJ9_abs_0f7a4_10 rfl ?_
    exact ⟨by congr 3; split <;> omega, rfl⟩
  · refine x_iload_n dJ9_abs_0f7a4_4 rfl ?_
    refine x_ineg dJ9_abs_0f7a4_5 ?_
    refine x_goto dJ9_abs_0f7a4_6 ?_
    refine x_ireturn dJ9_abs_0f7a4_10 rfl ?_
    exact ⟨by congr 3; split <;> omega, rfl⟩
theorem zI_xor5 (a : Nat) (ha : a < 1000) : zI (a : Int) ^^^ zI 5 = zI ((a ^^^ 5 : Nat) : Int) := by
  rw [zI_nat, show zI 5 = Int32.ofNat 5 from rfl, zI_nat]
  apply Int32.toBitVec_inj.mp
  simp [Int32.toBitVec_xor, BitVec.ofNat_xor]
theorem zx_r (a : Nat) (ha : a < 1000) : 0 ≤ ((a ^^^ 5 : Nat) : Int) ∧ ((a ^^^ 5 : Nat) : Int) < 1024 := by
  have : a ^^^ 5 < 2 ^ 10 := Nat.xor_lt_two_pow (by omega) (by omega)
  omega
theorem c_J9_floorMod_7cf53 (sz : Nat) (h : AH) {a : Nat} (ha : a < 1000) : CC mJ9_floorMod_7cf53 0 0 0 [.int (zI a), .int (zI 5)] sz h (QR ((a % 5 : Nat) : Int) h) := by
  refine CC.intro [some (.int (zI a)), some (.int (zI 5)), none] pfJ9_floorMod_7cf53 rfl rfl ?_
  refine x_iload_n dJ9_floorMod_7cf53_0 rfl ?_
  refine x_iload_n dJ9_floorMod_7cf53_1 rfl ?_
  refine x_irem dJ9_floorMod_7cf53_2 (z := ((a % 5 : Nat) : Int)) (by decide) ?_ ?_
  · rw [zI_nat, zI_nat, show zI 5 = nI 5 from rfl]
    exact pk_rem (a := a) (d := 5) (by omega) (by omega) (by omega)
  refine x_istore_n dJ9_floorMod_7cf53_3 rfl rfl rfl ?_
  refine x_iload_n dJ9_floorMod_7cf53_4 rfl ?_
  refine x_iload_n dJ9_floorMod_7cf53_5 rfl ?_
  refine x_ixor dJ9_floorMod_7cf53_6 (zI_xor5 a ha) ?_
  refine x_if_ge dJ9_floorMod_7cf53_7 ⟨by have := zx_r a ha; omega, by have := zx_r a ha; omega⟩ (fun c7 => ?_) (fun c7 => ?_)
  · refine x_iload_n dJ9_floorMod_7cf53_18 rfl ?_
    refine x_ireturn dJ9_floorMod_7cf53_19 rfl ?_
    exact ⟨rfl, rfl⟩
  · exact absurd (zx_r a ha).1 (by omega)
