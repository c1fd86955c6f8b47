/-! what the cells hold, by the mini machine's heap; its numbers are the machine's -/
abbrev mm_G : Type := Nat × va_G × (Nat → ClassId) × Heap × (mm_Id → Nat)
def mm_ad (g : mm_G) (x : mm_Id) : Nat := if 90 ≤ x.1 then g.2.2.2.2 x else g.1 + (mm_off x).toNat
def mm_rv (g : mm_G) (v : mm_V) (w : Value) : Prop := match v with
  | .inl (.inl n) => ∃ x : Int32, w = .int x ∧ x.toInt = n
  | .inl (.inr n) => ∃ x : Int64, w = .long x ∧ x.toInt = n
  | .inr (some x) => if x = mm_nul then w = .null else w = .ref (mm_ad g x)
  | .inr none => w.category = 1
def mm_rs (g : mm_G) : List mm_V → List Value → Prop
  | [], st => st = []
  | v :: s, st => ∃ (w : Value) (st' : List Value), st = w :: st' ∧ mm_rv g v w ∧ mm_rs g s st'
def mm_rl (g : mm_G) (l : List mm_V) (ls : Array Slot) (nL : Nat) : Prop :=
  ls.size = nL ∧ l.length = nL ∧ lv_wf ls ∧ ∀ (k : Nat) (v : mm_V), l[k]? = some v → v ≠ zU → ∃ w, ls[k]? = some (.val w) ∧ mm_rv g v w
theorem mm_bm32 (z : Int) : z.bmod (2 ^ 32) = mm_w z := by
  unfold mm_w
  rw [Int.bmod_def]
  have e : ((2 ^ 32 : Nat) : Int) = 4294967296 := by decide
  rw [e]
  split <;> omega
theorem mm_bm64 (z : Int) : z.bmod (2 ^ 64) = mm_W z := by
  unfold mm_W
  rw [Int.bmod_def]
  have e : ((2 ^ 64 : Nat) : Int) = 18446744073709551616 := by decide
  rw [e]
  split <;> omega
theorem mm_bm8 (z : Int) : z.bmod (2 ^ 8) = mm_b z := by
  unfold mm_b
  rw [Int.bmod_def]
  have e : ((2 ^ 8 : Nat) : Int) = 256 := by decide
  rw [e]
  split <;> omega
theorem mm_wid {z : Int} (h : -2147483648 ≤ z ∧ z < 2147483648) : mm_w z = z := by unfold mm_w; omega
theorem mm_Wid {z : Int} (h : -9223372036854775808 ≤ z ∧ z < 9223372036854775808) : mm_W z = z := by unfold mm_W; omega
theorem mm_r32 (x : Int32) : -2147483648 ≤ x.toInt ∧ x.toInt < 2147483648 := by
  have h1 := x.le_toInt
  have h2 := x.toInt_lt
  omega
theorem mm_r64 (x : Int64) : -9223372036854775808 ≤ x.toInt ∧ x.toInt < 9223372036854775808 := by
  have h1 := x.le_toInt
  have h2 := x.toInt_lt
  omega
theorem mm_o32 {z : Int} (h : -2147483648 ≤ z ∧ z < 2147483648) : (Int32.ofInt z).toInt = z := by
  rw [Int32.toInt_ofInt]
  have := mm_bm32 z
  rw [show Int32.size = 2 ^ 32 from rfl, this, mm_wid h]
theorem mm_o64 {z : Int} (h : -9223372036854775808 ≤ z ∧ z < 9223372036854775808) : (Int64.ofInt z).toInt = z := by
  rw [Int64.toInt_ofInt]
  have := mm_bm64 z
  rw [show Int64.size = 2 ^ 64 from rfl, this, mm_Wid h]
theorem mm_addT (x y : Int32) : (x + y).toInt = mm_w (x.toInt + y.toInt) := by rw [Int32.toInt_add, mm_bm32]
theorem mm_subT (x y : Int32) : (x - y).toInt = mm_w (x.toInt - y.toInt) := by rw [Int32.toInt_sub, mm_bm32]
theorem mm_mulT (x y : Int32) : (x * y).toInt = mm_w (x.toInt * y.toInt) := by rw [Int32.toInt_mul, mm_bm32]
theorem mm_divT (x y : Int32) : (x / y).toInt = mm_w (x.toInt.tdiv y.toInt) := by rw [Int32.toInt_div, mm_bm32]
theorem mm_negT (x : Int32) : (-x).toInt = mm_w (-x.toInt) := by rw [Int32.toInt_neg, mm_bm32]
theorem mm_LaddT (x y : Int64) : (x + y).toInt = mm_W (x.toInt + y.toInt) := by rw [Int64.toInt_add, mm_bm64]
theorem mm_LsubT (x y : Int64) : (x - y).toInt = mm_W (x.toInt - y.toInt) := by rw [Int64.toInt_sub, mm_bm64]
theorem mm_LmulT (x y : Int64) : (x * y).toInt = mm_W (x.toInt * y.toInt) := by rw [Int64.toInt_mul, mm_bm64]
theorem mm_LdivT (x y : Int64) : (x / y).toInt = mm_W (x.toInt.tdiv y.toInt) := by rw [Int64.toInt_div, mm_bm64]
theorem mm_LnegT (x : Int64) : (-x).toInt = mm_W (-x.toInt) := by rw [Int64.toInt_neg, mm_bm64]
theorem mm_wk {a b k : Int} (h : a = b + k * 4294967296) (hb : -2147483648 ≤ b ∧ b < 2147483648) : mm_w a = b := by unfold mm_w; omega
theorem mm_Wk {a b k : Int} (h : a = b + k * 18446744073709551616) (hb : -9223372036854775808 ≤ b ∧ b < 9223372036854775808) : mm_W a = b := by unfold mm_W; omega
theorem mm_we (a : Int) : ∃ k : Int, mm_w a = a + k * 4294967296 := ⟨-((a + 2147483648) / 4294967296), by unfold mm_w; omega⟩
theorem mm_We (a : Int) : ∃ k : Int, mm_W a = a + k * 18446744073709551616 := ⟨-((a + 9223372036854775808) / 18446744073709551616), by unfold mm_W; omega⟩
theorem mm_tmb (a b : Int) (hb : b ≠ 0) : a.tmod b = a - a.tdiv b * b ∧ (0 ≤ a → 0 ≤ a.tmod b ∧ a.tmod b ≤ a) ∧ (a < 0 → a ≤ a.tmod b ∧ a.tmod b ≤ 0) := by
  have e : a.tmod b = a - a.tdiv b * b := by
    have := Int.tmod_def a b
    rw [this, Int.mul_comm]
  refine ⟨e, fun h => ⟨Int.tmod_nonneg b h, ?_⟩, fun h => ?_⟩
  · obtain ⟨n, rfl⟩ := Int.eq_ofNat_of_zero_le h
    have h2 : (n : Int).tmod b = ((n % b.natAbs : Nat) : Int) := by
      rcases Int.natAbs_eq b with hb' | hb' <;> (rw [hb']; first | rfl | (rw [Int.tmod_neg]; simp; rfl) | (simp [Int.tmod]))
    rw [h2]
    have := Nat.mod_le n b.natAbs
    omega
  · have h3 : (-a).tmod b = -(a.tmod b) := Int.neg_tmod a b
    have h4 : 0 ≤ -a := by omega
    obtain ⟨n, hn⟩ := Int.eq_ofNat_of_zero_le h4
    have h2 : (-a).tmod b = ((n % b.natAbs : Nat) : Int) := by
      rw [hn]
      rcases Int.natAbs_eq b with hb' | hb' <;> (rw [hb']; first | rfl | (rw [Int.tmod_neg]; simp; rfl) | (simp [Int.tmod]))
    have := Nat.mod_le n b.natAbs
    omega
theorem mm_remT (x y : Int32) (hy : y.toInt ≠ 0) : (x - x / y * y).toInt = x.toInt.tmod y.toInt := by
  rw [mm_subT, mm_mulT, mm_divT]
  obtain ⟨e, e1, e2⟩ := mm_tmb x.toInt y.toInt hy
  obtain ⟨k1, h1⟩ := mm_we (x.toInt.tdiv y.toInt)
  obtain ⟨k2, h2⟩ := mm_we (mm_w (x.toInt.tdiv y.toInt) * y.toInt)
  have hx := mm_r32 x
  have hr : -2147483648 ≤ x.toInt.tmod y.toInt ∧ x.toInt.tmod y.toInt < 2147483648 := by
    rcases Int.lt_or_le x.toInt 0 with h | h
    · have := e2 h
      omega
    · have := e1 h
      omega
  refine mm_wk (k := -(k1 * y.toInt) - k2) ?_ hr
  rw [h2, h1, e, Int.add_mul, Int.mul_right_comm k1 4294967296 y.toInt, Int.sub_mul, Int.neg_mul]
  omega
theorem mm_LremT (x y : Int64) (hy : y.toInt ≠ 0) : (x - x / y * y).toInt = x.toInt.tmod y.toInt := by
  rw [mm_LsubT, mm_LmulT, mm_LdivT]
  obtain ⟨e, e1, e2⟩ := mm_tmb x.toInt y.toInt hy
  obtain ⟨k1, h1⟩ := mm_We (x.toInt.tdiv y.toInt)
  obtain ⟨k2, h2⟩ := mm_We (mm_W (x.toInt.tdiv y.toInt) * y.toInt)
  have hx := mm_r64 x
  have hr : -9223372036854775808 ≤ x.toInt.tmod y.toInt ∧ x.toInt.tmod y.toInt < 9223372036854775808 := by
    rcases Int.lt_or_le x.toInt 0 with h | h
    · have := e2 h
      omega
    · have := e1 h
      omega
  refine mm_Wk (k := -(k1 * y.toInt) - k2) ?_ hr
  rw [h2, h1, e, Int.add_mul, Int.mul_right_comm k1 18446744073709551616 y.toInt, Int.sub_mul, Int.neg_mul]
  omega
theorem mm_i2lT (x : Int32) : x.toInt64.toInt = x.toInt := Int32.toInt_toInt64 x
theorem mm_l2iT (x : Int64) : x.toInt32.toInt = mm_w x.toInt := by rw [Int64.toInt_toInt32, mm_bm32]
theorem mm_i2bT (x : Int32) : x.toInt8.toInt32.toInt = mm_b x.toInt := by rw [Int8.toInt_toInt32, Int32.toInt_toInt8, mm_bm8]
theorem mm_andT (x y : Int32) : (x &&& y).toInt = mm_and x.toInt y.toInt := by unfold mm_and; rw [Int32.ofInt_toInt, Int32.ofInt_toInt]
theorem mm_shrT (x y : Int32) : (x >>> (y &&& 31)).toInt = mm_shr x.toInt y.toInt := by unfold mm_shr; rw [Int32.ofInt_toInt, Int32.ofInt_toInt]
theorem mm_landT (x y : Int64) : (x &&& y).toInt = mm_land x.toInt y.toInt := by unfold mm_land; rw [Int64.ofInt_toInt, Int64.ofInt_toInt]
theorem mm_lorT (x y : Int64) : (x ||| y).toInt = mm_lor x.toInt y.toInt := by unfold mm_lor; rw [Int64.ofInt_toInt, Int64.ofInt_toInt]
theorem mm_lshlT (x : Int64) (y : Int32) : (x <<< (y.toInt64 &&& 63)).toInt = mm_lshl x.toInt y.toInt := by unfold mm_lshl; rw [Int64.ofInt_toInt, Int32.ofInt_toInt]
theorem mm_lshrT (x : Int64) (y : Int32) : (x >>> (y.toInt64 &&& 63)).toInt = mm_lshr x.toInt y.toInt := by unfold mm_lshr; rw [Int64.ofInt_toInt, Int32.ofInt_toInt]
theorem mm_lushrT (x : Int64) (y : Int32) : ((x.toUInt64 >>> (y.toInt64.toUInt64 &&& Int64.toUInt64 63)).toInt64).toInt = mm_lushr x.toInt y.toInt := by unfold mm_lushr; rw [Int64.ofInt_toInt, Int32.ofInt_toInt]
theorem mm_cmpT (x y : Int64) : (lg_cmp x y).toInt = mm_cmp x.toInt y.toInt := by
  unfold lg_cmp mm_cmp
  simp only [gt_iff_lt, Int64.lt_iff_toInt_lt, ← Int64.toInt_inj]
  have e1 : (1 : Int32).toInt = 1 := by decide
  have e0 : (0 : Int32).toInt = 0 := by decide
  have em : (-1 : Int32).toInt = -1 := by decide
  repeat' split
  all_goals first | omega | (simp only [e1, e0, em]; omega)
theorem mm_eq32 (x y : Int32) : x = y ↔ x.toInt = y.toInt := by rw [← Int32.toInt_inj]
theorem mm_eq0 (x : Int32) : x = 0 ↔ x.toInt = 0 := by rw [← Int32.toInt_inj, Int32.toInt_zero]
theorem mm_eq64 (x : Int64) : x = 0 ↔ x.toInt = 0 := by rw [← Int64.toInt_inj, Int64.toInt_zero]
theorem mm_clamp {x : Int32} {n : Nat} (h0 : 0 ≤ x.toInt) (h : x.toInt < n) : x.toNatClampNeg = x.toInt.toNat ∧ ¬ (x < 0 ∨ n ≤ x.toNatClampNeg) ∧ x.toInt.toNat < n := by
  have e : x.toNatClampNeg = x.toInt.toNat := rfl
  refine ⟨e, ?_, by omega⟩
  rw [e, Int32.lt_iff_toInt_lt, Int32.toInt_zero]
  omega
