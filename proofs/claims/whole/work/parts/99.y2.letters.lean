/-! scripts: letters packed -/
theorem kk_natlor (a u : Nat) (h : u < 256) : (a * 256 ||| u) = a * 256 + u := by
  have z := Nat.two_pow_add_eq_or_of_lt (i := 8) (b := u) (by omega) a
  have e : 2 ^ 8 * a = a * 256 := by omega
  rw [e] at z
  exact z.symm
theorem kk_lor8 {x u : Int} (u0 : 0 ≤ u) (u1 : u < 256) : mm_lor (mm_lshl x 8) u = mm_W (x * 256 + u) := by
  unfold mm_lor mm_lshl
  rw [Int64.ofInt_toInt, show ((Int32.ofInt 8).toInt64 &&& 63) = (8 : Int64) from by decide, ← Int64.toInt_toBitVec, Int64.toBitVec_or, Int64.toBitVec_shiftLeft, show ((8 : Int64).toBitVec.smod 64) = (8 : BitVec 64) from by decide]
  have h3 : (Int64.ofInt x).toBitVec.toNat = (x % 18446744073709551616).toNat := by
    show (BitVec.ofInt 64 x).toNat = _
    rw [BitVec.toNat_ofInt]
    rfl
  have h4 : (Int64.ofInt u).toBitVec.toNat = (u % 18446744073709551616).toNat := by
    show (BitVec.ofInt 64 u).toNat = _
    rw [BitVec.toNat_ofInt]
    rfl
  have h5 : ((Int64.ofInt x).toBitVec <<< (8 : BitVec 64) ||| (Int64.ofInt u).toBitVec).toNat = ((x % 18446744073709551616).toNat % 72057594037927936) * 256 + u.toNat := by
    rw [BitVec.toNat_or, BitVec.shiftLeft_eq', BitVec.toNat_shiftLeft, h3, h4, show (8 : BitVec 64).toNat = 8 from by decide, Nat.shiftLeft_eq, ← kk_natlor _ _ (by omega)]
    congr 1
    · show (x % 18446744073709551616).toNat * 256 % 18446744073709551616 = _
      omega
    · omega
  rw [BitVec.toInt_eq_toNat_cond, h5]
  unfold mm_W
  show (if 2 * _ < 18446744073709551616 then _ else _ - (18446744073709551616 : Int)) = _
  by_cases c : 2 * (((x % 18446744073709551616).toNat % 72057594037927936) * 256 + u.toNat) < 18446744073709551616
  · rw [if_pos c]; omega
  · rw [if_neg c]; omega
/-- the letters from a on, packed from the low end -/
def kk_pk (t : Int → Int) : Int → Nat → Int
  | _, 0 => 0
  | a, n + 1 => t a % 256 + 256 * kk_pk t (a + 1) n
def kk_pkl : List Int → Int
  | [] => 0
  | c :: s => c + 256 * kk_pkl s
theorem kk_pkb {t : Int → Int} : ∀ (n : Nat) (a : Int), 0 ≤ kk_pk t a n := by
  intro n
  induction n with
  | zero => intro a; show (0 : Int) ≤ 0; omega
  | succ n ih => intro a; have := ih (a + 1); show 0 ≤ t a % 256 + 256 * kk_pk t (a + 1) n; omega
/-- packed alike: the same letters -/
theorem kk_pku {t : Int → Int} : ∀ (s : List Int) (n : Nat) (a : Int), (∀ c ∈ s, 1 ≤ c ∧ c < 256) → (∀ i, a ≤ i → i < a + n → t i % 256 ≠ 0) → (kk_pk t a n = kk_pkl s ↔ s.length = n ∧ ∀ i : Nat, i < n → t (a + i) % 256 = s.getD i 0) := by
  intro s
  induction s with
  | nil =>
    intro n a _ q
    cases n with
    | zero => exact ⟨fun _ => ⟨rfl, fun i i0 => by omega⟩, fun _ => rfl⟩
    | succ n =>
      have w := q a (by omega) (by omega)
      have z := kk_pkb (t := t) n (a + 1)
      refine ⟨fun e => ?_, fun e => absurd e.1 (by simp)⟩
      exfalso
      have e2 : t a % 256 + 256 * kk_pk t (a + 1) n = 0 := e
      omega
  | cons c s ih =>
    intro n a hc q
    have c0 := hc c List.mem_cons_self
    cases n with
    | zero =>
      refine ⟨fun e => ?_, fun e => absurd e.1 (by simp)⟩
      exfalso
      have z : ∀ s : List Int, (∀ c ∈ s, 1 ≤ c ∧ c < 256) → 0 ≤ kk_pkl s := by
        intro s
        induction s with
        | nil => intro _; show (0 : Int) ≤ 0; omega
        | cons d s ih2 =>
          intro h
          have z1 := h d List.mem_cons_self
          have z2 := ih2 (fun c m => h c (List.mem_cons_of_mem _ m))
          show 0 ≤ d + 256 * kk_pkl s
          omega
      have z2 := z s (fun c m => hc c (List.mem_cons_of_mem _ m))
      have e2 : (0 : Int) = c + 256 * kk_pkl s := e
      omega
    | succ n =>
      have w := ih n (a + 1) (fun c m => hc c (List.mem_cons_of_mem _ m)) (fun i i0 i1 => q i (by omega) (by omega))
      constructor
      · intro e
        have e2 : t a % 256 + 256 * kk_pk t (a + 1) n = c + 256 * kk_pkl s := e
        have w2 := w.1 (by omega)
        refine ⟨by rw [List.length_cons, w2.1], fun i i0 => ?_⟩
        cases i with
        | zero => rw [show a + ((0 : Nat) : Int) = a by omega]; show t a % 256 = c; omega
        | succ i =>
          have w3 := w2.2 i (by omega)
          rw [show a + ((i + 1 : Nat) : Int) = a + 1 + i by omega]
          exact w3
      · intro e
        have e1 := e.2 0 (by omega)
        rw [show a + ((0 : Nat) : Int) = a by omega] at e1
        have e1' : t a % 256 = c := e1
        have w2 := w.2 ⟨by have := e.1; rw [List.length_cons] at this; omega, fun i i0 => by
          have e3 := e.2 (i + 1) (by omega)
          rw [show a + ((i + 1 : Nat) : Int) = a + 1 + i by omega] at e3
          exact e3⟩
        show t a % 256 + 256 * kk_pk t (a + 1) n = c + 256 * kk_pkl s
        rw [w2, e1']
