/-! what the cells that are there ahead hold -/
def ne_N : List Cond := flatC (Jvm.Cond.and given_1 narrow_1)
def ne_ad (b : Nat) (s : State) (t : Term) : Nat := match t.eval #[Value.ref b] s none [] s with | some (.ref a) => a | _ => 0
theorem ne_adI {b : Nat} {s : State} {t : Term} {a : Nat} (h : t.eval #[Value.ref b] s none [] s = some (.ref a)) : ne_ad b s t = a := by unfold ne_ad; rw [h]
def ne_K : List String := ["MAKE", "STEP", "MAKE_LINK", "WALK", "LINKED", "FIND", "WRITE", "READ", "CUT", "LINK", "UNLINK", "RENAME", "ABOUT", "ENTRY", "OWN", "RIGHTS", "ATTRIBUTE", "ATTRIBUTE_OF", "KEY", "AS", "USAGE", "LIMIT", "LOCK", "LOCKED", "OPEN", "CLOSE", "HANDLE", "SNAPSHOT", "CLONE", "BACK", "DESTROY", "HOLD", "QUOTA", "HELD", "TOLD", "DIFFERS", "SEND", "RECEIVE", "COMMIT", "SYNC", "CRASH", "SPOIL", "LOSE", "BRING", "SCRUB", "DISK", "ODDITIES"]
def ne_W : List Nat := [172, 174, 180, 182, 185, 187, 190, 192, 195, 197, 200, 197, 203, 205, 208, 197, 211, 197, 214, 174, 217, 197, 220, 222, 225, 197, 228, 197, 231, 197, 234, 197, 237, 239, 242, 197, 245, 197, 248, 182, 251, 253, 256, 197, 259, 174, 262, 253, 265, 253, 268, 182, 271, 253, 274, 182, 277, 182, 279, 253, 282, 182, 285, 287, 290, 253, 293, 287, 296, 253, 299, 197, 302, 253, 305, 182, 308, 310, 313, 310, 316, 182, 319, 197, 322, 182, 325, 287, 328, 330, 333, 182, 336, 310]
def ne_P : List Nat := [343, 351, 359, 367, 372, 384, 392, 400, 407, 417, 424, 417, 432, 441, 450, 417, 458, 417, 465, 351, 473, 417, 483, 493, 502, 417, 511, 417, 520, 417, 527, 417, 537, 550, 559, 417, 574, 417, 581, 367, 587, 596, 602, 417, 611, 351, 619, 596, 629, 596, 637, 367, 646, 596, 656, 367, 668, 367, 677, 596, 685, 367, 696, 704, 710, 596, 719, 704, 727, 596, 735, 417, 746, 596, 754, 367, 765, 775, 779, 775, 787, 367, 796, 417, 805, 367, 813, 704, 822, 831, 836, 367, 844, 775]
def ne_tE (i : Nat) : Term := .static "PoolHouse$Call" (ne_K.getD i "") "LPoolHouse$Call;"
def ne_tS (k : Nat) : Term := .string "PoolHouse$Call" (ne_W.getD k 0)
def ne_tB (k : Nat) : Term := .field (ne_tS k) "java/lang/String" "value" "[B"
def ne_tC : Term := .static "PoolHouse$Script" "CALLS" "[LPoolHouse$Call;"
def ne_tM : Term := .static "PoolHouse$1" "$SwitchMap$PoolHouse$Call" "[I"
def ne_am (b : Nat) (s : State) (x : mm_Id) : Nat := if x.1 = 90 then b else if x.1 = 91 then ne_ad b s ne_tC else if x.1 = 92 then ne_ad b s (ne_tE x.2.1.toNat) else if x.1 = 93 then ne_ad b s (ne_tS x.2.1.toNat) else if x.1 = 94 then ne_ad b s ne_tM else ne_ad b s (ne_tB x.2.1.toNat)
theorem ne_am0 (b : Nat) (s : State) : ne_am b s (90, 0, 0) = b := rfl
theorem ne_am1 (b : Nat) (s : State) : ne_am b s (91, 0, 0) = ne_ad b s ne_tC := rfl
theorem ne_am2 (b : Nat) (s : State) (i : Nat) : ne_am b s (92, (i : Int), 0) = ne_ad b s (ne_tE i) := rfl
theorem ne_am3 (b : Nat) (s : State) (i : Nat) : ne_am b s (93, (i : Int), 0) = ne_ad b s (ne_tS i) := rfl
theorem ne_am4 (b : Nat) (s : State) : ne_am b s (94, 0, 0) = ne_ad b s ne_tM := rfl
theorem ne_am5 (b : Nat) (s : State) (i : Nat) : ne_am b s (95, (i : Int), 0) = ne_ad b s (ne_tB i) := rfl
def ne_fC (j : Nat) : Cond := .eq (.elem ne_tC (.int (Int32.ofNat j))) (ne_tE j)
def ne_fM (j : Nat) : Cond := .eq (.elem ne_tM (.int (Int32.ofNat j))) (.int (Int32.ofInt (mm_ro (94, 0, 0) (j : Int))))
def ne_fE (i : Nat) : List Cond := [.exactly (ne_tE i) "PoolHouse$Call", .eq (.field (ne_tE i) "java/lang/Enum" "ordinal" "I") (.int (Int32.ofInt (i : Int))), .eq (.field (ne_tE i) "PoolHouse$Call" "word" "Ljava/lang/String;") (ne_tS (2 * i)), .eq (.field (ne_tE i) "PoolHouse$Call" "wants" "Ljava/lang/String;") (ne_tS (2 * i + 1))]
def ne_fS (k : Nat) : List Cond := [.exactly (ne_tS k) "java/lang/String", .eq (.field (ne_tS k) "java/lang/String" "coder" "B") (.int 0), .arrayOf (ne_tB k) .byte, .eq (.length (ne_tB k)) (.int (Int32.ofNat (mm_sl (k : Int)).toNat))]
def ne_fB (k j : Nat) : Cond := .eq (.elem (ne_tB k) (.int (Int32.ofNat j))) (.int (Int32.ofInt (mm_sc (k : Int) (j : Int))))
theorem ne_rC : (List.range 47).map ne_fC = (ne_N.drop 9).take 47 := by decide +kernel
theorem ne_rM : (List.range 47).map ne_fM = (ne_N.drop 64).take 47 := by decide +kernel
theorem ne_rE : ∀ i : Nat, i < 47 → ne_fE i = (ne_N.drop (111 + 4 * i)).take 4 := by decide +kernel
theorem ne_rS : ∀ k : Nat, k < 94 → ne_fS k = (ne_N.drop (ne_P.getD k 0)).take 4 := by decide +kernel
theorem ne_rB : ∀ k : Nat, k < 94 → (List.range (mm_sl (k : Int)).toNat).map (ne_fB k) = (ne_N.drop (ne_P.getD k 0 + 4)).take (mm_sl (k : Int)).toNat := by decide +kernel
theorem ne_sl : ∀ k : Nat, k < 94 → (mm_sl (k : Int)).toNat < 2 ^ 31 := by decide +kernel
theorem ne_in {l : List Cond} {p n : Nat} (h : l = (ne_N.drop p).take n) {w : Cond} (hw : w ∈ l) : w ∈ ne_N := List.mem_of_mem_drop (List.mem_of_mem_take (h ▸ hw))
section NEA
variable {b : Nat} {s : State}
theorem ne_OF {tm : Term} {o n d : String} {a : Nat} {v : Value} {A : Nat → Prop} (ht : tm.eval #[Value.ref b] s none [] s = some (.ref a)) (hv : (Term.field tm o n d).eval #[Value.ref b] s none [] s = some v) (hA : ∀ a : Nat, a < s.heap.size → ¬ A a) : va_OF o n d v a A s s.heap := by
  cases hfo : s.fieldFound? o n d with
  | none =>
    rw [va_fe ht] at hv
    simp [State.fieldOf?, State.fieldNamed?, hfo] at hv
  | some x =>
    obtain ⟨cf, k, fi, f⟩ := x
    obtain ⟨g1, cell, g2, g3, -, -, g6⟩ := Term.field_spec hfo ht hv
    exact ⟨cf, k, fi, f, cell, hfo, g1, g2, g3, g6, hA _ (Array.getElem?_eq_some_iff.mp g2).1⟩
theorem ne_O {tm : Term} {E : String} {A : Nat → Prop} (h : (Cond.exactly tm E).before #[Value.ref b] s = true) (hA : ∀ a : Nat, a < s.heap.size → ¬ A a) : tm.eval #[Value.ref b] s none [] s = some (.ref (ne_ad b s tm)) ∧ va_O E (ne_ad b s tm) A s s.heap := by
  obtain ⟨a, c, cell, k, q1, q2, q3, q4, q5, q6, -⟩ := Cond.exactly_spec h
  rw [ne_adI q1]
  exact ⟨q1, cell, q3, q5, by rw [q6]; exact q2, hA a (Array.getElem?_eq_some_iff.mp q3).1⟩
theorem ne_E (hs : ∀ w ∈ ne_N, w.before #[Value.ref b] s = true) {A : Nat → Prop} (hA : ∀ a : Nat, a < s.heap.size → ¬ A a) (i : Nat) (hi : i < 47) : (ne_tE i).eval #[Value.ref b] s none [] s = some (.ref (ne_ad b s (ne_tE i))) ∧ va_O "PoolHouse$Call" (ne_ad b s (ne_tE i)) A s s.heap :=
  ne_O (hs _ (ne_in (ne_rE i hi) (by simp [ne_fE]))) hA
theorem ne_S (hs : ∀ w ∈ ne_N, w.before #[Value.ref b] s = true) {A : Nat → Prop} (hA : ∀ a : Nat, a < s.heap.size → ¬ A a) (k : Nat) (hk : k < 94) : (ne_tS k).eval #[Value.ref b] s none [] s = some (.ref (ne_ad b s (ne_tS k))) ∧ va_O "java/lang/String" (ne_ad b s (ne_tS k)) A s s.heap :=
  ne_O (hs _ (ne_in (ne_rS k hk) (by simp [ne_fS]))) hA
theorem ne_roE (hs : ∀ w ∈ ne_N, w.before #[Value.ref b] s = true) {g : mm_G} (g1 : g.1 = s.heap.size) (g4 : g.2.2.2.1 = s.heap) (g5 : g.2.2.2.2 = ne_am b s) : mm_roE g s := by
  have hA : ∀ a : Nat, a < s.heap.size → ¬ mm_bA g a := fun a h => by unfold mm_bA; rw [g1]; omega
  intro i hi
  rw [g4, g5, ne_am2]
  have e1 : (2 * (i : Int)) = ((2 * i : Nat) : Int) := by omega
  have e2 : (2 * (i : Int) + 1) = ((2 * i + 1 : Nat) : Int) := by omega
  rw [e2, e1, ne_am3, ne_am3]
  obtain ⟨a1, a2⟩ := ne_E hs hA i hi
  refine ⟨a2, ne_OF a1 (va_eqt (hs _ (ne_in (ne_rE i hi) (by simp [ne_fE])))) hA, ne_OF a1 (va_eqv (hs _ (ne_in (ne_rE i hi) (by simp [ne_fE]))) (ne_S hs hA (2 * i) (by omega)).1) hA, ne_OF a1 (va_eqv (hs _ (ne_in (ne_rE i hi) (by simp [ne_fE]))) (ne_S hs hA (2 * i + 1) (by omega)).1) hA⟩
theorem ne_roT (hs : ∀ w ∈ ne_N, w.before #[Value.ref b] s = true) {g : mm_G} (g1 : g.1 = s.heap.size) (g4 : g.2.2.2.1 = s.heap) (g5 : g.2.2.2.2 = ne_am b s) : mm_roT g s := by
  have hA : ∀ a : Nat, a < s.heap.size → ¬ mm_bA g a := fun a h => by unfold mm_bA; rw [g1]; omega
  intro k hk
  rw [g4, g5, ne_am3, ne_am5]
  obtain ⟨a1, a2⟩ := ne_S hs hA k hk
  obtain ⟨t, b1, b2⟩ := va_Tof (tm := ne_tB k) (ty := .byte) (N := (mm_sl (k : Int)).toNat) (f := fun j => .int (Int32.ofInt (mm_sc (k : Int) (j : Int)))) (A := mm_bA g) (ne_sl k hk) (hs _ (ne_in (ne_rS k hk) (by simp [ne_fS]))) (va_eqt (hs _ (ne_in (ne_rS k hk) (by simp [ne_fS]))))
    (fun j hj => va_eqt (hs (ne_fB k j) (ne_in (ne_rB k hk) (List.mem_map.mpr ⟨j, List.mem_range.mpr hj, rfl⟩)))) hA
  rw [ne_adI b1]
  exact ⟨a2, ne_OF a1 b1 hA, ne_OF a1 (va_eqt (hs _ (ne_in (ne_rS k hk) (by simp [ne_fS])))) hA, b2⟩
theorem ne_roC (hs : ∀ w ∈ ne_N, w.before #[Value.ref b] s = true) {g : mm_G} (g1 : g.1 = s.heap.size) (g4 : g.2.2.2.1 = s.heap) (g5 : g.2.2.2.2 = ne_am b s) (h1 : (Cond.laysStatic "PoolHouse$Script" "CALLS" "[LPoolHouse$Call;").before #[Value.ref b] s = true) (h2 : (Cond.initialized "PoolHouse$Script").before #[Value.ref b] s = true) : mm_roC g s := by
  have hA : ∀ a : Nat, a < s.heap.size → ¬ mm_bA g a := fun a h => by unfold mm_bA; rw [g1]; omega
  unfold mm_roC
  rw [g4, g5, ne_am1]
  obtain ⟨t, b1, b2⟩ := va_Tof (tm := ne_tC) (ty := .object "PoolHouse$Call") (N := 47) (f := fun j => .ref (ne_am b s (92, (j : Int), 0))) (A := mm_bA g) (by decide) (hs _ (List.mem_of_getElem? (i := 6) (by decide +kernel))) (va_eqt (hs _ (List.mem_of_getElem? (i := 7) (by decide +kernel))))
    (fun j hj => va_eqv (hs (ne_fC j) (va_run ne_rC j hj)) (ne_E hs hA j hj).1) hA
  rw [ne_adI b1]
  exact ⟨va_Zref h1 h2 b1 hA, b2⟩
theorem ne_roW (hs : ∀ w ∈ ne_N, w.before #[Value.ref b] s = true) {g : mm_G} (g1 : g.1 = s.heap.size) (g4 : g.2.2.2.1 = s.heap) (g5 : g.2.2.2.2 = ne_am b s) (h1 : (Cond.laysStatic "PoolHouse$1" "$SwitchMap$PoolHouse$Call" "[I").before #[Value.ref b] s = true) (h2 : (Cond.initialized "PoolHouse$1").before #[Value.ref b] s = true) : mm_roW g s := by
  have hA : ∀ a : Nat, a < s.heap.size → ¬ mm_bA g a := fun a h => by unfold mm_bA; rw [g1]; omega
  unfold mm_roW
  rw [g4, g5, ne_am4]
  obtain ⟨t, b1, b2⟩ := va_Tof (tm := ne_tM) (ty := .int) (N := 47) (f := fun j => .int (Int32.ofInt (mm_ro (94, 0, 0) (j : Int)))) (A := mm_bA g) (by decide) (hs _ (List.mem_of_getElem? (i := 62) (by decide +kernel))) (va_eqt (hs _ (List.mem_of_getElem? (i := 63) (by decide +kernel))))
    (fun j hj => va_eqt (hs (ne_fM j) (va_run ne_rM j hj))) hA
  rw [ne_adI b1]
  exact ⟨va_Zref h1 h2 b1 hA, b2⟩
theorem ne_roZ (hs : ∀ w ∈ ne_N, w.before #[Value.ref b] s = true) {g : mm_G} (g1 : g.1 = s.heap.size) (g4 : g.2.2.2.1 = s.heap) (h1 : (Cond.laysStatic "java/lang/String" "COMPACT_STRINGS" "Z").before #[Value.ref b] s = true) (h2 : (Cond.initialized "java/lang/String").before #[Value.ref b] s = true)
    (h3 : (Cond.laysStatic "jdk/internal/util/Preconditions" "SIOOBE_FORMATTER" "Ljava/util/function/BiFunction;").before #[Value.ref b] s = true) (h4 : (Cond.initialized "jdk/internal/util/Preconditions").before #[Value.ref b] s = true) : mm_roZ g s := by
  have hA : ∀ a : Nat, a < s.heap.size → ¬ mm_bA g a := fun a h => by unfold mm_bA; rw [g1]; omega
  unfold mm_roZ
  rw [g4]
  exact ⟨va_Zof h1 h2 (va_eqi (hs _ (List.mem_of_getElem? (i := 56) (by decide +kernel)))) hA, va_Zqof h3 h4 (hs _ (List.mem_of_getElem? (i := 57) (by decide +kernel))) hA⟩
end NEA
