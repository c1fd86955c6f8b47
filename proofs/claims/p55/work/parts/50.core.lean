/-! what holds between the calls: the cls's cells and the reference's -/
/-- a cls's node and the reference's are the same -/
def kk_NR (h : mm_Id → Int → Int) (t n : Int) : Prop :=
  h (24, t, n) 0 = h (41, 0, 0) (36 * t + n - 1) ∧ h (24, t, n) 6 = h (44, 0, 0) (36 * t + n - 1) ∧ h (24, t, n) 11 = h (49, 0, 0) (36 * t + n - 1) ∧
  (h (24, t, n) 0 ≠ 0 → h (24, t, n) 1 = h (42, 0, 0) (36 * t + n - 1) ∧ h (24, t, n) 2 = h (47, 0, 0) (36 * t + n - 1) ∧ h (24, t, n) 3 = h (48, 0, 0) (36 * t + n - 1) ∧ h (24, t, n) 14 = h (53, 0, 0) (36 * t + n - 1)) ∧
  (∀ e, 0 ≤ e → e < h (24, t, n) 6 → h (25, t, n) e = h (45, 0, 0) (24 * (36 * t + n - 1) + e) ∧ h (26, t, n) e = h (46, 0, 0) (24 * (36 * t + n - 1) + e)) ∧
  (∀ e, 0 ≤ e → e < h (24, t, n) 11 → h (28, t, n) e = h (50, 0, 0) (4 * (36 * t + n - 1) + e) ∧ h (29, t, n) e = h (51, 0, 0) (4 * (36 * t + n - 1) + e)) ∧
  (h (24, t, n) 0 = 3 → ∀ e, 0 ≤ e → e < h (24, t, n) 1 → h (30, t, n) e = h (52, 0, 0) (8 * (36 * t + n - 1) + e)) ∧
  (∀ p, 0 ≤ p → p < 36 → (h (27, t, n) p = 0 ↔ h (43, 0, 0) (36 * (36 * t + n - 1) + p) = 0) ∧ (h (27, t, n) p ≠ 0 → ∀ i, 0 ≤ i → i < 60 → h (16, 0, 0) (60 * h (27, t, n) p + i) = h (54, 0, 0) (60 * h (43, 0, 0) (36 * (36 * t + n - 1) + p) + i)))
/-- a cls's node is as a node is -/
def kk_NW (h : mm_Id → Int → Int) (t n : Int) : Prop :=
  (0 ≤ h (24, t, n) 0 ∧ h (24, t, n) 0 ≤ 3) ∧ (0 ≤ h (24, t, n) 6 ∧ h (24, t, n) 6 ≤ 24) ∧ (h (24, t, n) 0 ≠ 2 → h (24, t, n) 6 = 0) ∧ (0 ≤ h (24, t, n) 11 ∧ h (24, t, n) 11 ≤ 4) ∧ (h (24, t, n) 0 = 0 → h (24, t, n) 11 = 0) ∧
  (h (24, t, n) 14 = 0 ∨ h (24, t, n) 14 = 1) ∧ h (24, t, n) 9 = kk_nz (h (27, t, n)) ∧ (h (24, t, n) 0 ≠ 1 → ∀ p, 0 ≤ p → p < 36 → h (27, t, n) p = 0) ∧ (0 ≤ h (24, t, n) 2 ∧ h (24, t, n) 2 < 8) ∧ (0 ≤ h (24, t, n) 3 ∧ h (24, t, n) 3 < 64) ∧
  ((h (24, t, n) 0 = 1 → 0 ≤ h (24, t, n) 1 ∧ h (24, t, n) 1 ≤ 2160) ∧ (h (24, t, n) 0 = 2 → h (24, t, n) 1 = 0) ∧ (h (24, t, n) 0 = 3 → 1 ≤ h (24, t, n) 1 ∧ h (24, t, n) 1 ≤ 8)) ∧
  mm_srt (h (25, t, n)) (h (24, t, n) 6) ∧ mm_srt (h (28, t, n)) (h (24, t, n) 11) ∧
  (∀ e, 0 ≤ e → e < h (24, t, n) 6 → (1 ≤ h (25, t, n) e ∧ h (25, t, n) e ≤ 1000000) ∧ (1 ≤ h (26, t, n) e ∧ h (26, t, n) e < 37) ∧ h (24, t, h (26, t, n) e) 0 ≠ 0) ∧
  (∀ e, 0 ≤ e → e < h (24, t, n) 11 → (1 ≤ h (28, t, n) e ∧ h (28, t, n) e ≤ 99) ∧ -9223372036854775808 ≤ h (29, t, n) e ∧ h (29, t, n) e < 9223372036854775808) ∧ (h (24, t, n) 0 = 3 → ∀ e, 0 ≤ e → e < h (24, t, n) 1 → 0 ≤ h (30, t, n) e ∧ h (30, t, n) e ≤ 1000000) ∧
  (h (24, t, n) 0 = 1 → ∀ i, h (24, t, n) 1 ≤ i → i < 2160 → h (16, 0, 0) (60 * h (27, t, n) (i / 60) + i % 60) = 0)
/-- how many entries of a directory mean a node; of a tree -/
def kk_e1 (h : mm_Id → Int → Int) (t d m : Int) : Int := mm_sm (fun e => if h (26, t, d) e = m then 1 else 0) (h (24, t, d) 6).toNat
def kk_ec (h : mm_Id → Int → Int) (t m : Int) : Int := kk_S (fun d => kk_e1 h t d m) 36
/-- a cls's tree is a tree -/
def kk_TW (h : mm_Id → Int → Int) (t : Int) : Prop :=
  (∀ n, 1 ≤ n → n < 37 → h (24, t, n) 0 ≠ 0 → h (24, t, n) 5 = kk_ec h t n) ∧ (∀ n, 2 ≤ n → n < 37 → (h (24, t, n) 0 = 2 ∨ h (24, t, n) 0 = 3) → kk_ec h t n = 1) ∧ (∀ n, 1 ≤ n → n < 37 → h (24, t, n) 0 = 1 → kk_ec h t n ≤ 9) ∧ kk_ec h t 1 = 0 ∧
  (∀ n, 1 ≤ n → n < 37 → (n = 1 ∨ h (24, t, n) 0 = 1) → h (24, t, n) 4 = 0) ∧
  (∀ n d e, 2 ≤ n → n < 37 → (h (24, t, n) 0 = 2 ∨ h (24, t, n) 0 = 3) → 1 ≤ d → d < 37 → 0 ≤ e → e < h (24, t, d) 6 → h (26, t, d) e = n → h (24, t, n) 4 = d) ∧
  (∀ n, 1 ≤ n → n < 37 → h (24, t, n) 0 ≠ 0 → h (24, t, 1) 0 = 2) ∧
  ∃ r : Int → Nat, ∀ n, 2 ≤ n → n < 37 → h (24, t, n) 0 = 2 → r (h (24, t, n) 4) < r n
/-- the reference's node is as a node is -/
def kk_MW (h : mm_Id → Int → Int) (k : Int) : Prop := kk_mw h k ∧ (0 ≤ h (41, 0, 0) k ∧ h (41, 0, 0) k ≤ 3) ∧ (h (41, 0, 0) k ≠ 2 → h (44, 0, 0) k = 0) ∧
  ∀ p, 0 ≤ p → p < 36 → (0 ≤ h (43, 0, 0) (36 * k + p) ∧ h (43, 0, 0) (36 * k + p) ≤ 3000) ∧ (h (41, 0, 0) k ≠ 1 → h (43, 0, 0) (36 * k + p) = 0)
/-- what is one row here is one block there -/
def kk_PQ (h : mm_Id → Int → Int) : Prop := ∀ t n p t2 n2 p2, mm_isT t → (1 ≤ n ∧ n < 37) → (0 ≤ p ∧ p < 36) → mm_isT t2 → (1 ≤ n2 ∧ n2 < 37) → (0 ≤ p2 ∧ p2 < 36) → h (27, t, n) p ≠ 0 → h (27, t2, n2) p2 ≠ 0 →
  (h (27, t, n) p = h (27, t2, n2) p2 ↔ h (43, 0, 0) (36 * (36 * t + n - 1) + p) = h (43, 0, 0) (36 * (36 * t2 + n2 - 1) + p2))
/-- a row stands once in a tree -/
def kk_DS (h : mm_Id → Int → Int) : Prop := ∀ t n p n2 p2, mm_isT t → (1 ≤ n ∧ n < 37) → (0 ≤ p ∧ p < 36) → (1 ≤ n2 ∧ n2 < 37) → (0 ≤ p2 ∧ p2 < 36) → h (27, t, n) p ≠ 0 → h (27, t, n) p = h (27, t, n2) p2 → n = n2 ∧ p = p2
/-- a stream's tree here has no unused files -/
def kk_SR (h : mm_Id → Int → Int) (t : Int) : Prop := ∀ n, 1 ≤ n → n < 37 → (kk_ctn2 h t n → kk_NR h t n) ∧ (¬ kk_ctn2 h t n → h (24, t, n) 0 = 0)
/-- trees and blocks -/
def kk_KT (h : mm_Id → Int → Int) : Prop :=
  (∀ t n, 0 ≤ t → t < 13 → 1 ≤ n → n < 37 → kk_NR h t n) ∧ (∀ t n, mm_isT t → 1 ≤ n → n < 37 → kk_NW h t n) ∧ (∀ t, mm_isT t → kk_TW h t) ∧ (∀ t, t = 26 ∨ t = 27 → kk_SR h t) ∧ (∀ s n, 0 ≤ s → s < 29 → 1 ≤ n → n < 37 → kk_MW h (36 * s + n - 1)) ∧
  kk_PQ h ∧ kk_DS h ∧ kk_R h ∧ ((∀ e, 0 ≤ e → e < 60 → h (16, 0, 0) e = 0) ∧ ∀ j, 0 ≤ j → j < 102060 → -128 ≤ h (16, 0, 0) j ∧ h (16, 0, 0) j < 128) ∧ (∀ t, mm_isT t → h (22, t, 0) 2 = kk_as t) ∧
  (∀ t p, mm_isT t → 0 ≤ p → p < 36 → h (27, t, 0) p = 0)
/-- blocks of the reference -/
def kk_KB (h : mm_Id → Int → Int) : Prop :=
  (∀ b, 1 ≤ b → b ≤ 3000 → kk_any h b → h (55, 0, 0) b ≠ 0) ∧ (0 ≤ h (40, 0, 0) 18 ∧ h (40, 0, 0) 18 ≤ 3000) ∧ kk_cnt (kk_lb h (-1)) ≤ 400 ∧ kk_cnt (fun b => ∃ s, (13 ≤ s ∧ s < 26) ∧ kk_bs h s b) ≤ 400 ∧ kk_cnt (fun b => kk_bs h 26 b ∨ kk_bs h 27 b) ≤ 400 ∧ kk_cnt (kk_bs h 28) ≤ 400 ∧
  (∀ i, 0 ≤ i → i < 5 → (0 < kk_no h i → kk_cnt (kk_bs h i) ≤ h (59, 0, 0) i) ∧ (0 < h (57, 0, 0) (13 + i) → kk_cnt (kk_bs h (13 + i)) ≤ h (59, 0, 0) (13 + i)))
/-- datasets, snapshots, handles -/
def kk_KD (b : Int) (h : mm_Id → Int → Int) (dh : Int → Int) : Prop :=
  (0 ≤ b ∧ b ≤ 1000000) ∧ (h (1, 0, 0) 10 = h (40, 0, 0) 24 ∧ 1 ≤ h (1, 0, 0) 10 ∧ h (1, 0, 0) 10 ≤ b + 1) ∧ (h (1, 0, 0) 11 = h (40, 0, 0) 25 ∧ 0 ≤ h (1, 0, 0) 11 ∧ h (1, 0, 0) 11 ≤ b) ∧ kk_N h ∧
  (∀ s, 0 ≤ s → s < 5 → 0 ≤ kk_no h s ∧ kk_no h s ≤ h (1, 0, 0) 10) ∧ (∀ s, 5 ≤ s → s < 13 → 0 ≤ kk_no h s ∧ kk_no h s ≤ h (1, 0, 0) 11) ∧
  (∀ i, 0 ≤ i → i < 5 → 0 < kk_no h i → (h (31, i, 0) 4 = h (58, 0, 0) i ∧ 0 ≤ h (58, 0, 0) i ∧ h (58, 0, 0) i ≤ 2000000) ∧ (h (31, i, 0) 5 = h (59, 0, 0) i ∧ 0 ≤ h (59, 0, 0) i ∧ h (59, 0, 0) i ≤ 400) ∧ ∀ u, 0 ≤ u → u < 8 → h (32, i, 0) u = h (61, 0, 0) (8 * i + u) ∧ 0 ≤ h (32, i, 0) u ∧ h (32, i, 0) u ≤ 400) ∧
  (∀ i, 0 ≤ i → i < 5 → h (31, i, 0) 6 = 0 ∨ h (31, i, 0) 6 = 1) ∧
  (∀ j, 0 ≤ j → j < 8 → (0 < kk_no h (5 + j) → h (33, j, 0) 2 = h (58, 0, 0) (5 + j) ∧ h (33, j, 0) 3 = h (60, 0, 0) (5 + j) ∧ 1 ≤ h (33, j, 0) 2 ∧ h (33, j, 0) 2 ≤ 2000000) ∧ (kk_no h (5 + j) = 0 → h (33, j, 0) 2 = 0)) ∧
  (∀ k, 0 ≤ k → k < 26 → h (60, 0, 0) k = 0 ∨ h (60, 0, 0) k = 1) ∧
  (∀ s, 0 ≤ s → s < 13 → kk_no h s = 0 → ∀ n, 1 ≤ n → n < 37 → h (24, s, n) 0 = 0) ∧ (∀ s, 0 ≤ s → s < 13 → 0 < kk_no h s → h (24, s, 1) 0 = 2) ∧
  (∀ i n, 0 ≤ i → i < 5 → h (31, i, 0) 6 = 0 → 1 ≤ n → n < 37 → kk_cpd h (13 + i) n h i n) ∧
  (∀ i, 0 ≤ i → i < 8 → (mm_isD (dh i) → h (63, 0, 0) (i + 1) = h (34, i, 0) 2 ∧ (1 ≤ h (34, i, 0) 2 ∧ h (34, i, 0) 2 < 37) ∧ h (24, dh i, h (34, i, 0) 2) 0 = 1 ∧ h (62, 0, 0) (i + 1) = dh i ∧ 0 < kk_no h (dh i) ∧ ∀ a, 0 ≤ a → a < 2160 → h (35, i, 0) a = h (64, 0, 0) (2160 * (i + 1) + a)) ∧ (¬ mm_isD (dh i) → h (63, 0, 0) (i + 1) = 0 ∧ ∀ a, 0 ≤ a → a < 2160 → h (64, 0, 0) (2160 * (i + 1) + a) = 0)) ∧
  (∀ a, 2160 ≤ a → a < 19440 → 0 ≤ h (64, 0, 0) a ∧ h (64, 0, 0) a ≤ 2) ∧
  (∀ i n, 0 ≤ i → i < 5 → 1 ≤ n → n < 37 → h (24, i, n) 0 = 1 → h (24, i, n) 5 = 0 → ∃ j, (0 ≤ j ∧ j < 8) ∧ dh j = i ∧ h (34, j, 0) 2 = n)
/-- the rest: who calls, the path, the stream, the disks -/
def kk_KG (h : mm_Id → Int → Int) : Prop :=
  (h (1, 0, 0) 12 = h (40, 0, 0) 29 ∧ 0 ≤ h (1, 0, 0) 12 ∧ h (1, 0, 0) 12 < 8) ∧ (h (5, 0, 0) 2 = h (40, 0, 0) 30 ∧ 0 ≤ h (5, 0, 0) 2 ∧ h (5, 0, 0) 2 ≤ 8) ∧ (∀ i, 0 ≤ i → i < h (5, 0, 0) 2 → h (6, 0, 0) i = h (65, 0, 0) i ∧ 0 ≤ h (6, 0, 0) i ∧ h (6, 0, 0) i ≤ 1000000) ∧
  (h (1, 0, 0) 9 = h (40, 0, 0) 34 ∧ (h (1, 0, 0) 9 = 0 ∨ h (1, 0, 0) 9 = 1)) ∧
  (h (14, 0, 0) 0 = h (40, 0, 0) 1 ∧ 4 ≤ h (14, 0, 0) 0 ∧ h (14, 0, 0) 0 ≤ 7) ∧ (h (14, 0, 0) 1 = h (40, 0, 0) 35 ∧ 0 ≤ h (14, 0, 0) 1 ∧ h (14, 0, 0) 1 ≤ 7) ∧ (h (14, 0, 0) 2 = h (40, 0, 0) 36 ∧ (h (14, 0, 0) 2 = 0 ∨ h (14, 0, 0) 2 = 1)) ∧
  (h (1, 0, 0) 9 = 0 → ∀ n, 1 ≤ n → n < 37 → h (24, 26, n) 0 = 0 ∧ h (24, 27, n) 0 = 0) ∧ (h (1, 0, 0) 9 = 1 → h (24, 27, 1) 0 = 2)
/-- without what is put down -/
def kk_W (b : Int) (h : mm_Id → Int → Int) (dh : Int → Int) : Prop := kk_KT h ∧ kk_KB h ∧ kk_KD b h dh ∧ kk_KG h
/-- what is put down, and the acts since -/
def kk_KP (h : mm_Id → Int → Int) : Prop :=
  (∀ t n, 13 ≤ t → t < 18 → 1 ≤ n → n < 37 → kk_NR h t n) ∧ (h (1, 0, 0) 13 = h (40, 0, 0) 33 ∧ 0 ≤ h (1, 0, 0) 13 ∧ h (1, 0, 0) 13 < 100) ∧
  (∀ k f, 0 ≤ k → k < 13 → kk_q4 f → h (f, 0, 0) (13 + k) = h (f, 0, 0) k) ∧ (∀ k u, 0 ≤ k → k < 13 → 0 ≤ u → u < 8 → h (61, 0, 0) (8 * (13 + k) + u) = h (61, 0, 0) (8 * k + u)) ∧
  (∀ s, 0 ≤ s → s < 5 → kk_no h s = 0 → ∀ n, 1 ≤ n → n < 37 → h (24, 13 + s, n) 0 = 0) ∧ (∀ s, 0 ≤ s → s < 5 → 0 < kk_no h s → h (24, 13 + s, 1) 0 = 2) ∧
  (∀ j n, 0 ≤ j → j < 8 → 1 ≤ n → n < 37 → kk_ms h (36 * (18 + j) + n - 1) h (36 * (5 + j) + n - 1))
def kk_core (b : Int) (h : mm_Id → Int → Int) (dh : Int → Int) : Prop := kk_W b h dh ∧ kk_KP h
/-- what only scripts touch -/
def kk_scr (x : mm_Id) (j : Int) : Prop := (8 ≤ x.1 ∧ x.1 ≤ 13) ∨ (67 ≤ x.1 ∧ x.1 ≤ 70) ∨ x = (40, 0, 0) ∧ 37 ≤ j ∧ j ≤ 46 ∨ 90 ≤ x.1
/-- a call of both: the same answer, and it holds again -/
def kk_call (k k2 : Nat) (a : List mm_V) (b : Int) (h : mm_Id → Int → Int) (dh : Int → Int) (nx ns : Int) (S : mm_V → Prop) : Prop :=
  mm_Cl k (zR (1, 0, 0) :: a) (mm_z h dh nx ns) (fun r h1 => S r ∧ ∃ g dh1, h1 = mm_z g dh1 nx ns ∧ mm_Cl k2 (zR (40, 0, 0) :: a) (mm_z g dh1 nx ns) (fun r2 h2 => r2 = r ∧ ∃ g2, h2 = mm_z g2 dh1 nx ns ∧ kk_core (b + 1) g2 dh1 ∧ ∀ x j, kk_scr x j → g2 x j = h x j))
def kk_SI (r : mm_V) : Prop := ∃ n, r = zI n ∧ -2147483648 ≤ n ∧ n < 2147483648
theorem mm_Clm {y : Nat} {a : List mm_V} {h : mm_H} {Q Q2 : mm_V → mm_H → Prop} (hq : ∀ r h, Q r h → Q2 r h) (hc : mm_Cl y a h Q) : mm_Cl y a h Q2 := by
  obtain ⟨f, r, h1, e, q⟩ := hc
  exact ⟨f, r, h1, e, hq r h1 q⟩

