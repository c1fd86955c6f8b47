/-! the calls of both: attr -/
theorem kk_pl2 {f : Int → Int} {c p q x : Int} (p0 : 0 ≤ p) (p1 : p ≤ c) (p2 : ∀ i, 0 ≤ i → i < p → f i < x) (p3 : p < c → x ≤ f p) (q0 : 0 ≤ q) (q1 : q ≤ c) (q2 : ∀ i, 0 ≤ i → i < q → f i < x) (q3 : q < c → x ≤ f q) : p = q := by
  by_cases a : p < q
  · have := q2 p p0 a
    have := p3 (by omega)
    omega
  · by_cases d : q < p
    · have := p2 q q0 d
      have := q3 (by omega)
      omega
    · omega
theorem m235b {g : mm_Id → Int → Int} {dh : Int → Int} {nx ns : Int} {Q : mm_V → mm_H → Prop} (hy : 5306 ≤ nx) {K c p x v on had : Int} {v1 v2 v7 v11 : mm_V} (hK : 0 ≤ K ∧ K < 1044) (hc : g (49, 0, 0) K = c) (c4 : 0 ≤ c ∧ c ≤ 4) (p0 : 0 ≤ p) (p1 : p ≤ c) (hh : had ≠ 0 → p < c) (hn : on ≠ 0 → had = 0 → c < 4)
    (KK : ∀ G w11, (∀ y j, ¬ (y = (49, 0, 0) ∧ j = K) → ¬ ((y = (50, 0, 0) ∨ y = (51, 0, 0)) ∧ 4 * K ≤ j ∧ j < 4 * K + 4) → G y j = g y j) → kk_atr (fun i => g (50, 0, 0) (4 * K + i)) (fun i => g (51, 0, 0) (4 * K + i)) c p x v on had (fun i => G (50, 0, 0) (4 * K + i)) (fun i => G (51, 0, 0) (4 * K + i)) (G (49, 0, 0) K) → mm_Wp 235 (mm_blk 235 11) [zR (40, 0, 0), v1, v2, zI x, zL v, zU, zI on, v7, zI K, zI had, zI (4 * K + p), w11] [] (mm_z G dh nx ns) Q) : mm_Wp 235 (mm_blk 235 5) [zR (40, 0, 0), v1, v2, zI x, zL v, zU, zI on, v7, zI K, zI had, zI (4 * K + p), v11] [] (mm_z g dh nx ns) Q := by
  rw [r_235_5 (hy := hy)]
  by_cases h1 : on = 0
  · rw [if_pos h1, r_235_8 (hy := hy), if_pos h1]
    by_cases h2 : had = 0
    · rw [if_pos h2, r_235_10 (hy := hy), if_pos h1]
      refine KK g _ (fun _ _ _ _ => rfl) ⟨fun q => absurd h1 q, fun _ _ => ⟨hc, fun i _ _ => ⟨rfl, rfl⟩⟩, fun q => absurd h1 q, fun _ q => absurd h2 q⟩
    · have pc := hh h2
      rw [if_neg h2, hc, mm_wi (by omega) (by omega)]
      refine ⟨hK, hK, ?_⟩
      have Lp : ∀ (d : Nat) (i : Int), 4 * K + (c - 1) - i = d → 4 * K + p ≤ i → mm_Wp 235 (mm_blk 235 9) [zR (40, 0, 0), v1, v2, zI x, zL v, zU, zI on, v7, zI K, zI had, zI (4 * K + p), zI i] [] (mm_z (mm_shd (mm_up g (49, 0, 0) K (c - 1)) (50, 0, 0) (51, 0, 0) (4 * K + p) i) dh nx ns) Q := by
        intro d
        induction d with
        | zero =>
          intro i e1 e2
          have e3 : i = 4 * K + (c - 1) := by omega
          subst e3
          rw [r_235_9 (hy := hy), kk_shdW (by simp) (by simp), mm_wi (z := 4 * K) (by omega) (by omega), mm_wi (by omega) (by omega), if_neg (by omega), r_235_10 (hy := hy), if_pos h1]
          refine ⟨hK, KK _ _ (fun y j a1 a2 => kk_shdO (fun q => a2 ⟨Or.inl q.1, by omega⟩) (fun q => a2 ⟨Or.inr q.1, by omega⟩) a1) ⟨fun q => absurd h1 q, fun _ q => absurd q h2, fun q => absurd h1 q, fun _ _ => ⟨kk_shdW (by simp) (by simp), fun i _ _ => ⟨kk_shdX (by simp) i, kk_shdY (by simp) i⟩⟩⟩⟩
        | succ d ih =>
          intro i e1 e2
          rw [r_235_9 (hy := hy), kk_shdW (by simp) (by simp), mm_wi (z := 4 * K) (by omega) (by omega), mm_wi (z := 4 * K + (c - 1)) (by omega) (by omega), if_pos (by omega), mm_wi (z := i + 1) (by omega) (by omega), mm_shd1 _ e2 (mm_idf (by decide))]
          exact ⟨hK, by omega, by omega, by omega, by omega, ih (i + 1) (by omega) (by omega)⟩
      have L2 := Lp (c - 1 - p).toNat (4 * K + p) (by omega) (by omega)
      rw [mm_shd0] at L2
      exact L2
  · rw [if_neg h1]
    have b8 : ∀ G w11, mm_Wp 235 (mm_blk 235 11) [zR (40, 0, 0), v1, v2, zI x, zL v, zU, zI on, v7, zI K, zI had, zI (4 * K + p), w11] [] (mm_z (mm_up (mm_up G (50, 0, 0) (4 * K + p) x) (51, 0, 0) (4 * K + p) v) dh nx ns) Q → mm_Wp 235 (mm_blk 235 8) [zR (40, 0, 0), v1, v2, zI x, zL v, zU, zI on, v7, zI K, zI had, zI (4 * K + p), w11] [] (mm_z G dh nx ns) Q := fun G w11 q => by
      rw [r_235_8 (hy := hy), if_neg h1, r_235_10 (hy := hy), if_neg h1]
      exact ⟨by omega, by omega, q⟩
    by_cases h2 : had = 0
    · have c3 := hn h1 h2
      rw [if_pos h2, hc, mm_wi (z := 4 * K) (by omega) (by omega), mm_wi (by omega) (by omega)]
      refine ⟨hK, ?_⟩
      have Lp : ∀ (d : Nat) (i : Int), i - (4 * K + p) = d → i ≤ 4 * K + c → mm_Wp 235 (mm_blk 235 6) [zR (40, 0, 0), v1, v2, zI x, zL v, zU, zI on, v7, zI K, zI had, zI (4 * K + p), zI i] [] (mm_z (mm_shu g (50, 0, 0) (51, 0, 0) i (4 * K + c)) dh nx ns) Q := by
        intro d
        induction d with
        | zero =>
          intro i e1 e2
          have e3 : i = 4 * K + p := by omega
          subst e3
          rw [r_235_6 (hy := hy), if_neg (by omega), mm_shuf (mm_idf (by decide)) (mm_idf (by decide)), hc, mm_wi (by omega) (by omega)]
          refine ⟨hK, hK, b8 _ _ (KK _ _ (fun y j a1 a2 => kk_shuO (fun q => a2 ⟨Or.inl q.1, by omega⟩) (fun q => a2 ⟨Or.inr q.1, by omega⟩) a1 p1) ⟨fun _ q => absurd h2 q, fun q => absurd q h1, fun _ _ => ⟨kk_shuW (by simp) (by simp), fun i _ _ => ⟨kk_shuX (by simp) (by simp) i, kk_shuY (by simp) (by simp) i⟩⟩, fun q => absurd q h1⟩)⟩
        | succ d ih =>
          intro i e1 e2
          rw [r_235_6 (hy := hy), if_pos (by omega), mm_wi (z := i - 1) (by omega) (by omega), mm_wi (z := i + (-1)) (by omega) (by omega), mm_shu1 g e2 (mm_idf (by decide))]
          have := ih (i + (-1)) (by omega) (by omega)
          rw [show i + (-1) = i - 1 by omega] at this ⊢
          exact ⟨by omega, by omega, by omega, by omega, this⟩
      have L2 := Lp (c - p).toNat (4 * K + c) (by omega) (by omega)
      rw [mm_shu0] at L2
      exact L2
    · have pc := hh h2
      rw [if_neg h2]
      refine b8 g _ (KK _ _ (fun y j a1 a2 => ?_) ⟨fun _ _ => ⟨?_, fun i i0 i1 => ⟨?_, ?_⟩⟩, fun q => absurd q h1, fun _ q => absurd q h2, fun q => absurd q h1⟩)
      · rw [mm_upne' (fun q => a2 ⟨Or.inr q.1, by omega⟩), mm_upne' (fun q => a2 ⟨Or.inl q.1, by omega⟩)]
      · rw [mm_upf (by decide), mm_upf (by decide)]; exact hc
      · dsimp only
        rw [mm_upf (by decide)]
        by_cases z : i = p
        · rw [if_pos z, z, mm_ups]
        · rw [if_neg z, mm_upj (by omega)]
      · dsimp only
        by_cases z : i = p
        · rw [if_pos z, z, mm_ups]
        · rw [if_neg z, mm_upj (by omega), mm_upf (by decide)]

theorem kk_attZ {b : Int} {h hc gm Z : mm_Id → Int → Int} {dh : Int → Int} {s n c p x v on had : Int} (hr : kk_core b h dh) (hs : 0 ≤ s ∧ s < 5) (hno : 0 < kk_no h s) (hn : 1 ≤ n ∧ n < 37) (h2 : h (24, s, n) 0 ≠ 0)
    (fc : ∀ y j, y.1 < 40 → ¬ (y = (24, s, n) ∧ j = 11) → y ≠ (28, s, n) → y ≠ (29, s, n) → hc y j = h y j)
    (fm : ∀ y j, 40 ≤ y.1 → y.1 ≠ 56 → ¬ (y = (40, 0, 0) ∧ j = 0) → ¬ (y = (49, 0, 0) ∧ j = 36 * s + n - 1) → ¬ ((y = (50, 0, 0) ∨ y = (51, 0, 0)) ∧ 4 * (36 * s + n - 1) ≤ j ∧ j < 4 * (36 * s + n - 1) + 4) → gm y j = h y j)
    (ec : c = h (24, s, n) 11) (p0 : 0 ≤ p) (p1 : p ≤ c) (lo : ∀ i, 0 ≤ i → i < p → h (28, s, n) i < x) (hi : p < c → x ≤ h (28, s, n) p) (hd : had ≠ 0 → p < c ∧ h (28, s, n) p = x) (hnd : had = 0 → p < c → h (28, s, n) p ≠ x) (hn4 : on ≠ 0 → had = 0 → c < 4) (rx : 1 ≤ x ∧ x ≤ 99) (rv : -9223372036854775808 ≤ v ∧ v < 9223372036854775808)
    (ac : kk_atr (h (28, s, n)) (h (29, s, n)) c p x v on had (hc (28, s, n)) (hc (29, s, n)) (hc (24, s, n) 11)) (am : kk_atr (fun i => h (50, 0, 0) (4 * (36 * s + n - 1) + i)) (fun i => h (51, 0, 0) (4 * (36 * s + n - 1) + i)) c p x v on had (fun i => gm (50, 0, 0) (4 * (36 * s + n - 1) + i)) (fun i => gm (51, 0, 0) (4 * (36 * s + n - 1) + i)) (gm (49, 0, 0) (36 * s + n - 1)))
    (hZ : Z = mm_up (kk_mix hc gm) (31, s, 0) 6 1) : kk_W b Z dh ∧ kk_KP Z := by
  have sT := mm_T13 (s := s) ⟨hs.1, by omega⟩
  have N := kk_NRC hr (t := s) (n := n) (by omega) hn
  have W := kk_NWC hr sT hn
  have zC : ∀ (f : Nat) j, f < 40 → f ≠ 31 → Z (f, s, n) j = hc (f, s, n) j := fun f j f0 f1 => by rw [hZ, mm_upf f1, kk_mixC f0]
  have zM : ∀ (f : Nat) j, 40 ≤ f → Z (f, 0, 0) j = gm (f, 0, 0) j := fun f j f0 => by rw [hZ, mm_upf (by omega), kk_mixM f0]
  have E : ∀ y j, ¬ kk_nx s n y j → Z y j = h y j := fun y j w => by
    have q31 : ¬ (y = (31, s, 0) ∧ j = 6) := fun q => w (by simp [kk_nx, q])
    rw [hZ, mm_upne' q31]
    by_cases q : y.1 < 40
    · rw [kk_mixC q]
      exact fc y j q (fun z => w (by simp [kk_nx, z])) (fun z => w (by simp [kk_nx, z])) (fun z => w (by simp [kk_nx, z]))
    · rw [kk_mixM (by omega)]
      refine fm y j (by omega) (fun z => w (by simp [kk_nx, z])) (fun z => w (by simp [kk_nx, z])) (fun z => w (by simp [kk_nx, z])) (fun z => w ?_)
      exact Or.inr (Or.inr (Or.inr (Or.inr (Or.inl z))))
  have key := kk_atrc ac am p0 p1 (fun i i0 i1 => N.2.2.2.2.2.1 i i0 (by omega))
  have cr : 0 ≤ c ∧ c ≤ 4 := by rw [ec]; exact W.2.2.2.1
  have bd := kk_atrb ac cr (fun q => (hd q).1) p0 hn4
  have hsrt : mm_srt (h (28, s, n)) c := by rw [ec]; exact W.2.2.2.2.2.2.2.2.2.2.2.2.1
  have ne24 : ¬ (24 : Nat) = 28 := by decide
  refine kk_WN hr hs hno hn E (by rw [hZ, mm_ups]) (kk_NRn E N (fun z => ?_) (fun z => ?_) ?_ ?_) (kk_NWn E W ?_ ?_ ?_ (fun q => absurd q h2) ?_ ?_)
  · rw [zC 24 2 (by decide) (by decide), zM 47 _ (by decide), fc _ _ (by simp) (by simp) (by simp) (by simp), fm _ _ (by simp) (by simp) (by simp) (by simp) (by simp)]
    exact (N.2.2.2.1 z).2.1
  · rw [zC 24 3 (by decide) (by decide), zM 48 _ (by decide), fc _ _ (by simp) (by simp) (by simp) (by simp), fm _ _ (by simp) (by simp) (by simp) (by simp) (by simp)]
    exact (N.2.2.2.1 z).2.2.1
  · rw [zC 24 11 (by decide) (by decide), zM 49 _ (by decide)]
    exact key.1
  · rw [zC 24 11 (by decide) (by decide)]
    intro e e0 e1
    rw [zC 28 e (by decide) (by decide), zC 29 e (by decide) (by decide), zM 50 _ (by decide), zM 51 _ (by decide)]
    exact key.2 e e0 e1
  · rw [zC 24 2 (by decide) (by decide), fc _ _ (by simp) (by simp) (by simp) (by simp)]
    exact W.2.2.2.2.2.2.2.2.1
  · rw [zC 24 3 (by decide) (by decide), fc _ _ (by simp) (by simp) (by simp) (by simp)]
    exact W.2.2.2.2.2.2.2.2.2.1
  · rw [zC 24 11 (by decide) (by decide)]
    exact bd
  · rw [zC 24 11 (by decide) (by decide)]
    have S := kk_atrs ac p0 p1 hsrt lo hi hd hnd
    intro i j i0 ij jc
    rw [zC 28 i (by decide) (by decide), zC 28 j (by decide) (by decide)]
    exact S i j i0 ij jc
  · rw [zC 24 11 (by decide) (by decide)]
    intro i i0 i1
    rw [zC 28 i (by decide) (by decide), zC 29 i (by decide) (by decide)]
    rcases kk_atrm ac p0 p1 (fun q => (hd q).1) i i0 i1 with ⟨q1, q2⟩ | ⟨j, hj, q1, q2⟩
    · rw [q1, q2]; exact ⟨rx, rv⟩
    · rw [q1, q2]
      exact W.2.2.2.2.2.2.2.2.2.2.2.2.2.2.1 j hj.1 (by omega)

/-- the cls: a key is set or struck -/
theorem s17b {h : mm_Id → Int → Int} {dh : Int → Int} {nx ns : Int} {Q : mm_V → mm_H → Prop} (hx : 5275 ≤ nx) {s n d c x v on had : Int} {v1 v2 : mm_V} (hs : mm_isT s) (hn : mm_isN n) (hd : mm_isD d) (ec : c = h (24, s, n) 11) (c4 : 0 ≤ c ∧ c ≤ 4) (srt : mm_srt (h (28, s, n)) c)
    (hy1 : had ≠ 0 → ∃ p, 0 ≤ p ∧ p < c ∧ h (28, s, n) p = x) (hn1 : had = 0 → ∀ p, 0 ≤ p → p < c → ¬ h (28, s, n) p = x) (hn4 : on ≠ 0 → had = 0 → c < 4)
    (KK : ∀ hc, (∀ y j, ¬ (y = (24, s, n) ∧ j = 11) → y ≠ (28, s, n) → y ≠ (29, s, n) → hc y j = h y j) → (∀ p, 0 ≤ p → p ≤ c → (∀ i, 0 ≤ i → i < p → h (28, s, n) i < x) → (p < c → x ≤ h (28, s, n) p) → kk_atr (h (28, s, n)) (h (29, s, n)) c p x v on had (hc (28, s, n)) (hc (29, s, n)) (hc (24, s, n) 11)) → mm_Wp 17 (mm_blk 17 8) [zR (1, 0, 0), v1, v2, zI x, zL v, zU, zI on, zR (24, s, n), zR (31, d, 0), zI had] [] (mm_z hc dh nx ns) Q) : mm_Wp 17 (mm_blk 17 6) [zR (1, 0, 0), v1, v2, zI x, zL v, zU, zI on, zR (24, s, n), zR (31, d, 0), zI had] [] (mm_z h dh nx ns) Q := by
  rw [r_17_6 (htx7 := hs) (hnx7 := hn) (htx8 := hd) (hx := hx)]
  have nodup : had ≠ 0 → (∀ p, 0 ≤ p → p < h (24, s, n) 11 → ¬ h (28, s, n) p = x) → False := fun q w => by
    obtain ⟨p, p0, p1, p2⟩ := hy1 q
    exact w p p0 (by omega) p2
  have yes : ∀ p, 0 ≤ p → p < h (24, s, n) 11 → h (28, s, n) p = x → had ≠ 0 := fun p p0 p1 p2 q => hn1 q p p0 (by omega) p2
  subst ec
  split
  · rename_i h1
    refine s106 hs hn hx c4 srt (fun p p0 p1 p2 => ?_) (fun w => ?_)
    · rw [mm_pU, r_17_7_3 (htx8 := hd) (hx := hx)]
      have h2 := yes p p0 p1 p2
      refine KK _ (fun y j a1 a2 a3 => kk_shdO (fun q => a2 q.1) (fun q => a3 q.1) a1) (fun p' q0 q1 q2 q3 => ?_)
      have e := kk_pl srt p0 p1 p2 q0 q1 q2 q3
      subst e
      refine ⟨fun q => absurd h1 q, fun _ q => absurd q h2, fun q => absurd h1 q, fun _ _ => ⟨kk_shdW (by simp) (by simp), fun i _ _ => ⟨?_, ?_⟩⟩⟩
      · have := kk_shdX (f := h) (X := (28, s, n)) (Y := (29, s, n)) (W := (24, s, n)) (p := p') (c := h (24, s, n) 11 - 1) (j := 11) (v := h (24, s, n) 11 - 1) (o := 0) (by simp) i
        simp only [Int.zero_add] at this
        exact this
      · have := kk_shdY (f := h) (X := (28, s, n)) (Y := (29, s, n)) (W := (24, s, n)) (p := p') (c := h (24, s, n) 11 - 1) (j := 11) (v := h (24, s, n) 11 - 1) (o := 0) (by simp) i
        simp only [Int.zero_add] at this
        exact this
    · rw [mm_pU, r_17_7_3 (htx8 := hd) (hx := hx)]
      by_cases h2 : had = 0
      · exact KK h (fun _ _ _ _ _ => rfl) (fun p' _ _ _ _ => ⟨fun q => absurd h1 q, fun _ _ => ⟨rfl, fun i _ _ => ⟨rfl, rfl⟩⟩, fun q => absurd h1 q, fun _ q => absurd h2 q⟩)
      · exact absurd w (fun w => nodup h2 w)
  · rename_i h1
    refine s105 hs hn hx c4 srt (fun p p0 p1 p2 => ?_) (fun w c3 p p0 p1 p2 p3 => ?_) (fun w c3 => ?_)
    · rw [mm_pU, r_17_6_6 (htx8 := hd) (hx := hx)]
      have h2 := yes p p0 p1 p2
      refine KK _ (fun y j a1 a2 a3 => ?_) (fun p' q0 q1 q2 q3 => ?_)
      · rw [mm_upne' (fun q => a3 q.1), mm_upne' (fun q => a2 q.1)]
      · have e := kk_pl srt p0 p1 p2 q0 q1 q2 q3
        subst e
        refine ⟨fun _ _ => ⟨?_, fun i _ _ => ⟨?_, ?_⟩⟩, fun q => absurd q h1, fun _ q => absurd q h2, fun q => absurd q h1⟩
        · rw [mm_upf (by decide), mm_upf (by decide)]
        · rw [mm_upf (by decide)]
          by_cases z : i = p'
          · rw [if_pos z, z, mm_ups]
          · rw [if_neg z, mm_upj z]
        · by_cases z : i = p'
          · rw [if_pos z, z, mm_ups]
          · rw [if_neg z, mm_upj z, mm_upf (by decide)]
    · rw [mm_pU, r_17_6_6 (htx8 := hd) (hx := hx)]
      have h2 : had = 0 := by
        by_cases z : had = 0
        · exact z
        · exact absurd w (fun w => nodup z w)
      have sX := fun i => kk_shuX (f := h) (X := (28, s, n)) (Y := (29, s, n)) (W := (24, s, n)) (p := p) (c := h (24, s, n) 11) (x := x) (m := v) (j := 11) (v := h (24, s, n) 11 + 1) (o := 0) (by simp) (by simp) i
      have sY := fun i => kk_shuY (f := h) (X := (28, s, n)) (Y := (29, s, n)) (W := (24, s, n)) (p := p) (c := h (24, s, n) 11) (x := x) (m := v) (j := 11) (v := h (24, s, n) 11 + 1) (o := 0) (by simp) (by simp) i
      have sW := kk_shuW (f := h) (X := (28, s, n)) (Y := (29, s, n)) (W := (24, s, n)) (p := p) (c := h (24, s, n) 11) (x := x) (m := v) (j := 11) (v := h (24, s, n) 11 + 1) (o := 0) (by simp) (by simp)
      have sO := fun y j (a1 : ¬ (y = (24, s, n) ∧ j = 11)) (a2 : y ≠ (28, s, n)) (a3 : y ≠ (29, s, n)) => kk_shuO (f := h) (X := (28, s, n)) (Y := (29, s, n)) (W := (24, s, n)) (z := y) (i := j) (p := p) (c := h (24, s, n) 11) (x := x) (m := v) (j := 11) (v := h (24, s, n) 11 + 1) (o := 0) (fun q => a2 q.1) (fun q => a3 q.1) a1 p1
      simp only [Int.zero_add] at sX sY sW sO
      refine KK _ sO (fun p' q0 q1 q2 q3 => ?_)
      have e := kk_pl2 p0 p1 p2 p3 q0 q1 q2 q3
      subst e
      exact ⟨fun _ q => absurd h2 q, fun q => absurd q h1, fun _ _ => ⟨sW, fun i _ _ => ⟨sX i, sY i⟩⟩, fun q => absurd q h1⟩
    · exact absurd (hn4 h1 (by
        by_cases z : had = 0
        · exact z
        · exact absurd w (fun w => nodup z w))) c3

theorem kk_plx {f : Int → Int} {c : Int} (h0 : 0 ≤ c) (hs : mm_srt f c) (x : Int) : ∃ p, 0 ≤ p ∧ p ≤ c ∧ (∀ i, 0 ≤ i → i < p → f i < x) ∧ (p < c → x ≤ f p) := by
  have G : ∀ d : Nat, ∀ p : Int, c - p = d → 0 ≤ p → (∀ i, 0 ≤ i → i < p → f i < x) → ∃ p, 0 ≤ p ∧ p ≤ c ∧ (∀ i, 0 ≤ i → i < p → f i < x) ∧ (p < c → x ≤ f p) := by
    intro d
    induction d with
    | zero => intro p e p0 q; exact ⟨p, p0, by omega, q, fun w => by omega⟩
    | succ d ih =>
      intro p e p0 q
      by_cases z : f p < x
      · exact ih (p + 1) (by omega) (by omega) (fun i i0 i1 => by
          by_cases y : i = p
          · rw [y]; exact z
          · exact q i i0 (by omega))
      · exact ⟨p, p0, by omega, q, fun _ => by omega⟩
  exact G c.toNat 0 (by omega) (by omega) (fun i a b => by omega)

theorem c_17 {b : Int} {h : mm_Id → Int → Int} {dh : Int → Int} {nx ns : Int} (hy : 5306 ≤ nx) (hc : kk_core b h dh) (hb : b + 1 ≤ 1000000) {t n k l m : Int} (ht : -2147483648 ≤ t ∧ t < 2147483648) (hn : -2147483648 ≤ n ∧ n < 2147483648) (hk : -2147483648 ≤ k ∧ k < 2147483648) (hl : -9223372036854775808 ≤ l ∧ l < 9223372036854775808) (hm : m = 0 ∨ m = 1) : kk_call 17 235 [zI t, zI n, zI k, zL l, zI m] b h dh nx ns kk_SI := by
  unfold kk_call
  have hx : 5275 ≤ nx := by omega
  have hc0 : kk_core b (mm_up h (40, 0, 0) 0 0) dh := kk_core0 hc
  have fin : ∀ v, kk_SI (zI v) → mm_Cl 235 [zR (40, 0, 0), zI t, zI n, zI k, zL l, zI m] (mm_z h dh nx ns) (fun (r2 : mm_V) (h2 : mm_H) => r2 = zI v ∧ ∃ g2, h2 = mm_z g2 dh nx ns ∧ kk_core (b + 1) g2 dh ∧ ∀ x j, kk_scr x j → g2 x j = h x j) →
      (fun (r : mm_V) (h1 : mm_H) => kk_SI r ∧ ∃ g dh1, h1 = mm_z g dh1 nx ns ∧ mm_Cl 235 [zR (40, 0, 0), zI t, zI n, zI k, zL l, zI m] (mm_z g dh1 nx ns) (fun r2 h2 => r2 = r ∧ ∃ g2, h2 = mm_z g2 dh1 nx ns ∧ kk_core (b + 1) g2 dh1 ∧ ∀ x j, kk_scr x j → g2 x j = h x j)) (zI v) (mm_z h dh nx ns) :=
    fun v h1 h2 => ⟨h1, h, dh, rfl, h2⟩
  have mfin : ∀ v w : Int, w = v → (fun (r2 : mm_V) (h2 : mm_H) => r2 = zI v ∧ ∃ g2, h2 = mm_z g2 dh nx ns ∧ kk_core (b + 1) g2 dh ∧ ∀ x j, kk_scr x j → g2 x j = h x j) (zI w) (mm_z (mm_up h (40, 0, 0) 0 0) dh nx ns) :=
    fun v w e => ⟨by rw [e], _, rfl, kk_coreS hb hc0, fun x j hs => kk_scr0 hs⟩
  rw [r_17_e (hx := hx)]
  refine s55 hx (kk_nmC hc) ht.1 ht.2 (fun s hs => ?_) (fun hs => ?_)
  · have hsT := mm_T13 hs.1
    have hs13 := hs.1
    rw [mm_pR, r_17_0_4a (hty0 := hsT) (hx := hx)]
    refine s56 hsT hx (fun h1n h2n => ?_) (fun hn0 => ?_)
    · have hnN : mm_isN n := ⟨by omega, h1n.2⟩
      have NWn := kk_NWC hc hsT h1n
      have h3n : 0 < h (24, s, n) 0 := by
        have := NWn.1.1
        omega
      rw [mm_pR, r_17_0_6a (hty0 := hsT) (hny0 := hnN) (hx := hx)]
      have NRn := kk_NRC hc (t := s) (n := n) (by omega) h1n
      have bad : ¬ (1 ≤ k ∧ k ≤ 99) → mm_Wp 17 (mm_blk 17 2) [zR (1, 0, 0), zI t, zI n, zI k, zL l, zU, zI m, zR (24, s, n), zU, zU] [] (mm_z h dh nx ns) (fun (r : mm_V) (h1 : mm_H) => kk_SI r ∧ ∃ g dh1, h1 = mm_z g dh1 nx ns ∧ mm_Cl 235 [zR (40, 0, 0), zI t, zI n, zI k, zL l, zI m] (mm_z g dh1 nx ns) (fun r2 h2 => r2 = r ∧ ∃ g2, h2 = mm_z g2 dh1 nx ns ∧ kk_core (b + 1) g2 dh1 ∧ ∀ x j, kk_scr x j → g2 x j = h x j)) := fun w => by
        rw [r_17_2 (hx := hx)]
        refine fin (-2) ⟨_, rfl, by omega, by omega⟩ ?_
        have ek : ∀ (x : mm_Id) (j : Int), 40 ≤ x.1 → h x j = h x j := fun _ _ _ => rfl
        have lk := kk_lkr h
        have f29 : mm_up h (40, 0, 0) 0 0 (40, 0, 0) 29 = h (1, 0, 0) 12 := (mm_upj (by decide)).trans ((ek _ _ (by simp)).trans (kk_cal hc).1.symm)
        have f41n : mm_up h (40, 0, 0) 0 0 (41, 0, 0) (36 * s + n - 1) = h (24, s, n) 0 := by rw [mm_upf (by decide)]; exact (ek _ _ (by simp)).trans (kk_nf hc (by omega) h1n).1
        have f44n : mm_up h (40, 0, 0) 0 0 (44, 0, 0) (36 * s + n - 1) = h (24, s, n) 6 := by rw [mm_upf (by decide)]; exact (ek _ _ (by simp)).trans (kk_nf hc (by omega) h1n).2.1
        have f49n : mm_up h (40, 0, 0) 0 0 (49, 0, 0) (36 * s + n - 1) = h (24, s, n) 11 := by rw [mm_upf (by decide)]; exact (ek _ _ (by simp)).trans (kk_nf hc (by omega) h1n).2.2.1
        have f42n : mm_up h (40, 0, 0) 0 0 (42, 0, 0) (36 * s + n - 1) = h (24, s, n) 1 := by rw [mm_upf (by decide)]; exact (ek _ _ (by simp)).trans ((kk_nf hc (by omega) h1n).2.2.2 h2n).1
        have f47n : mm_up h (40, 0, 0) 0 0 (47, 0, 0) (36 * s + n - 1) = h (24, s, n) 2 := by rw [mm_upf (by decide)]; exact (ek _ _ (by simp)).trans ((kk_nf hc (by omega) h1n).2.2.2 h2n).2.1
        have f48n : mm_up h (40, 0, 0) 0 0 (48, 0, 0) (36 * s + n - 1) = h (24, s, n) 3 := by rw [mm_upf (by decide)]; exact (ek _ _ (by simp)).trans ((kk_nf hc (by omega) h1n).2.2.2 h2n).2.2
        rw [r_235_e (hy := hy)]
        refine m181y hy hc (kk_lku (by decide) lk) ht hs ?_
        rw [mm_pI, r_235_0_6 (hy := hy)]
        refine m210y hy (by omega) h1n (by rw [f41n]; exact h3n) ?_
        rw [mm_pI, r_235_0_11 (hy := hy), if_neg (by decide)]
        refine m174n hy w ?_
        rw [mm_pI, r_235_1_5 (hy := hy), if_pos rfl]
        exact mfin _ _ rfl
      split
      · exact bad (by omega)
      · split
        · exact bad (by omega)
        · refine s53t hx (kk_nmC hc) (fun s5 s50 s51 hs5 => ?_) (fun hs5 => ?_)
          · have e5 := (kk_tp1 hs5 hs).symm
            subst e5
            have hD : mm_isD s := ⟨s50, s51⟩
            have hno := kk_tpp hs
            rw [mm_pR, r_17_3_3a (htx7 := hsT) (hnx7 := hnN) (hty0 := hD) (hx := hx)]
            refine s62 hsT hnN hx (fun w => ?_) (fun w => ?_)
            · rw [mm_pI, r_17_4_3 (htx7 := hsT) (hnx7 := hnN) (htx8 := hD) (hx := hx), if_neg (by decide)]
              have c6 : ∀ had, (had = 0 ∨ had = 1) → (had ≠ 0 → ∃ p, 0 ≤ p ∧ p < h (24, s, n) 11 ∧ h (28, s, n) p = k) → (had = 0 → ∀ p, 0 ≤ p → p < h (24, s, n) 11 → ¬ h (28, s, n) p = k) → (m ≠ 0 → had = 0 → h (24, s, n) 11 < 4) → mm_Wp 17 (mm_blk 17 6) [zR (1, 0, 0), zI t, zI n, zI k, zL l, zU, zI m, zR (24, s, n), zR (31, s, 0), zI had] [] (mm_z h dh nx ns) (fun (r : mm_V) (h1 : mm_H) => kk_SI r ∧ ∃ g dh1, h1 = mm_z g dh1 nx ns ∧ mm_Cl 235 [zR (40, 0, 0), zI t, zI n, zI k, zL l, zI m] (mm_z g dh1 nx ns) (fun r2 h2 => r2 = r ∧ ∃ g2, h2 = mm_z g2 dh1 nx ns ∧ kk_core (b + 1) g2 dh1 ∧ ∀ x j, kk_scr x j → g2 x j = h x j)) := fun had h01 hy1 hn1 hn4 => by
                refine s17b hx hsT hnN hD rfl NWn.2.2.2.1 NWn.2.2.2.2.2.2.2.2.2.2.2.2.1 hy1 hn1 hn4 (fun hcc fcl acl => ?_)
                rw [r_17_8 (htx8 := hD) (hx := hx)]
                have hc11 : 0 ≤ hcc (24, s, n) 11 ∧ hcc (24, s, n) 11 ≤ 4 := by
                  -- a place there is
                  obtain ⟨p, p0, p1, p2, p3⟩ := kk_plx NWn.2.2.2.1.1 NWn.2.2.2.2.2.2.2.2.2.2.2.2.1 k
                  exact kk_atrb (acl p p0 p1 p2 p3) NWn.2.2.2.1 (fun q => by
                    obtain ⟨p', y0, y1, y2⟩ := hy1 q
                    have e := kk_pl NWn.2.2.2.2.2.2.2.2.2.2.2.2.1 y0 y1 y2 p0 p1 p2 p3
                    omega) p0 hn4
                have fc2 : ∀ (f : Nat) t m2 j, f ≠ 24 ∨ j ≠ 11 → f ≠ 28 → f ≠ 29 → hcc (f, t, m2) j = h (f, t, m2) j := fun f t m2 j a1 a2 a3 => fcl _ _ (by rintro ⟨q, q2⟩; simp at q; omega) (by simp; omega) (by simp; omega)
                have hac := kk_ac hc
                refine s63 hx hD (kk_Rcong (fun _ _ _ => fc2 27 _ _ _ (by omega) (by omega) (by omega)) (fc2 15 _ _ _ (by omega) (by omega) (by omega)) (fc2 15 _ _ _ (by omega) (by omega) (by omega)) (fun _ => fc2 17 _ _ _ (by omega) (by omega) (by omega)) (fun _ => fc2 18 _ _ _ (by omega) (by omega) (by omega)) (fun _ => fc2 19 _ _ _ (by omega) (by omega) (by omega)) hc.1.1.2.2.2.2.2.2.2.1) (fun t2 m2 t0 t1 m0 m1 => ?_) (fun t2 t0 t1 => ?_) ?_ (fun g k1 k2 k3 => ?_)
                · have w := hc.1.1.2.1 t2 m2 (by unfold mm_isT; omega) m0 m1
                  refine ⟨by rw [fc2 24 _ _ _ (by omega) (by omega) (by omega)]; exact w.2.2.2.2.2.1, ?_, by rw [fc2 24 _ _ _ (by omega) (by omega) (by omega), kk_nzc (g := h (27, t2, m2)) (fun p _ _ => fc2 27 _ _ _ (by omega) (by omega) (by omega))]; exact w.2.2.2.2.2.2.1⟩
                  by_cases z : t2 = s ∧ m2 = n
                  · rw [z.1, z.2]; exact hc11
                  · rw [fcl _ _ (by rintro ⟨q, _⟩; simp at q; omega) (by simp) (by simp)]; exact w.2.2.2.1
                · have w := hc.1.1.2.2.2.2.2.2.2.2.2.1 t2 (by unfold mm_isT; omega)
                  unfold kk_as at w
                  rw [if_neg (by omega)] at w
                  rw [fc2 22 _ _ _ (by omega) (by omega) (by omega)]; exact w
                · rw [fc2 1 _ _ _ (by omega) (by omega) (by omega)]; omega
                have ek : ∀ x j, 40 ≤ x.1 → g x j = h x j := fun x j q => by rw [k2 x j q]; exact fcl x j (by rintro ⟨q6, _⟩; rw [q6] at q; simp at q) (by intro q6; rw [q6] at q; simp at q) (by intro q6; rw [q6] at q; simp at q)
                have ek3 : ∀ x j, 8 ≤ x.1 → x.1 ≤ 13 → g x j = h x j := fun x j q1 q2 => by rw [k3 x j q1 q2]; exact fcl x j (by rintro ⟨q6, _⟩; rw [q6] at q2; simp at q2) (by intro q6; rw [q6] at q2; simp at q2) (by intro q6; rw [q6] at q2; simp at q2)
                have lk : kk_lk h g := ⟨fun s2 _ _ => by rw [kk_acno k1 s2]; unfold kk_no; rw [fc2 31 _ _ _ (by omega) (by omega) (by omega), fc2 33 _ _ _ (by omega) (by omega) (by omega)], fun k k0 k9 => ek _ _ (by simp)⟩
                have tail : mm_Cl 235 [zR (40, 0, 0), zI t, zI n, zI k, zL l, zI m] (mm_z g dh nx ns) (fun (r2 : mm_V) (h2 : mm_H) => r2 = zI had ∧ ∃ g2, h2 = mm_z g2 dh nx ns ∧ kk_core (b + 1) g2 dh ∧ ∀ x j, kk_scr x j → g2 x j = h x j) := by
                  have f29 : mm_up g (40, 0, 0) 0 0 (40, 0, 0) 29 = h (1, 0, 0) 12 := (mm_upj (by decide)).trans ((ek _ _ (by simp)).trans (kk_cal hc).1.symm)
                  have f41n : mm_up g (40, 0, 0) 0 0 (41, 0, 0) (36 * s + n - 1) = h (24, s, n) 0 := by rw [mm_upf (by decide)]; exact (ek _ _ (by simp)).trans (kk_nf hc (by omega) h1n).1
                  have f44n : mm_up g (40, 0, 0) 0 0 (44, 0, 0) (36 * s + n - 1) = h (24, s, n) 6 := by rw [mm_upf (by decide)]; exact (ek _ _ (by simp)).trans (kk_nf hc (by omega) h1n).2.1
                  have f49n : mm_up g (40, 0, 0) 0 0 (49, 0, 0) (36 * s + n - 1) = h (24, s, n) 11 := by rw [mm_upf (by decide)]; exact (ek _ _ (by simp)).trans (kk_nf hc (by omega) h1n).2.2.1
                  have f42n : mm_up g (40, 0, 0) 0 0 (42, 0, 0) (36 * s + n - 1) = h (24, s, n) 1 := by rw [mm_upf (by decide)]; exact (ek _ _ (by simp)).trans ((kk_nf hc (by omega) h1n).2.2.2 h2n).1
                  have f47n : mm_up g (40, 0, 0) 0 0 (47, 0, 0) (36 * s + n - 1) = h (24, s, n) 2 := by rw [mm_upf (by decide)]; exact (ek _ _ (by simp)).trans ((kk_nf hc (by omega) h1n).2.2.2 h2n).2.1
                  have f48n : mm_up g (40, 0, 0) 0 0 (48, 0, 0) (36 * s + n - 1) = h (24, s, n) 3 := by rw [mm_upf (by decide)]; exact (ek _ _ (by simp)).trans ((kk_nf hc (by omega) h1n).2.2.2 h2n).2.2
                  rw [r_235_e (hy := hy)]
                  refine m181y hy hc (kk_lku (by decide) lk) ht hs ?_
                  rw [mm_pI, r_235_0_6 (hy := hy)]
                  refine m210y hy (by omega) h1n (by rw [f41n]; exact h3n) ?_
                  rw [mm_pI, r_235_0_11 (hy := hy), if_neg (by decide)]
                  refine m174y hy (by omega) ?_
                  rw [mm_pI, r_235_1_5 (hy := hy), if_neg (by decide), if_pos (by omega)]
                  refine m175 hy (by omega) h1n ?_
                  rw [mm_pI, r_235_3_3 (hy := hy) (hvx7 := rfl)]
                  refine m231y hy (by omega) f29 f47n w ?_
                  rw [mm_pI, r_235_3_7 (hy := hy), if_neg (by decide)]
                  have ks : mm_srt (fun i => mm_up g (40, 0, 0) 0 0 (50, 0, 0) (4 * (36 * s + n - 1) + i)) (mm_up g (40, 0, 0) 0 0 (49, 0, 0) (36 * s + n - 1)) := by
                    rw [f49n]
                    intro i j i0 ij jc
                    dsimp only
                    rw [mm_upf (by decide), mm_upf (by decide), (ek _ _ (by simp)).trans (NRn.2.2.2.2.2.1 i i0 (by omega)).1.symm, (ek _ _ (by simp)).trans (NRn.2.2.2.2.2.1 j (by omega) jc).1.symm]
                    exact NWn.2.2.2.2.2.2.2.2.2.2.2.2.1 i j i0 ij jc
                  have kx : ∀ i, 0 ≤ i → i < h (24, s, n) 11 → mm_up g (40, 0, 0) 0 0 (50, 0, 0) (4 * (36 * s + n - 1) + i) = h (28, s, n) i := fun i i0 i1 => (mm_upf (by decide)).trans ((ek _ _ (by simp)).trans (NRn.2.2.2.2.2.1 i i0 i1).1.symm)
                  have kc : 0 ≤ mm_up g (40, 0, 0) 0 0 (49, 0, 0) (36 * s + n - 1) ∧ mm_up g (40, 0, 0) 0 0 (49, 0, 0) (36 * s + n - 1) ≤ 4 := by rw [f49n]; exact NWn.2.2.2.1
                  have m234 : ∀ Q2 : mm_V → mm_H → Prop, Q2 (zI had) (mm_z (mm_up g (40, 0, 0) 0 0) dh nx ns) → mm_Cl 234 [zR (40, 0, 0), zI (36 * s + n - 1), zI k] (mm_z (mm_up g (40, 0, 0) 0 0) dh nx ns) Q2 := fun Q2 q2 => m234 hy (by omega) kc ks (fun p p0 p1 p2 => by
                    rw [f49n] at p1
                    rw [kx p p0 p1] at p2
                    rcases h01 with z | z
                    · exact absurd p2 (hn1 z p p0 p1)
                    · rw [z] at q2; exact q2) (fun w2 => by
                    rcases h01 with z | z
                    · rw [z] at q2; exact q2
                    · obtain ⟨p, p0, p1, p2⟩ := hy1 (by omega)
                      exact absurd p2 (by rw [← kx p p0 p1]; exact w2 p p0 (by rw [f49n]; exact p1)))
                  refine m234 _ ?_
                  rw [mm_pI, r_235_4_4 (hy := hy), mm_wi (z := 4 * (36 * s + n - 1)) (by omega) (by omega)]
                  refine m233 hy (by omega) kc (fun p p0 p1 p2 p3 => ?_)
                  rw [f49n] at p1 p3
                  have q2 : ∀ i, 0 ≤ i → i < p → h (28, s, n) i < k := fun i i0 i1 => by rw [← kx i i0 (by omega)]; exact p2 i i0 i1
                  have q3 : p < h (24, s, n) 11 → k ≤ h (28, s, n) p := fun q => by rw [← kx p p0 q]; exact p3 q
                  rw [mm_pI, r_235_4_12 (hy := hy), mm_wi (z := 4 * (36 * s + n - 1) + p) (by omega) (by omega), f49n]
                  have b5 : mm_Wp 235 (mm_blk 235 5) [zR (40, 0, 0), zI t, zI n, zI k, zL l, zU, zI m, zI s, zI (36 * s + n - 1), zI had, zI (4 * (36 * s + n - 1) + p), zU] [] (mm_z (mm_up g (40, 0, 0) 0 0) dh nx ns) (fun (r2 : mm_V) (h2 : mm_H) => r2 = zI had ∧ ∃ g2, h2 = mm_z g2 dh nx ns ∧ kk_core (b + 1) g2 dh ∧ ∀ x j, kk_scr x j → g2 x j = h x j) := by
                    have hp : had ≠ 0 → p < h (24, s, n) 11 ∧ h (28, s, n) p = k := fun q => by
                      obtain ⟨p', y0, y1, y2⟩ := hy1 q
                      have e := kk_pl NWn.2.2.2.2.2.2.2.2.2.2.2.2.1 y0 y1 y2 p0 p1 q2 q3
                      subst e
                      exact ⟨y1, y2⟩
                    have hc4 := NWn.2.2.2.1
                    refine m235b hy (by omega) f49n hc4 p0 p1 (fun q => (hp q).1) hn4 (fun G w11 fG aG => ?_)
                    rw [r_235_11 (hy := hy)]
                    have gm : ∀ y j, 40 ≤ y.1 → y.1 ≠ 56 → ¬ (y = (40, 0, 0) ∧ j = 0) → ¬ (y = (49, 0, 0) ∧ j = 36 * s + n - 1) → ¬ ((y = (50, 0, 0) ∨ y = (51, 0, 0)) ∧ 4 * (36 * s + n - 1) ≤ j ∧ j < 4 * (36 * s + n - 1) + 4) → G y j = h y j := fun y j a1 a2 a3 a4 a5 => by
                      rw [fG y j a4 a5, mm_upne' a3]; exact ek y j a1
                    have aM : kk_atr (fun i => h (50, 0, 0) (4 * (36 * s + n - 1) + i)) (fun i => h (51, 0, 0) (4 * (36 * s + n - 1) + i)) (h (24, s, n) 11) p k l m had (fun i => G (50, 0, 0) (4 * (36 * s + n - 1) + i)) (fun i => G (51, 0, 0) (4 * (36 * s + n - 1) + i)) (G (49, 0, 0) (36 * s + n - 1)) := by
                      have z0 : (fun i => mm_up g (40, 0, 0) 0 0 (50, 0, 0) (4 * (36 * s + n - 1) + i)) = fun i => h (50, 0, 0) (4 * (36 * s + n - 1) + i) := funext fun i => (mm_upf (by decide)).trans (ek _ _ (by simp))
                      have z1 : (fun i => mm_up g (40, 0, 0) 0 0 (51, 0, 0) (4 * (36 * s + n - 1) + i)) = fun i => h (51, 0, 0) (4 * (36 * s + n - 1) + i) := funext fun i => (mm_upf (by decide)).trans (ek _ _ (by simp))
                      rw [z0, z1] at aG
                      exact aG
                    have WM := kk_attZ hc ⟨s50, s51⟩ hno h1n h2n (fun y j _ a1 a2 a3 => fcl y j a1 a2 a3) gm rfl p0 p1 q2 q3 hp (fun q q4 => hn1 q p p0 q4) hn4 (by omega) hl (acl p p0 p1 q2 q3) aM rfl
                    have cG : ∀ x j, x.1 < 40 → G x j = g x j := fun x j q => by
                      rw [fG x j (by rintro ⟨q6, _⟩; rw [q6] at q; simp at q) (by rintro ⟨q6, _⟩; rcases q6 with q6 | q6 <;> rw [q6] at q <;> simp at q)]
                      exact kk_clU q (by simp)
                    have sG : ∀ x j, kk_scr x j → G x j = g x j := fun x j q => by
                      rw [fG x j (by rintro ⟨q6, _⟩; rw [q6] at q; simp [kk_scr] at q) (by rintro ⟨q6, _⟩; rcases q6 with q6 | q6 <;> rw [q6] at q <;> simp [kk_scr] at q)]
                      exact kk_scrU q (Or.inr ⟨rfl, by omega⟩)
                    refine m209W hy rfl WM.1 WM.2 (fun g2 m1 m2 m3 => ?_)
                    have fin2 : kk_core (b + 1) g2 dh ∧ ∀ x j, kk_scr x j → g2 x j = h x j := kk_actend (gx := g) hb rfl WM.1 WM.2 k1 m1 (fun x j q => by rw [m2 x j q]; exact cG x j q) m3 sG (fun x j q => by
                      rcases kk_scrC q with q5 | q5
                      · exact ek x j q5
                      · exact ek3 x j q5.1 q5.2)
                    rw [mm_pU, r_235_11_2 (hy := hy)]
                    rcases h01 with z | z
                    · rw [if_pos z, r_235_13 (hy := hy)]
                      exact ⟨by rw [z], g2, rfl, fin2⟩
                    · rw [if_neg (by omega), r_235_13 (hy := hy)]
                      exact ⟨by rw [z], g2, rfl, fin2⟩
                  split
                  · exact b5
                  · rename_i m0
                    split
                    · rename_i hz
                      rw [if_neg (by have := hn4 m0 hz; omega)]
                      exact ⟨by omega, b5⟩
                    · exact b5
                rw [mm_pU, r_17_8_3 (hx := hx)]
                rcases h01 with z | z
                · rw [if_pos z, r_17_10 (hx := hx)]
                  rw [z] at tail
                  exact ⟨⟨_, rfl, by omega, by omega⟩, g, dh, rfl, tail⟩
                · rw [if_neg (by omega), r_17_10 (hx := hx)]
                  rw [z] at tail
                  exact ⟨⟨_, rfl, by omega, by omega⟩, g, dh, rfl, tail⟩
              have c5 : ∀ had, (had = 0 ∨ had = 1) → (had ≠ 0 → ∃ p, 0 ≤ p ∧ p < h (24, s, n) 11 ∧ h (28, s, n) p = k) → (had = 0 → ∀ p, 0 ≤ p → p < h (24, s, n) 11 → ¬ h (28, s, n) p = k) → mm_Wp 17 (bk_17_5.drop 3) [zR (1, 0, 0), zI t, zI n, zI k, zL l, zU, zI m, zR (24, s, n), zR (31, s, 0), zU] [zI had] (mm_z h dh nx ns) (fun (r : mm_V) (h1 : mm_H) => kk_SI r ∧ ∃ g dh1, h1 = mm_z g dh1 nx ns ∧ mm_Cl 235 [zR (40, 0, 0), zI t, zI n, zI k, zL l, zI m] (mm_z g dh1 nx ns) (fun r2 h2 => r2 = r ∧ ∃ g2, h2 = mm_z g2 dh1 nx ns ∧ kk_core (b + 1) g2 dh1 ∧ ∀ x j, kk_scr x j → g2 x j = h x j)) := fun had h01 hy1 hn1 => by
                rw [r_17_5_3 (htx7 := hsT) (hnx7 := hnN) (htx8 := hD) (hx := hx)]
                split
                · rename_i m0
                  exact c6 had h01 hy1 hn1 (fun q => absurd m0 q)
                · rename_i m0
                  split
                  · rename_i hz
                    split
                    · rename_i c3
                      exact c6 had h01 hy1 hn1 (fun _ _ => c3)
                    · rename_i c3
                      refine fin (-4) ⟨_, rfl, by omega, by omega⟩ ?_
                      have ek : ∀ (x : mm_Id) (j : Int), 40 ≤ x.1 → h x j = h x j := fun _ _ _ => rfl
                      have lk := kk_lkr h
                      have f29 : mm_up h (40, 0, 0) 0 0 (40, 0, 0) 29 = h (1, 0, 0) 12 := (mm_upj (by decide)).trans ((ek _ _ (by simp)).trans (kk_cal hc).1.symm)
                      have f41n : mm_up h (40, 0, 0) 0 0 (41, 0, 0) (36 * s + n - 1) = h (24, s, n) 0 := by rw [mm_upf (by decide)]; exact (ek _ _ (by simp)).trans (kk_nf hc (by omega) h1n).1
                      have f44n : mm_up h (40, 0, 0) 0 0 (44, 0, 0) (36 * s + n - 1) = h (24, s, n) 6 := by rw [mm_upf (by decide)]; exact (ek _ _ (by simp)).trans (kk_nf hc (by omega) h1n).2.1
                      have f49n : mm_up h (40, 0, 0) 0 0 (49, 0, 0) (36 * s + n - 1) = h (24, s, n) 11 := by rw [mm_upf (by decide)]; exact (ek _ _ (by simp)).trans (kk_nf hc (by omega) h1n).2.2.1
                      have f42n : mm_up h (40, 0, 0) 0 0 (42, 0, 0) (36 * s + n - 1) = h (24, s, n) 1 := by rw [mm_upf (by decide)]; exact (ek _ _ (by simp)).trans ((kk_nf hc (by omega) h1n).2.2.2 h2n).1
                      have f47n : mm_up h (40, 0, 0) 0 0 (47, 0, 0) (36 * s + n - 1) = h (24, s, n) 2 := by rw [mm_upf (by decide)]; exact (ek _ _ (by simp)).trans ((kk_nf hc (by omega) h1n).2.2.2 h2n).2.1
                      have f48n : mm_up h (40, 0, 0) 0 0 (48, 0, 0) (36 * s + n - 1) = h (24, s, n) 3 := by rw [mm_upf (by decide)]; exact (ek _ _ (by simp)).trans ((kk_nf hc (by omega) h1n).2.2.2 h2n).2.2
                      rw [r_235_e (hy := hy)]
                      refine m181y hy hc (kk_lku (by decide) lk) ht hs ?_
                      rw [mm_pI, r_235_0_6 (hy := hy)]
                      refine m210y hy (by omega) h1n (by rw [f41n]; exact h3n) ?_
                      rw [mm_pI, r_235_0_11 (hy := hy), if_neg (by decide)]
                      refine m174y hy (by omega) ?_
                      rw [mm_pI, r_235_1_5 (hy := hy), if_neg (by decide), if_pos (by omega)]
                      refine m175 hy (by omega) h1n ?_
                      rw [mm_pI, r_235_3_3 (hy := hy) (hvx7 := rfl)]
                      refine m231y hy (by omega) f29 f47n w ?_
                      rw [mm_pI, r_235_3_7 (hy := hy), if_neg (by decide)]
                      have ks : mm_srt (fun i => mm_up h (40, 0, 0) 0 0 (50, 0, 0) (4 * (36 * s + n - 1) + i)) (mm_up h (40, 0, 0) 0 0 (49, 0, 0) (36 * s + n - 1)) := by
                        rw [f49n]
                        intro i j i0 ij jc
                        dsimp only
                        rw [mm_upf (by decide), mm_upf (by decide), (ek _ _ (by simp)).trans (NRn.2.2.2.2.2.1 i i0 (by omega)).1.symm, (ek _ _ (by simp)).trans (NRn.2.2.2.2.2.1 j (by omega) jc).1.symm]
                        exact NWn.2.2.2.2.2.2.2.2.2.2.2.2.1 i j i0 ij jc
                      have kx : ∀ i, 0 ≤ i → i < h (24, s, n) 11 → mm_up h (40, 0, 0) 0 0 (50, 0, 0) (4 * (36 * s + n - 1) + i) = h (28, s, n) i := fun i i0 i1 => (mm_upf (by decide)).trans ((ek _ _ (by simp)).trans (NRn.2.2.2.2.2.1 i i0 i1).1.symm)
                      have kc : 0 ≤ mm_up h (40, 0, 0) 0 0 (49, 0, 0) (36 * s + n - 1) ∧ mm_up h (40, 0, 0) 0 0 (49, 0, 0) (36 * s + n - 1) ≤ 4 := by rw [f49n]; exact NWn.2.2.2.1
                      have m234 : ∀ Q2 : mm_V → mm_H → Prop, Q2 (zI had) (mm_z (mm_up h (40, 0, 0) 0 0) dh nx ns) → mm_Cl 234 [zR (40, 0, 0), zI (36 * s + n - 1), zI k] (mm_z (mm_up h (40, 0, 0) 0 0) dh nx ns) Q2 := fun Q2 q2 => m234 hy (by omega) kc ks (fun p p0 p1 p2 => by
                        rw [f49n] at p1
                        rw [kx p p0 p1] at p2
                        rcases h01 with z | z
                        · exact absurd p2 (hn1 z p p0 p1)
                        · rw [z] at q2; exact q2) (fun w2 => by
                        rcases h01 with z | z
                        · rw [z] at q2; exact q2
                        · obtain ⟨p, p0, p1, p2⟩ := hy1 (by omega)
                          exact absurd p2 (by rw [← kx p p0 p1]; exact w2 p p0 (by rw [f49n]; exact p1)))
                      refine m234 _ ?_
                      rw [mm_pI, r_235_4_4 (hy := hy), mm_wi (z := 4 * (36 * s + n - 1)) (by omega) (by omega)]
                      refine m233 hy (by omega) kc (fun p p0 p1 p2 p3 => ?_)
                      rw [f49n] at p1 p3
                      have q2 : ∀ i, 0 ≤ i → i < p → h (28, s, n) i < k := fun i i0 i1 => by rw [← kx i i0 (by omega)]; exact p2 i i0 i1
                      have q3 : p < h (24, s, n) 11 → k ≤ h (28, s, n) p := fun q => by rw [← kx p p0 q]; exact p3 q
                      rw [mm_pI, r_235_4_12 (hy := hy), mm_wi (z := 4 * (36 * s + n - 1) + p) (by omega) (by omega), f49n]
                      have c4 := NWn.2.2.2.1
                      rw [if_neg m0, if_pos hz, if_pos (by omega)]
                      exact ⟨by omega, mfin _ _ rfl⟩
                  · rename_i hz
                    exact c6 had h01 hy1 hn1 (fun _ q => absurd q hz)
              refine s103 hsT hnN hx NWn.2.2.2.1 NWn.2.2.2.2.2.2.2.2.2.2.2.2.1 (fun p p0 p1 p2 => ?_) (fun w2 => ?_)
              · rw [mm_pI]
                exact c5 1 (Or.inr rfl) (fun _ => ⟨p, p0, p1, p2⟩) (fun q => absurd q (by decide))
              · rw [mm_pI]
                exact c5 0 (Or.inl rfl) (fun q => absurd rfl q) (fun _ => w2)
            · rw [mm_pI, r_17_4_3 (htx7 := hsT) (hnx7 := hnN) (htx8 := hD) (hx := hx), if_pos rfl]
              refine fin (-5) ⟨_, rfl, by omega, by omega⟩ ?_
              have ek : ∀ (x : mm_Id) (j : Int), 40 ≤ x.1 → h x j = h x j := fun _ _ _ => rfl
              have lk := kk_lkr h
              have f29 : mm_up h (40, 0, 0) 0 0 (40, 0, 0) 29 = h (1, 0, 0) 12 := (mm_upj (by decide)).trans ((ek _ _ (by simp)).trans (kk_cal hc).1.symm)
              have f41n : mm_up h (40, 0, 0) 0 0 (41, 0, 0) (36 * s + n - 1) = h (24, s, n) 0 := by rw [mm_upf (by decide)]; exact (ek _ _ (by simp)).trans (kk_nf hc (by omega) h1n).1
              have f44n : mm_up h (40, 0, 0) 0 0 (44, 0, 0) (36 * s + n - 1) = h (24, s, n) 6 := by rw [mm_upf (by decide)]; exact (ek _ _ (by simp)).trans (kk_nf hc (by omega) h1n).2.1
              have f49n : mm_up h (40, 0, 0) 0 0 (49, 0, 0) (36 * s + n - 1) = h (24, s, n) 11 := by rw [mm_upf (by decide)]; exact (ek _ _ (by simp)).trans (kk_nf hc (by omega) h1n).2.2.1
              have f42n : mm_up h (40, 0, 0) 0 0 (42, 0, 0) (36 * s + n - 1) = h (24, s, n) 1 := by rw [mm_upf (by decide)]; exact (ek _ _ (by simp)).trans ((kk_nf hc (by omega) h1n).2.2.2 h2n).1
              have f47n : mm_up h (40, 0, 0) 0 0 (47, 0, 0) (36 * s + n - 1) = h (24, s, n) 2 := by rw [mm_upf (by decide)]; exact (ek _ _ (by simp)).trans ((kk_nf hc (by omega) h1n).2.2.2 h2n).2.1
              have f48n : mm_up h (40, 0, 0) 0 0 (48, 0, 0) (36 * s + n - 1) = h (24, s, n) 3 := by rw [mm_upf (by decide)]; exact (ek _ _ (by simp)).trans ((kk_nf hc (by omega) h1n).2.2.2 h2n).2.2
              rw [r_235_e (hy := hy)]
              refine m181y hy hc (kk_lku (by decide) lk) ht hs ?_
              rw [mm_pI, r_235_0_6 (hy := hy)]
              refine m210y hy (by omega) h1n (by rw [f41n]; exact h3n) ?_
              rw [mm_pI, r_235_0_11 (hy := hy), if_neg (by decide)]
              refine m174y hy (by omega) ?_
              rw [mm_pI, r_235_1_5 (hy := hy), if_neg (by decide), if_pos (by omega)]
              refine m175 hy (by omega) h1n ?_
              rw [mm_pI, r_235_3_3 (hy := hy) (hvx7 := rfl)]
              refine m231n hy (by omega) f29 f47n w ?_
              rw [mm_pI, r_235_3_7 (hy := hy), if_pos rfl]
              exact mfin _ _ rfl
          · have s5 : 5 ≤ s := by
              by_cases z : s < 5
              · exact absurd hs (hs5 s z)
              · omega
            rw [mm_pR, r_17_3_3 (htx7 := hsT) (hnx7 := hnN) (hx := hx)]
            refine fin (-3) ⟨_, rfl, by omega, by omega⟩ ?_
            have ek : ∀ (x : mm_Id) (j : Int), 40 ≤ x.1 → h x j = h x j := fun _ _ _ => rfl
            have lk := kk_lkr h
            have f29 : mm_up h (40, 0, 0) 0 0 (40, 0, 0) 29 = h (1, 0, 0) 12 := (mm_upj (by decide)).trans ((ek _ _ (by simp)).trans (kk_cal hc).1.symm)
            have f41n : mm_up h (40, 0, 0) 0 0 (41, 0, 0) (36 * s + n - 1) = h (24, s, n) 0 := by rw [mm_upf (by decide)]; exact (ek _ _ (by simp)).trans (kk_nf hc (by omega) h1n).1
            have f44n : mm_up h (40, 0, 0) 0 0 (44, 0, 0) (36 * s + n - 1) = h (24, s, n) 6 := by rw [mm_upf (by decide)]; exact (ek _ _ (by simp)).trans (kk_nf hc (by omega) h1n).2.1
            have f49n : mm_up h (40, 0, 0) 0 0 (49, 0, 0) (36 * s + n - 1) = h (24, s, n) 11 := by rw [mm_upf (by decide)]; exact (ek _ _ (by simp)).trans (kk_nf hc (by omega) h1n).2.2.1
            have f42n : mm_up h (40, 0, 0) 0 0 (42, 0, 0) (36 * s + n - 1) = h (24, s, n) 1 := by rw [mm_upf (by decide)]; exact (ek _ _ (by simp)).trans ((kk_nf hc (by omega) h1n).2.2.2 h2n).1
            have f47n : mm_up h (40, 0, 0) 0 0 (47, 0, 0) (36 * s + n - 1) = h (24, s, n) 2 := by rw [mm_upf (by decide)]; exact (ek _ _ (by simp)).trans ((kk_nf hc (by omega) h1n).2.2.2 h2n).2.1
            have f48n : mm_up h (40, 0, 0) 0 0 (48, 0, 0) (36 * s + n - 1) = h (24, s, n) 3 := by rw [mm_upf (by decide)]; exact (ek _ _ (by simp)).trans ((kk_nf hc (by omega) h1n).2.2.2 h2n).2.2
            rw [r_235_e (hy := hy)]
            refine m181y hy hc (kk_lku (by decide) lk) ht hs ?_
            rw [mm_pI, r_235_0_6 (hy := hy)]
            refine m210y hy (by omega) h1n (by rw [f41n]; exact h3n) ?_
            rw [mm_pI, r_235_0_11 (hy := hy), if_neg (by decide)]
            refine m174y hy (by omega) ?_
            rw [mm_pI, r_235_1_5 (hy := hy), if_neg (by decide), if_neg (by omega)]
            exact mfin _ _ rfl
    · rw [mm_pR, r_17_0_6 (hx := hx)]
      refine fin (-1) ⟨_, rfl, by omega, by omega⟩ ?_
      have ek : ∀ (x : mm_Id) (j : Int), 40 ≤ x.1 → h x j = h x j := fun _ _ _ => rfl
      have lk := kk_lkr h
      rw [r_235_e (hy := hy)]
      refine m181y hy hc (kk_lku (by decide) lk) ht hs ?_
      rw [mm_pI, r_235_0_6 (hy := hy)]
      refine m210z hy (by omega) (fun w => hn0 ((kk_isn hc (by omega)).2 ⟨w.1, by rw [mm_upf (by decide)] at w; exact w.2⟩)) ?_
      rw [mm_pI, r_235_0_11 (hy := hy), if_pos rfl]
      exact mfin _ _ rfl
  · rw [mm_pR, r_17_0_4 (hx := hx)]
    refine s56n hx ?_
    rw [mm_pR, r_17_0_6 (hx := hx)]
    refine fin (-1) ⟨_, rfl, by omega, by omega⟩ ?_
    have ek : ∀ (x : mm_Id) (j : Int), 40 ≤ x.1 → h x j = h x j := fun _ _ _ => rfl
    have lk := kk_lkr h
    rw [r_235_e (hy := hy)]
    refine m181n hy hc (kk_lku (by decide) lk) ht hs ?_
    rw [mm_pI, r_235_0_6 (hy := hy)]
    refine m210n hy ?_
    rw [mm_pI, r_235_0_11 (hy := hy), if_pos rfl]
    exact mfin _ _ rfl

