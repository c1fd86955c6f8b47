/-! the calls of both: steps, users, disks, handles -/
/-- what only the rest speaks of has changed, and it holds -/
theorem kk_coreH {b : Int} {h g : mm_Id → Int → Int} {dh : Int → Int} (hb : b + 1 ≤ 1000000) (hc : kk_core b h dh) (e : ∀ x j, ¬ kk_gx x j → g x j = h x j) (kg : kk_KG g) : kk_core (b + 1) g dh := kk_coreS hb (kk_coreG e kg hc)
section
variable {hi : mm_Id → Int → Int} {dh : Int → Int} {nx ns : Int} {Q : mm_V → mm_H → Prop}
theorem s84 (hx : 5275 ≤ nx) {d : Int} (K1 : (1 ≤ d ∧ d ≤ hi (14, 0, 0) 0) → Q (zI 1) (mm_z hi dh nx ns)) (K0 : ¬ (1 ≤ d ∧ d ≤ hi (14, 0, 0) 0) → Q (zI 0) (mm_z hi dh nx ns)) : mm_Cl 84 [zR (14, 0, 0), zI d] (mm_z hi dh nx ns) Q := by
  rw [r_84_e (hx := hx)]
  split
  · rename_i c
    rw [r_84_1 (hx := hx), r_84_2 (hx := hx)]; exact ⟨Or.inl rfl, K0 (by omega)⟩
  · rename_i c
    split
    · rename_i c2
      rw [r_84_1 (hx := hx), r_84_2 (hx := hx)]; exact ⟨Or.inl rfl, K0 (by omega)⟩
    · rename_i c2
      rw [r_84_2 (hx := hx)]; exact ⟨Or.inr rfl, K1 (by omega)⟩
theorem s85 (hx : 5275 ≤ nx) {d v : Int} (hv : v = 0 ∨ v = 1) (K1 : hi (14, 0, 0) 2 = 0 → (hi (14, 0, 0) 1 = 0 ∨ hi (14, 0, 0) 1 = d) → Q (zI 1) (mm_z (mm_up (mm_up hi (14, 0, 0) 1 d) (14, 0, 0) 2 v) dh nx ns)) (K0 : ¬ (hi (14, 0, 0) 2 = 0 ∧ (hi (14, 0, 0) 1 = 0 ∨ hi (14, 0, 0) 1 = d)) → Q (zI 0) (mm_z hi dh nx ns)) : mm_Cl 85 [zR (14, 0, 0), zI d, zI v] (mm_z hi dh nx ns) Q := by
  rw [r_85_e (hx := hx)]
  split
  · rename_i c
    split
    · rename_i c2
      rw [r_85_2 (hx := hx)]; exact ⟨hv, K1 c (Or.inl c2)⟩
    · rename_i c2
      split
      · rename_i c3
        rw [r_85_2 (hx := hx)]; exact ⟨hv, K1 c (Or.inr c3)⟩
      · rename_i c3
        rw [r_85_1 (hx := hx)]; exact K0 (by omega)
  · rename_i c
    rw [r_85_1 (hx := hx)]; exact K0 (by omega)
theorem s86 (hx : 5275 ≤ nx) {d : Int} (hl : hi (14, 0, 0) 2 = 0 ∨ hi (14, 0, 0) 2 = 1) (K1 : hi (14, 0, 0) 2 = 1 → hi (14, 0, 0) 1 = d → Q (zI 1) (mm_z (mm_up hi (14, 0, 0) 2 0) dh nx ns)) (K0 : ¬ (hi (14, 0, 0) 2 = 1 ∧ hi (14, 0, 0) 1 = d) → Q (zI 0) (mm_z hi dh nx ns)) : mm_Cl 86 [zR (14, 0, 0), zI d] (mm_z hi dh nx ns) Q := by
  rw [r_86_e (hx := hx)]
  split
  · rename_i c
    rw [r_86_1 (hx := hx), r_86_2 (hvx1 := mm_wI _) (hx := hx), if_pos c, r_86_3 (hx := hx), r_86_4 (hx := hx)]
    refine ⟨Or.inl rfl, Or.inl rfl, ?_⟩
    have e : mm_up hi (14, 0, 0) 2 0 = hi := by
      have := mm_upself hi (14, 0, 0) 2
      rw [c] at this; exact this
    rw [e]; exact K0 (by omega)
  · rename_i c
    split
    · rename_i c2
      rw [r_86_2 (hvx1 := mm_wI _) (hx := hx), if_neg c, if_neg (by decide), r_86_3 (hx := hx), r_86_4 (hx := hx)]
      exact ⟨Or.inl rfl, Or.inr rfl, K1 (by omega) c2⟩
    · rename_i c2
      rw [r_86_1 (hx := hx), r_86_2 (hvx1 := mm_wI _) (hx := hx), if_neg c, if_pos rfl, r_86_4 (hx := hx)]
      refine ⟨Or.inr rfl, Or.inl rfl, ?_⟩
      have e : mm_up hi (14, 0, 0) 2 1 = hi := by
        have := mm_upself hi (14, 0, 0) 2
        rw [show hi (14, 0, 0) 2 = 1 by omega] at this; exact this
      rw [e]; exact K0 (by omega)
theorem s88 (hx : 5275 ≤ nx) {d : Int} (K : ∀ v, (v = if d = hi (14, 0, 0) 1 then (if hi (14, 0, 0) 2 = 0 then 1 else 2) else 0) → Q (zI v) (mm_z hi dh nx ns)) : mm_Cl 88 [zR (14, 0, 0), zI d] (mm_z hi dh nx ns) Q := by
  rw [r_88_e (hx := hx)]
  split
  · rename_i c
    split
    · rename_i c2
      rw [r_88_3 (hx := hx)]; exact K _ (by rw [if_pos c, if_pos c2])
    · rename_i c2
      rw [r_88_3 (hx := hx)]; exact K _ (by rw [if_pos c, if_neg c2])
  · rename_i c
    rw [r_88_3 (hx := hx)]; exact K _ (by rw [if_neg c])
theorem m268 (hy : 5306 ≤ nx) {d : Int} (K1 : (1 ≤ d ∧ d ≤ hi (40, 0, 0) 1) → Q (zI 1) (mm_z hi dh nx ns)) (K0 : ¬ (1 ≤ d ∧ d ≤ hi (40, 0, 0) 1) → Q (zI 0) (mm_z hi dh nx ns)) : mm_Cl 268 [zR (40, 0, 0), zI d] (mm_z hi dh nx ns) Q := by
  rw [r_268_e (hy := hy)]
  refine m174 hy (fun w => ?_) (fun w => ?_)
  · rw [mm_pI, r_268_0_7 (hy := hy)]; exact ⟨Or.inr rfl, K1 w⟩
  · rw [mm_pI, r_268_0_7 (hy := hy)]; exact ⟨Or.inl rfl, K0 w⟩
theorem m269 (hy : 5306 ≤ nx) {d : Int} (K0 : hi (40, 0, 0) 36 = 0 → (hi (40, 0, 0) 35 = 0 ∨ hi (40, 0, 0) 35 = d) → Q (zI 0) (mm_z hi dh nx ns)) (K1 : ¬ (hi (40, 0, 0) 36 = 0 ∧ (hi (40, 0, 0) 35 = 0 ∨ hi (40, 0, 0) 35 = d)) → Q (zI 1) (mm_z hi dh nx ns)) : mm_Cl 269 [zR (40, 0, 0), zI d] (mm_z hi dh nx ns) Q := by
  rw [r_269_e (hy := hy)]
  split
  · rename_i c
    rw [r_269_1 (hy := hy)]
    split
    · rename_i c2
      rw [r_269_4 (hy := hy)]; exact ⟨Or.inl rfl, K0 c2 (Or.inl c)⟩
    · rename_i c2
      rw [r_269_2 (hy := hy), r_269_4 (hy := hy)]; exact ⟨Or.inr rfl, K1 (by omega)⟩
  · rename_i c
    split
    · rename_i c2
      rw [r_269_1 (hy := hy)]
      split
      · rename_i c3
        rw [r_269_4 (hy := hy)]; exact ⟨Or.inl rfl, K0 c3 (Or.inr c2)⟩
      · rename_i c3
        rw [r_269_2 (hy := hy), r_269_4 (hy := hy)]; exact ⟨Or.inr rfl, K1 (by omega)⟩
    · rename_i c2
      rw [r_269_2 (hy := hy), r_269_4 (hy := hy)]; exact ⟨Or.inr rfl, K1 (by omega)⟩
end
/-- the disks are the same here and there -/
theorem kk_dsk {b : Int} {h : mm_Id → Int → Int} {dh : Int → Int} (hc : kk_core b h dh) : (h (14, 0, 0) 0 = h (40, 0, 0) 1 ∧ 4 ≤ h (14, 0, 0) 0 ∧ h (14, 0, 0) 0 ≤ 7) ∧ (h (14, 0, 0) 1 = h (40, 0, 0) 35 ∧ 0 ≤ h (14, 0, 0) 1 ∧ h (14, 0, 0) 1 ≤ 7) ∧ (h (14, 0, 0) 2 = h (40, 0, 0) 36 ∧ (h (14, 0, 0) 2 = 0 ∨ h (14, 0, 0) 2 = 1)) := ⟨hc.1.2.2.2.2.2.2.2.1, hc.1.2.2.2.2.2.2.2.2.1, hc.1.2.2.2.2.2.2.2.2.2.1⟩
/-- the path is the same here and there -/
theorem kk_pth {b : Int} {h : mm_Id → Int → Int} {dh : Int → Int} (hc : kk_core b h dh) : (h (5, 0, 0) 2 = h (40, 0, 0) 30 ∧ 0 ≤ h (5, 0, 0) 2 ∧ h (5, 0, 0) 2 ≤ 8) ∧ (∀ i, 0 ≤ i → i < h (5, 0, 0) 2 → h (6, 0, 0) i = h (65, 0, 0) i ∧ 0 ≤ h (6, 0, 0) i ∧ h (6, 0, 0) i ≤ 1000000) := ⟨hc.1.2.2.2.2.1, hc.1.2.2.2.2.2.1⟩

theorem c_46 {b : Int} {h : mm_Id → Int → Int} {dh : Int → Int} {nx ns : Int} (hy : 5306 ≤ nx) (hc : kk_core b h dh) (hb : b + 1 ≤ 1000000) {t : Int} (ht : -2147483648 ≤ t ∧ t < 2147483648) : kk_call 46 274 [zI t] b h dh nx ns kk_SI := by
  unfold kk_call
  have hx : 5275 ≤ nx := by omega
  have hc0 : kk_core b (mm_up h (40, 0, 0) 0 0) dh := kk_core0 hc
  have mfin : ∀ v w : Int, w = v → (fun (r2 : mm_V) (h2 : mm_H) => r2 = zI v ∧ ∃ g2, h2 = mm_z g2 dh nx ns ∧ kk_core (b + 1) g2 dh ∧ ∀ x j, kk_scr x j → g2 x j = h x j) (zI w) (mm_z (mm_up h (40, 0, 0) 0 0) dh nx ns) :=
    fun v w e => ⟨by rw [e], _, rfl, kk_coreS hb hc0, fun x j hs => kk_scr0 hs⟩
  obtain ⟨⟨d1, d2, d3⟩, ⟨d4, d5, d6⟩, d7, d8⟩ := kk_dsk hc
  rw [r_46_e (hx := hx)]
  refine s84 hx (fun w => ?_) (fun w => ?_)
  · rw [mm_pI, r_46_0_4 (hx := hx), if_neg (by decide)]
    refine s88 hx (fun v hv => ?_)
    rw [mm_pI, r_46_0_9 (hx := hx), r_46_2 (hx := hx)]
    have hv2 : 0 ≤ v ∧ v ≤ 2 := by
      subst hv; split
      · split <;> omega
      · omega
    refine ⟨⟨_, rfl, by omega, by omega⟩, _, _, rfl, ?_⟩
    rw [r_274_e (hy := hy)]
    refine m268 hy (fun w2 => ?_) (fun w2 => absurd (by rw [mm_upj (by decide), ← d1]; exact w) w2)
    rw [mm_pI, r_274_0_6 (hy := hy), if_neg (by decide), mm_upj (by decide), mm_upj (by decide), ← d4, ← d7]
    split
    · rename_i c
      rw [if_pos c.symm] at hv
      split
      · rename_i c2
        rw [if_pos c2] at hv
        rw [r_274_4 (hy := hy)]; exact mfin _ _ hv.symm
      · rename_i c2
        rw [if_neg c2] at hv
        rw [r_274_4 (hy := hy)]; exact mfin _ _ hv.symm
    · rename_i c
      rw [if_neg (fun q => c q.symm)] at hv
      rw [r_274_4 (hy := hy)]; exact mfin _ _ hv.symm
  · rw [mm_pI, r_46_0_4 (hx := hx), if_pos rfl, r_46_2 (hx := hx)]
    refine ⟨⟨_, rfl, by omega, by omega⟩, _, _, rfl, ?_⟩
    rw [r_274_e (hy := hy)]
    refine m268 hy (fun w2 => absurd (by rw [mm_upj (by decide), ← d1] at w2; exact w2) w) (fun w2 => ?_)
    rw [mm_pI, r_274_0_6 (hy := hy), if_pos rfl]
    exact mfin _ _ rfl

theorem kk_upG {b : Int} {h : mm_Id → Int → Int} {dh : Int → Int} (hc : kk_core b h dh) {d v : Int} (hd : 0 ≤ d ∧ d ≤ 7) (hv : v = 0 ∨ v = 1) : kk_KG (mm_up (mm_up (mm_up (mm_up (mm_up h (14, 0, 0) 1 d) (14, 0, 0) 2 v) (40, 0, 0) 0 0) (40, 0, 0) 35 d) (40, 0, 0) 36 v) := by
  obtain ⟨g1, g2, g3, g4, g5, g6, g7, g8⟩ := hc.1.2.2.2
  simp only [kk_KG, mm_up, Prod.mk.injEq]
  simp
  exact ⟨g1, g2, g3, g4, g5, hd, hv, by simpa using g8⟩
theorem kk_upE {h : mm_Id → Int → Int} {d v x2 y2 u : Int} : ∀ (x : mm_Id) j, ¬ kk_gx x j → mm_up (mm_up (mm_up (mm_up (mm_up h (14, 0, 0) 1 d) (14, 0, 0) 2 v) (40, 0, 0) 0 u) (40, 0, 0) 35 x2) (40, 0, 0) 36 y2 x j = h x j := by
  intro x j hx
  unfold kk_gx at hx
  simp only [not_or, not_and] at hx
  obtain ⟨a1, a2, a3, a4, a5, a6, a7, a8⟩ := hx
  have n14 : ¬ x = (14, 0, 0) := fun q => a4 (by rw [q])
  by_cases c : x = (40, 0, 0)
  · have := a8 c
    rw [mm_upj (by omega), mm_upj (by omega), mm_upj (by omega), mm_upx n14, mm_upx n14]
  · rw [mm_upx c, mm_upx c, mm_upx c, mm_upx n14, mm_upx n14]
theorem kk_upS {h : mm_Id → Int → Int} {d v x2 y2 u : Int} : ∀ (x : mm_Id) j, kk_scr x j → mm_up (mm_up (mm_up (mm_up (mm_up h (14, 0, 0) 1 d) (14, 0, 0) 2 v) (40, 0, 0) 0 u) (40, 0, 0) 35 x2) (40, 0, 0) 36 y2 x j = h x j := by
  intro x j hx
  unfold kk_scr at hx
  have n14 : ¬ x = (14, 0, 0) := fun q => by rw [q] at hx; simp at hx
  by_cases c : x = (40, 0, 0)
  · rw [c] at hx
    simp at hx
    rw [mm_upj (by omega), mm_upj (by omega), mm_upj (by omega), mm_upx n14, mm_upx n14]
  · rw [mm_upx c, mm_upx c, mm_upx c, mm_upx n14, mm_upx n14]
theorem kk_upK {b : Int} {h g : mm_Id → Int → Int} {dh : Int → Int} (hb : b + 1 ≤ 1000000) (hc : kk_core b h dh) {d v : Int} (hd : 0 ≤ d ∧ d ≤ 7) (hv : v = 0 ∨ v = 1) (hg : g = mm_up (mm_up (mm_up (mm_up (mm_up h (14, 0, 0) 1 d) (14, 0, 0) 2 v) (40, 0, 0) 0 0) (40, 0, 0) 35 d) (40, 0, 0) 36 v) : kk_core (b + 1) g dh ∧ ∀ x j, kk_scr x j → g x j = h x j := by
  subst hg
  exact ⟨kk_coreH hb hc kk_upE (kk_upG hc hd hv), kk_upS⟩

theorem c_43 {b : Int} {h : mm_Id → Int → Int} {dh : Int → Int} {nx ns : Int} (hy : 5306 ≤ nx) (hc : kk_core b h dh) (hb : b + 1 ≤ 1000000) {t : Int} (ht : -2147483648 ≤ t ∧ t < 2147483648) : kk_call 43 271 [zI t] b h dh nx ns kk_SI := by
  unfold kk_call
  have hx : 5275 ≤ nx := by omega
  have hc0 : kk_core b (mm_up h (40, 0, 0) 0 0) dh := kk_core0 hc
  have mfin : ∀ v w : Int, w = v → (fun (r2 : mm_V) (h2 : mm_H) => r2 = zI v ∧ ∃ g2, h2 = mm_z g2 dh nx ns ∧ kk_core (b + 1) g2 dh ∧ ∀ x j, kk_scr x j → g2 x j = h x j) (zI w) (mm_z (mm_up h (40, 0, 0) 0 0) dh nx ns) :=
    fun v w e => ⟨by rw [e], _, rfl, kk_coreS hb hc0, fun x j hs => kk_scr0 hs⟩
  obtain ⟨⟨d1, d2, d3⟩, ⟨d4, d5, d6⟩, d7, d8⟩ := kk_dsk hc
  rw [r_43_e (hx := hx)]
  refine s84 hx (fun w => ?_) (fun w => ?_)
  · rw [mm_pI, r_43_0_4 (hx := hx), if_neg (by decide)]
    refine s85 hx (Or.inr rfl) (fun a1 a2 => ?_) (fun a => ?_)
    · rw [mm_pI, r_43_1_5 (hx := hx), if_neg (by decide), r_43_3 (hx := hx)]
      refine ⟨⟨_, rfl, by omega, by omega⟩, _, _, rfl, ?_⟩
      rw [r_271_e (hy := hy)]
      refine m268 hy (fun w2 => ?_) (fun w2 => absurd (by rw [mm_upj (by decide), mm_upf (by decide), mm_upf (by decide), ← d1]; exact w) w2)
      rw [mm_pI, r_271_0_6 (hy := hy), if_neg (by decide)]
      refine m269 hy (fun q1 q2 => ?_) (fun q => absurd (by rw [mm_upj (by decide), mm_upf (by decide), mm_upf (by decide), mm_upj (by decide), mm_upf (by decide), mm_upf (by decide), ← d4, ← d7]; exact ⟨a1, a2⟩) q)
      rw [mm_pI, r_271_1_3 (hy := hy), if_pos rfl]
      exact ⟨rfl, _, rfl, kk_upK hb hc (by omega) (Or.inr rfl) rfl⟩
    · rw [mm_pI, r_43_1_5 (hx := hx), if_pos rfl, r_43_3 (hx := hx)]
      refine ⟨⟨_, rfl, by omega, by omega⟩, _, _, rfl, ?_⟩
      rw [r_271_e (hy := hy)]
      refine m268 hy (fun w2 => ?_) (fun w2 => absurd (by rw [mm_upj (by decide), ← d1]; exact w) w2)
      rw [mm_pI, r_271_0_6 (hy := hy), if_neg (by decide)]
      refine m269 hy (fun q1 q2 => absurd (by rw [mm_upj (by decide), ← d7] at q1; rw [mm_upj (by decide), ← d4] at q2; exact ⟨q1, q2⟩) a) (fun q => ?_)
      rw [mm_pI, r_271_1_3 (hy := hy), if_neg (by decide)]
      exact mfin _ _ rfl
  · rw [mm_pI, r_43_0_4 (hx := hx), if_pos rfl]
    refine ⟨⟨_, rfl, by omega, by omega⟩, _, _, rfl, ?_⟩
    rw [r_271_e (hy := hy)]
    refine m268 hy (fun w2 => absurd (by rw [mm_upj (by decide), ← d1] at w2; exact w2) w) (fun w2 => ?_)
    rw [mm_pI, r_271_0_6 (hy := hy), if_pos rfl]
    exact mfin _ _ rfl

theorem c_42 {b : Int} {h : mm_Id → Int → Int} {dh : Int → Int} {nx ns : Int} (hy : 5306 ≤ nx) (hc : kk_core b h dh) (hb : b + 1 ≤ 1000000) {t n k : Int} (ht : -2147483648 ≤ t ∧ t < 2147483648) (hn : -2147483648 ≤ n ∧ n < 2147483648) (hk : -2147483648 ≤ k ∧ k < 2147483648) : kk_call 42 270 [zI t, zI n, zI k] b h dh nx ns kk_SI := by
  unfold kk_call
  have hx : 5275 ≤ nx := by omega
  have hc0 : kk_core b (mm_up h (40, 0, 0) 0 0) dh := kk_core0 hc
  have mfin : ∀ v w : Int, w = v → (fun (r2 : mm_V) (h2 : mm_H) => r2 = zI v ∧ ∃ g2, h2 = mm_z g2 dh nx ns ∧ kk_core (b + 1) g2 dh ∧ ∀ x j, kk_scr x j → g2 x j = h x j) (zI w) (mm_z (mm_up h (40, 0, 0) 0 0) dh nx ns) :=
    fun v w e => ⟨by rw [e], _, rfl, kk_coreS hb hc0, fun x j hs => kk_scr0 hs⟩
  obtain ⟨⟨d1, d2, d3⟩, ⟨d4, d5, d6⟩, d7, d8⟩ := kk_dsk hc
  have rng : ¬ (1 ≤ k ∧ k ≤ 2000) → (1 ≤ t ∧ t ≤ h (14, 0, 0) 0) → mm_Cl 270 [zR (40, 0, 0), zI t, zI n, zI k] (mm_z h dh nx ns) (fun r2 h2 => r2 = zI (-2) ∧ ∃ g2, h2 = mm_z g2 dh nx ns ∧ kk_core (b + 1) g2 dh ∧ ∀ x j, kk_scr x j → g2 x j = h x j) := fun a w => by
    rw [r_270_e (hy := hy)]
    refine m268 hy (fun w2 => ?_) (fun w2 => absurd (by rw [mm_upj (by decide), ← d1]; exact w) w2)
    rw [mm_pI, r_270_0_6 (hy := hy), if_neg (by decide)]
    refine m174 hy (fun q => absurd q a) (fun q => ?_)
    rw [mm_pI, r_270_1_5 (hy := hy), if_pos rfl]
    exact mfin _ _ rfl
  rw [r_42_e (hx := hx)]
  refine s84 hx (fun w => ?_) (fun w => ?_)
  · rw [mm_pI, r_42_0_4 (hx := hx), if_neg (by decide)]
    split
    · rename_i c1
      rw [r_42_2 (hx := hx)]
      exact ⟨⟨_, rfl, by omega, by omega⟩, _, _, rfl, rng (by omega) w⟩
    · rename_i c1
      split
      · rename_i c2
        rw [r_42_2 (hx := hx)]
        exact ⟨⟨_, rfl, by omega, by omega⟩, _, _, rfl, rng (by omega) w⟩
      · rename_i c2
        refine s85 hx (Or.inl rfl) (fun a1 a2 => ?_) (fun a => ?_)
        · rw [mm_pI, r_42_3_5 (hx := hx), if_neg (by decide), r_42_5 (hx := hx)]
          refine ⟨⟨_, rfl, by omega, by omega⟩, _, _, rfl, ?_⟩
          rw [r_270_e (hy := hy)]
          refine m268 hy (fun w2 => ?_) (fun w2 => absurd (by rw [mm_upj (by decide), mm_upf (by decide), mm_upf (by decide), ← d1]; exact w) w2)
          rw [mm_pI, r_270_0_6 (hy := hy), if_neg (by decide)]
          refine m174 hy (fun q => ?_) (fun q => absurd (by omega) q)
          rw [mm_pI, r_270_1_5 (hy := hy), if_neg (by decide)]
          refine m269 hy (fun q1 q2 => ?_) (fun q => absurd (by rw [mm_upj (by decide), mm_upf (by decide), mm_upf (by decide), mm_upj (by decide), mm_upf (by decide), mm_upf (by decide), ← d4, ← d7]; exact ⟨a1, a2⟩) q)
          rw [mm_pI, r_270_2_3 (hy := hy), if_pos rfl]
          refine ⟨rfl, _, rfl, kk_upK hb hc (d := t) (by omega) (Or.inl rfl) ?_⟩
          have e := mm_upself (mm_up (mm_up (mm_up (mm_up h (14, 0, 0) 1 t) (14, 0, 0) 2 0) (40, 0, 0) 0 0) (40, 0, 0) 35 t) (40, 0, 0) 36
          rw [show (mm_up (mm_up (mm_up (mm_up h (14, 0, 0) 1 t) (14, 0, 0) 2 0) (40, 0, 0) 0 0) (40, 0, 0) 35 t) (40, 0, 0) 36 = 0 by
            rw [mm_upj (by decide)]; exact q1] at e
          exact e.symm
        · rw [mm_pI, r_42_3_5 (hx := hx), if_pos rfl, r_42_5 (hx := hx)]
          refine ⟨⟨_, rfl, by omega, by omega⟩, _, _, rfl, ?_⟩
          rw [r_270_e (hy := hy)]
          refine m268 hy (fun w2 => ?_) (fun w2 => absurd (by rw [mm_upj (by decide), ← d1]; exact w) w2)
          rw [mm_pI, r_270_0_6 (hy := hy), if_neg (by decide)]
          refine m174 hy (fun q => ?_) (fun q => absurd (by omega) q)
          rw [mm_pI, r_270_1_5 (hy := hy), if_neg (by decide)]
          refine m269 hy (fun q1 q2 => absurd (by rw [mm_upj (by decide), ← d7] at q1; rw [mm_upj (by decide), ← d4] at q2; exact ⟨q1, q2⟩) a) (fun q => ?_)
          rw [mm_pI, r_270_2_3 (hy := hy), if_neg (by decide)]
          exact mfin _ _ rfl
  · rw [mm_pI, r_42_0_4 (hx := hx), if_pos rfl]
    refine ⟨⟨_, rfl, by omega, by omega⟩, _, _, rfl, ?_⟩
    rw [r_270_e (hy := hy)]
    refine m268 hy (fun w2 => absurd (by rw [mm_upj (by decide), ← d1] at w2; exact w2) w) (fun w2 => ?_)
    rw [mm_pI, r_270_0_6 (hy := hy), if_pos rfl]
    exact mfin _ _ rfl

theorem c_44 {b : Int} {h : mm_Id → Int → Int} {dh : Int → Int} {nx ns : Int} (hy : 5306 ≤ nx) (hc : kk_core b h dh) (hb : b + 1 ≤ 1000000) {t n : Int} (ht : -2147483648 ≤ t ∧ t < 2147483648) (hn : n = 0 ∨ n = 1) : kk_call 44 272 [zI t, zI n] b h dh nx ns kk_SI := by
  unfold kk_call
  have hx : 5275 ≤ nx := by omega
  have hc0 : kk_core b (mm_up h (40, 0, 0) 0 0) dh := kk_core0 hc
  have mfin : ∀ v w : Int, w = v → (fun (r2 : mm_V) (h2 : mm_H) => r2 = zI v ∧ ∃ g2, h2 = mm_z g2 dh nx ns ∧ kk_core (b + 1) g2 dh ∧ ∀ x j, kk_scr x j → g2 x j = h x j) (zI w) (mm_z (mm_up h (40, 0, 0) 0 0) dh nx ns) :=
    fun v w e => ⟨by rw [e], _, rfl, kk_coreS hb hc0, fun x j hs => kk_scr0 hs⟩
  obtain ⟨⟨d1, d2, d3⟩, ⟨d4, d5, d6⟩, d7, d8⟩ := kk_dsk hc
  rw [r_44_e (hx := hx)]
  refine s84 hx (fun w => ?_) (fun w => ?_)
  · rw [mm_pI, r_44_0_4 (hx := hx), if_neg (by decide)]
    refine s86 hx d8 (fun a1 a2 => ?_) (fun a => ?_)
    · rw [mm_pI, r_44_1_4 (hx := hx), if_neg (by decide), r_44_3 (hx := hx)]
      refine ⟨⟨_, rfl, by omega, by omega⟩, _, _, rfl, ?_⟩
      rw [r_272_e (hy := hy)]
      refine m268 hy (fun w2 => ?_) (fun w2 => absurd (by rw [mm_upj (by decide), mm_upf (by decide), ← d1]; exact w) w2)
      rw [mm_pI, r_272_0_6 (hy := hy), if_neg (by decide), mm_upj (by decide), mm_upf (by decide), ← d7, if_neg (by omega), mm_upj (by decide), mm_upf (by decide), ← d4, if_pos a2]
      refine ⟨rfl, _, rfl, kk_upK hb hc (d := t) (by omega) (Or.inl rfl) ?_⟩
      have e1 := mm_upself h (14, 0, 0) 1
      rw [a2] at e1
      have e2 := mm_upself (mm_up (mm_up h (14, 0, 0) 2 0) (40, 0, 0) 0 0) (40, 0, 0) 35
      rw [mm_upj (by decide), mm_upf (by decide), ← d4, a2] at e2
      rw [e1, e2]
    · rw [mm_pI, r_44_1_4 (hx := hx), if_pos rfl, r_44_3 (hx := hx)]
      refine ⟨⟨_, rfl, by omega, by omega⟩, _, _, rfl, ?_⟩
      rw [r_272_e (hy := hy)]
      refine m268 hy (fun w2 => ?_) (fun w2 => absurd (by rw [mm_upj (by decide), ← d1]; exact w) w2)
      rw [mm_pI, r_272_0_6 (hy := hy), if_neg (by decide)]
      rw [mm_upj (by decide), mm_upj (by decide), ← d4, ← d7]
      split
      · rw [r_272_2 (hy := hy)]; exact mfin _ _ rfl
      · rw [if_neg (by omega), r_272_2 (hy := hy)]; exact mfin _ _ rfl
  · rw [mm_pI, r_44_0_4 (hx := hx), if_pos rfl]
    refine ⟨⟨_, rfl, by omega, by omega⟩, _, _, rfl, ?_⟩
    rw [r_272_e (hy := hy)]
    refine m268 hy (fun w2 => absurd (by rw [mm_upj (by decide), ← d1] at w2; exact w2) w) (fun w2 => ?_)
    rw [mm_pI, r_272_0_6 (hy := hy), if_pos rfl]
    exact mfin _ _ rfl
