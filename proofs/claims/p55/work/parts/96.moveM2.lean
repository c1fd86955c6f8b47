/-! an entry moved, there: what rename does from where nothing stands in its way -/
theorem m227m {f : mm_Id → Int → Int} {dh : Int → Int} {nx ns : Int} {Q : mm_V → mm_H → Prop} (hy : 10581 ≤ nx) {s n l k q m o x10 ko : Int} {v1 v7 v9 : mm_V} (hs : 0 ≤ s ∧ s < 29) (h1n : 1 ≤ n ∧ n < 37) (h1k : 1 ≤ k ∧ k < 37) (hm : 1 ≤ m ∧ m < 37) (hS : ∀ d, 1 ≤ d → d < 37 → kk_Es f s d) (hE : kk_Em f s n l m) (ne : ¬ (n = k ∧ l = q))
    (ho : (x10 < 0 ∧ o = 0 ∧ ∀ v, ¬ kk_Em f s k q v) ∨ ((0 ≤ x10 ∧ x10 < f (44, 0, 0) (36 * s + k - 1)) ∧ f (45, 0, 0) (24 * (36 * s + k - 1) + x10) = q ∧ f (46, 0, 0) (24 * (36 * s + k - 1) + x10) = o ∧ (1 ≤ o ∧ o < 37) ∧ (o ≠ m → o ≠ n ∧ o ≠ k ∧ f (44, 0, 0) (36 * s + o - 1) = 0 ∧ f (41, 0, 0) (36 * s + o - 1) = ko)))
    (hfull : o = 0 → n = k ∨ f (44, 0, 0) (36 * s + k - 1) < 24)
    (K : ∀ G, (∀ d, 1 ≤ d → d < 37 → kk_Es G s d ∧ ∀ x v, kk_Em G s d x v ↔ (kk_Em f s d x v ∧ ¬ (d = n ∧ x = l) ∧ ¬ (d = k ∧ x = q)) ∨ (d = k ∧ x = q ∧ v = m)) → (o ≠ 0 ∧ o ≠ m ∧ ko ≠ 1 → kk_mz G (36 * s + o - 1)) →
      (∀ (y : mm_Id) j, ¬ (y = (44, 0, 0) ∧ (j = 36 * s + n - 1 ∨ j = 36 * s + k - 1)) → ¬ ((y = (45, 0, 0) ∨ y = (46, 0, 0)) ∧ (24 * (36 * s + n - 1) ≤ j ∧ j < 24 * (36 * s + n - 1) + 24 ∨ 24 * (36 * s + k - 1) ≤ j ∧ j < 24 * (36 * s + k - 1) + 24)) → ¬ ((o ≠ 0 ∧ o ≠ m ∧ ko ≠ 1) ∧ kk_cx (36 * s + o - 1) y j) → G y j = f y j) →
      mm_Wp 227 (mm_blk 227 19) [zR (40, 0, 0), v1, zI n, zI l, zI k, zI q, zI s, v7, zI m, v9, zI x10, zI o, zI 0] [] (mm_z G dh nx ns) Q) :
    mm_Wp 227 (mm_blk 227 17) [zR (40, 0, 0), v1, zI n, zI l, zI k, zI q, zI s, v7, zI m, v9, zI x10, zI o, zI 0] [] (mm_z f dh nx ns) Q := by
  have B18 : ∀ f1 : mm_Id → Int → Int, (∀ d, 1 ≤ d → d < 37 → kk_Es f1 s d) → (∀ d x v, 1 ≤ d → d < 37 → (kk_Em f1 s d x v ↔ kk_Em f s d x v ∧ ¬ (o ≠ m ∧ d = k ∧ x = q))) → (o ≠ m → n = k ∨ f1 (44, 0, 0) (36 * s + k - 1) < 24) → (o ≠ 0 ∧ o ≠ m ∧ ko ≠ 1 → kk_mz f1 (36 * s + o - 1)) →
      (∀ (y : mm_Id) j, ¬ (y = (44, 0, 0) ∧ j = 36 * s + k - 1) → ¬ ((y = (45, 0, 0) ∨ y = (46, 0, 0)) ∧ 24 * (36 * s + k - 1) ≤ j ∧ j < 24 * (36 * s + k - 1) + 24) → ¬ ((o ≠ 0 ∧ o ≠ m ∧ ko ≠ 1) ∧ kk_cx (36 * s + o - 1) y j) → f1 y j = f y j) →
      mm_Wp 227 (mm_blk 227 18) [zR (40, 0, 0), v1, zI n, zI l, zI k, zI q, zI s, v7, zI m, v9, zI x10, zI o, zI 0] [] (mm_z f1 dh nx ns) Q := fun f1 S1 E1 c1 z1 fr1 => by
    obtain ⟨e, he, q1, q2⟩ := (E1 n l m h1n.1 h1n.2).2 ⟨hE, fun w => ne ⟨w.2.1, w.2.2⟩⟩
    have Sn := S1 n h1n.1 h1n.2
    rw [r_227_18 (hy := hy)]
    refine m184y hy hs h1n rfl Sn.2 ⟨e, he, q1⟩ (fun e2 a b c => ?_) (p := e)
    have ee : e2 = e := kk_inj Sn.1 a b he.1 he.2 (by
      show f1 (45, 0, 0) (24 * (36 * s + n - 1) + e2) = f1 (45, 0, 0) (24 * (36 * s + n - 1) + e)
      rw [c]; exact q1.symm)
    rw [ee, mm_pI, r_227_18_8 (hy := hy)]
    refine m187E hy hs h1n Sn he q1 (fun f2 S2 c2 E2 fr2 => ?_)
    have A2 : ∀ d, 1 ≤ d → d < 37 → kk_Es f2 s d ∧ ∀ x v, kk_Em f2 s d x v ↔ kk_Em f1 s d x v ∧ ¬ (d = n ∧ x = l) := fun d d0 d1 => by
      by_cases z : d = n
      · rw [z]
        refine ⟨S2, fun x v => (E2 x v).trans ⟨fun w => ⟨w.1, fun u => w.2 u.2⟩, fun w => ⟨w.1, fun u => w.2 ⟨rfl, u⟩⟩⟩⟩
      · have a := kk_mfrx fr2 z (S1 d d0 d1)
        exact ⟨a.1, fun x v => (a.2 x v).trans ⟨fun w => ⟨w, fun u => z u.1⟩, fun w => w.1⟩⟩
    -- the dropped node stays so
    have Zc : ∀ g : mm_Id → Int → Int, ∀ d, kk_mfr f1 g s d ∨ kk_mfr f2 g s d → True := fun _ _ _ => trivial
    have onk : o ≠ 0 → o ≠ m → (1 ≤ o ∧ o < 37) ∧ o ≠ n ∧ o ≠ k := fun a b => by
      rcases ho with ⟨_, w, _⟩ | ⟨_, _, _, w, w2⟩
      · exact absurd w a
      · exact ⟨w, (w2 b).1, (w2 b).2.1⟩
    have mzf : ∀ (g g2 : mm_Id → Int → Int) (d : Int), kk_mfr g g2 s d → d ≠ o → kk_mz g (36 * s + o - 1) → kk_mz g2 (36 * s + o - 1) := fun g g2 d fr nd z => by
      refine ⟨⟨?_, ?_, ?_, ?_⟩, fun p p0 p1 => ?_⟩
      · rw [fr _ _ (by simp) (by simp)]; exact z.1.1
      · rw [fr _ _ (by simp) (by simp)]; exact z.1.2.1
      · rw [fr _ _ (by simp) (by simp; omega)]; exact z.1.2.2.1
      · rw [fr _ _ (by simp) (by simp)]; exact z.1.2.2.2
      · rw [fr _ _ (by simp) (by simp)]; exact z.2 p p0 p1
    rw [mm_pU, r_227_18_9 (hy := hy)]
    by_cases om : o = m
    · rw [if_pos om]
      refine K f2 (fun d d0 d1 => ⟨(A2 d d0 d1).1, fun x v => ?_⟩) (fun w => absurd om w.2.1) (fun y j w1 w2 w3 => ?_)
      · rw [(A2 d d0 d1).2, E1 d x v d0 d1]
        have oE : kk_Em f s k q m := by
          rcases ho with ⟨_, w, _⟩ | ⟨w1, w2, w3, _⟩
          · omega
          · exact ⟨x10, w1, w2, by rw [← om]; exact w3⟩
        constructor
        · rintro ⟨⟨w1, _⟩, w2⟩
          by_cases z : d = k ∧ x = q
          · refine Or.inr ⟨z.1, z.2, ?_⟩
            rw [z.1, z.2] at w1
            exact kk_E1 (hS k h1k.1 h1k.2).1 w1 oE
          · exact Or.inl ⟨w1, w2, z⟩
        · rintro (⟨w1, w2, _⟩ | ⟨w1, w2, w3⟩)
          · exact ⟨⟨w1, fun u => u.1 om⟩, w2⟩
          · rw [w1, w2, w3]; exact ⟨⟨oE, fun u => u.1 om⟩, fun w => ne ⟨w.1.symm, w.2.symm⟩⟩
      · rw [fr2 y j (fun w => w2 ⟨w.1, Or.inl w.2⟩) (fun w => w1 ⟨w.1, Or.inl w.2⟩)]
        exact fr1 y j (fun w => w1 ⟨w.1, Or.inr w.2⟩) (fun w => w2 ⟨w.1, Or.inr w.2⟩) w3
    · rw [if_neg om]
      have Sk := (A2 k h1k.1 h1k.2).1
      have ck : f2 (44, 0, 0) (36 * s + k - 1) < 24 := by
        by_cases z : n = k
        · rw [← z, c2]; have := Sn.2; omega
        · rw [fr2 _ _ (by simp) (by simp; omega)]
          rcases c1 om with w | w
          · exact absurd w z
          · exact w
      refine m186E hy hs h1k Sk ck (fun v w => ((E1 k q v h1k.1 h1k.2).1 (((A2 k h1k.1 h1k.2).2 q v).1 w).1).2 ⟨om, rfl, rfl⟩) (fun G S3 c3 E3 fr3 => ?_)
      rw [mm_pU, r_227_18_18 (hy := hy)]
      refine K G (fun d d0 d1 => ?_) (fun w => ?_) (fun y j w1 w2 w3 => ?_)
      · by_cases z : d = k
        · rw [z]
          refine ⟨S3, fun x v => ?_⟩
          rw [E3, (A2 k h1k.1 h1k.2).2, E1 k x v h1k.1 h1k.2]
          constructor
          · rintro (⟨⟨w1, w2⟩, w3⟩ | ⟨w1, w2⟩)
            · exact Or.inl ⟨w1, w3, fun w => w2 ⟨om, w⟩⟩
            · exact Or.inr ⟨rfl, w1, w2⟩
          · rintro (⟨w1, w2, w3⟩ | ⟨_, w1, w2⟩)
            · exact Or.inl ⟨⟨w1, fun w => w3 w.2⟩, w2⟩
            · exact Or.inr ⟨w1, w2⟩
        · have a := kk_mfrx fr3 z (A2 d d0 d1).1
          refine ⟨a.1, fun x v => ?_⟩
          rw [a.2, (A2 d d0 d1).2, E1 d x v d0 d1]
          constructor
          · rintro ⟨⟨w1, w2⟩, w3⟩
            exact Or.inl ⟨w1, w3, fun w => z w.1⟩
          · rintro (⟨w1, w2, w3⟩ | ⟨w1, _⟩)
            · exact ⟨⟨w1, fun w => z w.2.1⟩, w2⟩
            · exact absurd w1 z
      · have r := onk w.1 w.2.1
        exact mzf f2 G k fr3 (fun u => r.2.2 u.symm) (mzf f1 f2 n fr2 (fun u => r.2.1 u.symm) (z1 w))
      · rw [fr3 y j (fun w => w2 ⟨w.1, Or.inr w.2⟩) (fun w => w1 ⟨w.1, Or.inr w.2⟩), fr2 y j (fun w => w2 ⟨w.1, Or.inl w.2⟩) (fun w => w1 ⟨w.1, Or.inl w.2⟩)]
        exact fr1 y j (fun w => w1 ⟨w.1, Or.inr w.2⟩) (fun w => w2 ⟨w.1, Or.inr w.2⟩) w3
  rw [r_227_17 (hy := hy), if_pos rfl]
  rcases ho with ⟨xn, oz, ab⟩ | ⟨hx10, q1, q2, ro, rk⟩
  · rw [if_pos xn]
    refine B18 f hS (fun d x v d0 d1 => ⟨fun w => ⟨w, fun u => ?_⟩, fun w => w.1⟩) (fun _ => hfull oz) (fun w => absurd oz w.1) (fun _ _ _ _ _ => rfl)
    rw [u.2.1, u.2.2] at w
    exact ab v w
  · rw [if_neg (by omega)]
    by_cases om : o = m
    · rw [if_pos om]
      exact B18 f hS (fun d x v d0 d1 => ⟨fun w => ⟨w, fun u => u.1 om⟩, fun w => w.1⟩) (fun w => absurd om w) (fun w => absurd om w.2.1) (fun _ _ _ _ _ => rfl)
    · rw [if_neg om]
      have R := rk om
      have Sk := hS k h1k.1 h1k.2
      refine m224 hy hs h1k rfl Sk.2.2 hx10 q2 ro R.2.2.2 (fun f1 z1 fr1 => ?_)
      rw [mm_pU, r_227_17_12 (hy := hy)]
      have ncx : ∀ y j, kk_cx (36 * s + o - 1) y j → ¬ (((y = (45, 0, 0) ∨ y = (46, 0, 0)) ∧ 24 * (36 * s + k - 1) ≤ j ∧ j < 24 * (36 * s + k - 1) + 24) ∨ (y = (44, 0, 0) ∧ j = 36 * s + k - 1)) := fun y j w u => by
        have ok := R.2.1
        unfold kk_cx at w
        rcases w with ⟨w, w2⟩ | ⟨w, _⟩
        · rcases u with ⟨u, _⟩ | ⟨u, u2⟩
          · rcases u with u | u <;> rw [u] at w <;> simp at w
          · omega
        · rcases u with ⟨u, _⟩ | ⟨u, _⟩
          · rcases u with u | u <;> rw [u] at w <;> simp at w
          · rw [u] at w; simp at w
      have P := kk_shE Sk hx10 q1 (G := f1) (fun y j w => fr1 y j (fun u => ncx y j u.2 w))
      have fr : ∀ (y : mm_Id) j, ¬ (y = (44, 0, 0) ∧ j = 36 * s + k - 1) → ¬ ((y = (45, 0, 0) ∨ y = (46, 0, 0)) ∧ 24 * (36 * s + k - 1) ≤ j ∧ j < 24 * (36 * s + k - 1) + 24) → ¬ ((o ≠ 0 ∧ o ≠ m ∧ ko ≠ 1) ∧ kk_cx (36 * s + o - 1) y j) → f1 y j = f y j := fun y j w1 w2 w3 => by
        have c24 := Sk.2.2
        rw [fr1 y j (fun u => w3 ⟨⟨by omega, om, u.1⟩, u.2⟩)]
        exact kk_shdO (fun u => w2 ⟨Or.inl u.1, by omega⟩) (fun u => w2 ⟨Or.inr u.1, by omega⟩) w1
      have A1 : ∀ d, 1 ≤ d → d < 37 → kk_Es f1 s d ∧ ∀ x v, kk_Em f1 s d x v ↔ kk_Em f s d x v ∧ ¬ (o ≠ m ∧ d = k ∧ x = q) := fun d d0 d1 => by
        by_cases z : d = k
        · rw [z]
          exact ⟨P.1, fun x v => (P.2.2 x v).trans ⟨fun w => ⟨w.1, fun u => w.2 u.2.2⟩, fun w => ⟨w.1, fun u => w.2 ⟨om, rfl, u⟩⟩⟩⟩
        · have e44 : f1 (44, 0, 0) (36 * s + d - 1) = f (44, 0, 0) (36 * s + d - 1) := by
            by_cases y : (o ≠ 0 ∧ o ≠ m ∧ ko ≠ 1) ∧ d = o
            · rw [y.2, R.2.2.1]; exact (z1 y.1.2.2).1.2.2.1
            · exact fr _ _ (by simp; omega) (by simp) (fun u => by
                rcases u.2 with ⟨_, u2⟩ | ⟨u2, _⟩
                · exact y ⟨u.1, by omega⟩
                · simp at u2)
          have a := kk_Emf e44 (fun i i0 i1 => ⟨fr _ _ (by simp) (by simp; omega) (fun u => by rcases u.2 with ⟨u2, _⟩ | ⟨u2, _⟩ <;> simp at u2), fr _ _ (by simp) (by simp; omega) (fun u => by rcases u.2 with ⟨u2, _⟩ | ⟨u2, _⟩ <;> simp at u2)⟩) (hS d d0 d1)
          exact ⟨a.1, fun x v => (a.2 x v).trans ⟨fun w => ⟨w, fun u => z u.2.1⟩, fun w => w.1⟩⟩
      exact B18 f1 (fun d d0 d1 => (A1 d d0 d1).1) (fun d x v d0 d1 => (A1 d d0 d1).2 x v) (fun _ => Or.inr (by rw [P.2.1]; have := Sk.2.2; omega)) (fun w => z1 w.2.2) fr


