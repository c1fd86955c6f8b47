/-! lists with an entry put in or taken out -/
def kk_ins (f : Int → Int) (p c v : Int) : Int → Int := fun k => if k = p then v else if p < k ∧ k ≤ c then f (k - 1) else f k
def kk_del (f : Int → Int) (p c : Int) : Int → Int := fun k => if p ≤ k ∧ k < c then f (k + 1) else f k
theorem kk_insc {f g : Int → Int} {p c v k : Int} (h : ∀ i, 0 ≤ i → i < c → f i = g i) (p0 : 0 ≤ p) (p1 : p ≤ c) (k0 : 0 ≤ k) (k1 : k < c + 1) : kk_ins f p c v k = kk_ins g p c v k := by
  unfold kk_ins
  split
  · rfl
  · split
    · exact h _ (by omega) (by omega)
    · exact h _ (by omega) (by omega)
theorem kk_delc {f g : Int → Int} {p c k : Int} (h : ∀ i, 0 ≤ i → i < c + 1 → f i = g i) (k0 : 0 ≤ k) (k1 : k < c) : kk_del f p c k = kk_del g p c k := by
  unfold kk_del
  split
  · exact h _ (by omega) (by omega)
  · exact h _ (by omega) (by omega)
theorem kk_inss {f : Int → Int} {p c v : Int} (hs : mm_srt f c) (p0 : 0 ≤ p) (p1 : p ≤ c) (a : ∀ i, 0 ≤ i → i < p → f i < v) (d : p < c → v < f p) : mm_srt (kk_ins f p c v) (c + 1) := by
  intro i j i0 ij jc
  have up : ∀ k, p ≤ k → k < c → v < f k := fun k k0 k1 => by
    by_cases z : k = p
    · rw [z]; exact d (by omega)
    · have := hs p k p0 (by omega) k1
      have := d (by omega)
      omega
  unfold kk_ins
  by_cases q1 : i = p
  · rw [if_pos q1, if_neg (by omega), if_pos (by omega)]
    exact up _ (by omega) (by omega)
  · rw [if_neg q1]
    by_cases q2 : j = p
    · rw [if_pos q2, if_neg (by omega)]
      exact a i i0 (by omega)
    · rw [if_neg q2]
      by_cases q3 : p < i ∧ i ≤ c
      · rw [if_pos q3, if_pos (by omega)]
        exact hs _ _ (by omega) (by omega) (by omega)
      · rw [if_neg q3]
        by_cases q4 : p < j ∧ j ≤ c
        · rw [if_pos q4]
          by_cases q5 : i = j - 1
          · omega
          · exact hs _ _ i0 (by omega) (by omega)
        · rw [if_neg q4]
          exact hs _ _ i0 ij (by omega)
theorem kk_dels {f : Int → Int} {p c : Int} (hs : mm_srt f (c + 1)) : mm_srt (kk_del f p c) c := by
  intro i j i0 ij jc
  unfold kk_del
  by_cases q1 : p ≤ i ∧ i < c
  · rw [if_pos q1, if_pos (by omega)]
    exact hs _ _ (by omega) (by omega) (by omega)
  · rw [if_neg q1]
    by_cases q2 : p ≤ j ∧ j < c
    · rw [if_pos q2]
      exact hs _ _ i0 (by omega) (by omega)
    · rw [if_neg q2]
      exact hs _ _ i0 ij (by omega)
/-- where an entry of the longer list was -/
theorem kk_insm {p c : Int} (p0 : 0 ≤ p) (p1 : p ≤ c) {k : Int} (k0 : 0 ≤ k) (k1 : k < c + 1) : (k = p ∧ ∀ f : Int → Int, ∀ v, kk_ins f p c v k = v) ∨ ∃ i, (0 ≤ i ∧ i < c) ∧ k ≠ p ∧ ∀ f : Int → Int, ∀ v, kk_ins f p c v k = f i := by
  by_cases z : k = p
  · exact Or.inl ⟨z, fun f v => by unfold kk_ins; rw [if_pos z]⟩
  · by_cases y : p < k
    · exact Or.inr ⟨k - 1, by omega, z, fun f v => by unfold kk_ins; rw [if_neg z, if_pos (by omega)]⟩
    · exact Or.inr ⟨k, by omega, z, fun f v => by unfold kk_ins; rw [if_neg z, if_neg (by omega)]⟩
theorem kk_insi {p c : Int} {i : Int} (i1 : i < c) : ∃ k, (k = if i < p then i else i + 1) ∧ ∀ f : Int → Int, ∀ v, kk_ins f p c v k = f i := by
  refine ⟨_, rfl, fun f v => ?_⟩
  unfold kk_ins
  by_cases z : i < p
  · rw [if_pos z, if_neg (by omega), if_neg (by omega)]
  · rw [if_neg z, if_neg (by omega), if_pos (by omega), show i + 1 - 1 = i by omega]
theorem kk_delm {p c : Int} (p0 : 0 ≤ p) {k : Int} (k0 : 0 ≤ k) (k1 : k < c) : ∃ i, (0 ≤ i ∧ i < c + 1) ∧ i ≠ p ∧ ∀ f : Int → Int, kk_del f p c k = f i := by
  by_cases z : p ≤ k
  · exact ⟨k + 1, by omega, by omega, fun f => by unfold kk_del; rw [if_pos (by omega)]⟩
  · exact ⟨k, by omega, by omega, fun f => by unfold kk_del; rw [if_neg (by omega)]⟩
/-- the heaps that cls and reference leave, told by these -/
theorem kk_shuX {f : mm_Id → Int → Int} {X Y W : mm_Id} {p c x m j v o : Int} (h1 : ¬ X = Y) (h2 : ¬ X = W) (k : Int) : mm_up (mm_up (mm_up (mm_shu f X Y (o + p) (o + c)) W j v) X (o + p) x) Y (o + p) m X (o + k) = kk_ins (fun i => f X (o + i)) p c x k := by
  unfold mm_up mm_shu kk_ins
  have e : o + k - 1 = o + (k - 1) := by omega
  grind
theorem kk_shuY {f : mm_Id → Int → Int} {X Y W : mm_Id} {p c x m j v o : Int} (h1 : ¬ X = Y) (h2 : ¬ Y = W) (k : Int) : mm_up (mm_up (mm_up (mm_shu f X Y (o + p) (o + c)) W j v) X (o + p) x) Y (o + p) m Y (o + k) = kk_ins (fun i => f Y (o + i)) p c m k := by
  unfold mm_up mm_shu kk_ins
  have e : o + k - 1 = o + (k - 1) := by omega
  grind
theorem kk_shuW {f : mm_Id → Int → Int} {X Y W : mm_Id} {p c x m j v o : Int} (h1 : ¬ W = X) (h2 : ¬ W = Y) : mm_up (mm_up (mm_up (mm_shu f X Y (o + p) (o + c)) W j v) X (o + p) x) Y (o + p) m W j = v := by
  unfold mm_up
  grind
theorem kk_shuO {f : mm_Id → Int → Int} {X Y W z : mm_Id} {p c x m j v o i : Int} (h1 : ¬ (z = X ∧ o + p ≤ i ∧ i ≤ o + c)) (h2 : ¬ (z = Y ∧ o + p ≤ i ∧ i ≤ o + c)) (h3 : ¬ (z = W ∧ i = j)) (hp : p ≤ c) : mm_up (mm_up (mm_up (mm_shu f X Y (o + p) (o + c)) W j v) X (o + p) x) Y (o + p) m z i = f z i := by
  unfold mm_up mm_shu
  grind
/-- the count is raised behind the names, as `enter` does it -/
theorem kk_shuC {f : mm_Id → Int → Int} {X Y W : mm_Id} {p c x m j v : Int} (h1 : ¬ W = X) (h2 : ¬ W = Y) : mm_up (mm_up (mm_up (mm_shu f X Y p c) X p x) Y p m) W j v = mm_up (mm_up (mm_up (mm_shu f X Y p c) W j v) X p x) Y p m := by
  funext z i
  unfold mm_up mm_shu
  grind
theorem kk_shdX {f : mm_Id → Int → Int} {X Y W : mm_Id} {p c j v o : Int} (h2 : ¬ X = W) (k : Int) : mm_shd (mm_up f W j v) X Y (o + p) (o + c) X (o + k) = kk_del (fun i => f X (o + i)) p c k := by
  unfold mm_up mm_shd kk_del
  have e : o + k + 1 = o + (k + 1) := by omega
  grind
theorem kk_shdY {f : mm_Id → Int → Int} {X Y W : mm_Id} {p c j v o : Int} (h2 : ¬ Y = W) (k : Int) : mm_shd (mm_up f W j v) X Y (o + p) (o + c) Y (o + k) = kk_del (fun i => f Y (o + i)) p c k := by
  unfold mm_up mm_shd kk_del
  have e : o + k + 1 = o + (k + 1) := by omega
  grind
theorem kk_shdW {f : mm_Id → Int → Int} {X Y W : mm_Id} {p c j v : Int} (h1 : ¬ W = X) (h2 : ¬ W = Y) : mm_shd (mm_up f W j v) X Y p c W j = v := by
  unfold mm_up mm_shd
  grind
theorem kk_shdO {f : mm_Id → Int → Int} {X Y W z : mm_Id} {p c j v i : Int} (h1 : ¬ (z = X ∧ p ≤ i ∧ i < c)) (h2 : ¬ (z = Y ∧ p ≤ i ∧ i < c)) (h3 : ¬ (z = W ∧ i = j)) : mm_shd (mm_up f W j v) X Y p c z i = f z i := by
  unfold mm_up mm_shd
  grind
/-- keys and values, before and after -/
def kk_atr (f k : Int → Int) (c p x v on had : Int) (f2 k2 : Int → Int) (c2 : Int) : Prop :=
  (on ≠ 0 → had ≠ 0 → c2 = c ∧ ∀ i, 0 ≤ i → i < c → f2 i = (if i = p then x else f i) ∧ k2 i = (if i = p then v else k i)) ∧ (on = 0 → had = 0 → c2 = c ∧ ∀ i, 0 ≤ i → i < c → f2 i = f i ∧ k2 i = k i) ∧
  (on ≠ 0 → had = 0 → c2 = c + 1 ∧ ∀ i, 0 ≤ i → i < c + 1 → f2 i = kk_ins f p c x i ∧ k2 i = kk_ins k p c v i) ∧ (on = 0 → had ≠ 0 → c2 = c - 1 ∧ ∀ i, 0 ≤ i → i < c - 1 → f2 i = kk_del f p (c - 1) i ∧ k2 i = kk_del k p (c - 1) i)
section
variable {f k f2 k2 g l g2 l2 : Int → Int} {c p x v on had c2 d2 : Int}
theorem kk_atrc (a : kk_atr f k c p x v on had f2 k2 c2) (b : kk_atr g l c p x v on had g2 l2 d2) (p0 : 0 ≤ p) (p1 : p ≤ c) (e : ∀ i, 0 ≤ i → i < c → f i = g i ∧ k i = l i) : c2 = d2 ∧ ∀ i, 0 ≤ i → i < c2 → f2 i = g2 i ∧ k2 i = l2 i := by
  by_cases h1 : on = 0
  · by_cases h2 : had = 0
    · have A := a.2.1 h1 h2
      have B := b.2.1 h1 h2
      refine ⟨by omega, fun i i0 i1 => ?_⟩
      have q := e i i0 (by omega)
      rw [(A.2 i i0 (by omega)).1, (A.2 i i0 (by omega)).2, (B.2 i i0 (by omega)).1, (B.2 i i0 (by omega)).2]
      exact q
    · have A := a.2.2.2 h1 h2
      have B := b.2.2.2 h1 h2
      refine ⟨by omega, fun i i0 i1 => ?_⟩
      rw [(A.2 i i0 (by omega)).1, (A.2 i i0 (by omega)).2, (B.2 i i0 (by omega)).1, (B.2 i i0 (by omega)).2]
      exact ⟨kk_delc (fun j j0 j1 => (e j j0 (by omega)).1) i0 (by omega), kk_delc (fun j j0 j1 => (e j j0 (by omega)).2) i0 (by omega)⟩
  · by_cases h2 : had = 0
    · have A := a.2.2.1 h1 h2
      have B := b.2.2.1 h1 h2
      refine ⟨by omega, fun i i0 i1 => ?_⟩
      rw [(A.2 i i0 (by omega)).1, (A.2 i i0 (by omega)).2, (B.2 i i0 (by omega)).1, (B.2 i i0 (by omega)).2]
      exact ⟨kk_insc (fun j j0 j1 => (e j j0 j1).1) p0 p1 i0 (by omega), kk_insc (fun j j0 j1 => (e j j0 j1).2) p0 p1 i0 (by omega)⟩
    · have A := a.1 h1 h2
      have B := b.1 h1 h2
      refine ⟨by omega, fun i i0 i1 => ?_⟩
      have q := e i i0 (by omega)
      rw [(A.2 i i0 (by omega)).1, (A.2 i i0 (by omega)).2, (B.2 i i0 (by omega)).1, (B.2 i i0 (by omega)).2, q.1, q.2]
      exact ⟨rfl, rfl⟩
theorem kk_atrm (a : kk_atr f k c p x v on had f2 k2 c2) (p0 : 0 ≤ p) (p1 : p ≤ c) (hd : had ≠ 0 → p < c) : ∀ i, 0 ≤ i → i < c2 → (f2 i = x ∧ k2 i = v) ∨ ∃ j, (0 ≤ j ∧ j < c) ∧ f2 i = f j ∧ k2 i = k j := by
  intro i i0 i1
  by_cases h1 : on = 0
  · by_cases h2 : had = 0
    · have A := a.2.1 h1 h2
      exact Or.inr ⟨i, by omega, (A.2 i i0 (by omega)).1, (A.2 i i0 (by omega)).2⟩
    · have A := a.2.2.2 h1 h2
      obtain ⟨j, hj, _, q⟩ := kk_delm (c := c - 1) p0 i0 (by omega)
      exact Or.inr ⟨j, by omega, by rw [(A.2 i i0 (by omega)).1, q], by rw [(A.2 i i0 (by omega)).2, q]⟩
  · by_cases h2 : had = 0
    · have A := a.2.2.1 h1 h2
      rcases kk_insm p0 p1 i0 (show i < c + 1 by omega) with ⟨_, q⟩ | ⟨j, hj, _, q⟩
      · exact Or.inl ⟨by rw [(A.2 i i0 (by omega)).1, q], by rw [(A.2 i i0 (by omega)).2, q]⟩
      · exact Or.inr ⟨j, hj, by rw [(A.2 i i0 (by omega)).1, q], by rw [(A.2 i i0 (by omega)).2, q]⟩
    · have A := a.1 h1 h2
      have B := A.2 i i0 (by omega)
      by_cases z : i = p
      · rw [if_pos z, if_pos z] at B; exact Or.inl B
      · rw [if_neg z, if_neg z] at B; exact Or.inr ⟨i, by omega, B.1, B.2⟩
theorem kk_atrs (a : kk_atr f k c p x v on had f2 k2 c2) (p0 : 0 ≤ p) (p1 : p ≤ c) (hs : mm_srt f c) (lo : ∀ i, 0 ≤ i → i < p → f i < x) (hi : p < c → x ≤ f p) (hd : had ≠ 0 → p < c ∧ f p = x) (hn : had = 0 → p < c → f p ≠ x) : mm_srt f2 c2 := by
  by_cases h1 : on = 0
  · by_cases h2 : had = 0
    · have A := a.2.1 h1 h2
      intro i j i0 ij jc
      rw [(A.2 i i0 (by omega)).1, (A.2 j (by omega) (by omega)).1]
      exact hs i j i0 ij (by omega)
    · have A := a.2.2.2 h1 h2
      have S := kk_dels (f := f) (p := p) (c := c - 1) (by rw [show c - 1 + 1 = c by omega]; exact hs)
      intro i j i0 ij jc
      rw [(A.2 i i0 (by omega)).1, (A.2 j (by omega) (by omega)).1]
      exact S i j i0 ij (by omega)
  · by_cases h2 : had = 0
    · have A := a.2.2.1 h1 h2
      have S := kk_inss hs p0 p1 lo (fun q => by have := hi q; have := hn h2 q; omega)
      intro i j i0 ij jc
      rw [(A.2 i i0 (by omega)).1, (A.2 j (by omega) (by omega)).1]
      exact S i j i0 ij (by omega)
    · have A := a.1 h1 h2
      have H := hd h2
      have e : ∀ i, 0 ≤ i → i < c → f2 i = f i := fun i i0 i1 => by
        rw [(A.2 i i0 i1).1]
        by_cases z : i = p
        · rw [if_pos z, z, H.2]
        · rw [if_neg z]
      intro i j i0 ij jc
      rw [e i i0 (by omega), e j (by omega) (by omega)]
      exact hs i j i0 ij (by omega)
theorem kk_atrb (a : kk_atr f k c p x v on had f2 k2 c2) (hc : 0 ≤ c ∧ c ≤ 4) (hd : had ≠ 0 → p < c) (p0 : 0 ≤ p) (hn : on ≠ 0 → had = 0 → c < 4) : 0 ≤ c2 ∧ c2 ≤ 4 := by
  by_cases h1 : on = 0
  · by_cases h2 : had = 0
    · have A := a.2.1 h1 h2; omega
    · have A := a.2.2.2 h1 h2; have := hd h2; omega
  · by_cases h2 : had = 0
    · have A := a.2.2.1 h1 h2; have := hn h1 h2; omega
    · have A := a.1 h1 h2; omega
end
