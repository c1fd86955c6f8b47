/-! lists with an entry put in or taken out -/
def kk_ins (f : Int → Int) (p c v : Int) : Int → Int := fun k => if k = p then v else if p < k ∧ k ≤ c then f (k - 1) else f k
def kk_del (f : Int → Int) (p c : Int) : Int → Int := fun k => if p ≤ k ∧ k < c then f (k + 1) else f k
theorem kk_insc {f g : Int → Int} {p c v k : Int} (h : ∀ i, 0 ≤ i → i < c → f i = g i) (p0 : 0 ≤ p) (p1 : p ≤ c) (k0 : 0 ≤ k) (k1 : k < c + 1) : kk_ins f p c v k = kk_ins g p c v k := by
  unfold kk_ins
  split
  · rfl
  · split
    · exact h _ (by omega) (by omega)
    · exact h _ (by omega) (by omega)
theorem kk_delc {f g : Int → Int} {p c k : Int} (h : ∀ i, 0 ≤ i → i < c + 1 → f i = g i) (k0 : 0 ≤ k) (k1 : k < c) : kk_del f p c k = kk_del g p c k := by
  unfold kk_del
  split
  · exact h _ (by omega) (by omega)
  · exact h _ (by omega) (by omega)
theorem kk_inss {f : Int → Int} {p c v : Int} (hs : mm_srt f c) (p0 : 0 ≤ p) (p1 : p ≤ c) (a : ∀ i, 0 ≤ i → i < p → f i < v) (d : p < c → v < f p) : mm_srt (kk_ins f p c v) (c + 1) := by
  intro i j i0 ij jc
  have up : ∀ k, p ≤ k → k < c → v < f k := fun k k0 k1 => by
    by_cases z : k = p
    · rw [z]; exact d (by omega)
    · have := hs p k p0 (by omega) k1
      have := d (by omega)
      omega
  unfold kk_ins
  by_cases q1 : i = p
  · rw [if_pos q1, if_neg (by omega), if_pos (by omega)]
    exact up _ (by omega) (by omega)
  · rw [if_neg q1]
    by_cases q2 : j = p
    · rw [if_pos q2, if_neg (by omega)]
      exact a i i0 (by omega)
    · rw [if_neg q2]
      by_cases q3 : p < i ∧ i ≤ c
      · rw [if_pos q3, if_pos (by omega)]
        exact hs _ _ (by omega) (by omega) (by omega)
      · rw [if_neg q3]
        by_cases q4 : p < j ∧ j ≤ c
        · rw [if_pos q4]
          by_cases q5 : i = j - 1
          · omega
          · exact hs _ _ i0 (by omega) (by omega)
        · rw [if_neg q4]
          exact hs _ _ i0 ij (by omega)
theorem kk_dels {f : Int → Int} {p c : Int} (hs : mm_srt f (c + 1)) : mm_srt (kk_del f p c) c := by
  intro i j i0 ij jc
  unfold kk_del
  by_cases q1 : p ≤ i ∧ i < c
  · rw [if_pos q1, if_pos (by omega)]
    exact hs _ _ (by omega) (by omega) (by omega)
  · rw [if_neg q1]
    by_cases q2 : p ≤ j ∧ j < c
    · rw [if_pos q2]
      exact hs _ _ i0 (by omega) (by omega)
    · rw [if_neg q2]
      exact hs _ _ i0 ij (by omega)
/-- where an entry of the longer list was -/
theorem kk_insm {p c : Int} (p0 : 0 ≤ p) (p1 : p ≤ c) {k : Int} (k0 : 0 ≤ k) (k1 : k < c + 1) : (k = p ∧ ∀ f : Int → Int, ∀ v, kk_ins f p c v k = v) ∨ ∃ i, (0 ≤ i ∧ i < c) ∧ k ≠ p ∧ ∀ f : Int → Int, ∀ v, kk_ins f p c v k = f i := by
  by_cases z : k = p
  · exact Or.inl ⟨z, fun f v => by unfold kk_ins; rw [if_pos z]⟩
  · by_cases y : p < k
    · exact Or.inr ⟨k - 1, by omega, z, fun f v => by unfold kk_ins; rw [if_neg z, if_pos (by omega)]⟩
    · exact Or.inr ⟨k, by omega, z, fun f v => by unfold kk_ins; rw [if_neg z, if_neg (by omega)]⟩
theorem kk_insi {p c : Int} {i : Int} (i1 : i < c) : ∃ k, (k = if i < p then i else i + 1) ∧ ∀ f : Int → Int, ∀ v, kk_ins f p c v k = f i := by
  refine ⟨_, rfl, fun f v => ?_⟩
  unfold kk_ins
  by_cases z : i < p
  · rw [if_pos z, if_neg (by omega), if_neg (by omega)]
  · rw [if_neg z, if_neg (by omega), if_pos (by omega), show i + 1 - 1 = i by omega]
theorem kk_delm {p c : Int} (p0 : 0 ≤ p) {k : Int} (k0 : 0 ≤ k) (k1 : k < c) : ∃ i, (0 ≤ i ∧ i < c + 1) ∧ i ≠ p ∧ ∀ f : Int → Int, kk_del f p c k = f i := by
  by_cases z : p ≤ k
  · exact ⟨k + 1, by omega, by omega, fun f => by unfold kk_del; rw [if_pos (by omega)]⟩
  · exact ⟨k, by omega, by omega, fun f => by unfold kk_del; rw [if_neg (by omega)]⟩
/-- the heaps that cls and reference leave, told by these -/
theorem kk_shuX {f : mm_Id → Int → Int} {X Y W : mm_Id} {p c x m j v o : Int} (h1 : ¬ X = Y) (h2 : ¬ X = W) (k : Int) : mm_up (mm_up (mm_up (mm_shu f X Y (o + p) (o + c)) W j v) X (o + p) x) Y (o + p) m X (o + k) = kk_ins (fun i => f X (o + i)) p c x k := by
  unfold mm_up mm_shu kk_ins
  have e : o + k - 1 = o + (k - 1) := by omega
  grind
theorem kk_shuY {f : mm_Id → Int → Int} {X Y W : mm_Id} {p c x m j v o : Int} (h1 : ¬ X = Y) (h2 : ¬ Y = W) (k : Int) : mm_up (mm_up (mm_up (mm_shu f X Y (o + p) (o + c)) W j v) X (o + p) x) Y (o + p) m Y (o + k) = kk_ins (fun i => f Y (o + i)) p c m k := by
  unfold mm_up mm_shu kk_ins
  have e : o + k - 1 = o + (k - 1) := by omega
  grind
theorem kk_shuW {f : mm_Id → Int → Int} {X Y W : mm_Id} {p c x m j v o : Int} (h1 : ¬ W = X) (h2 : ¬ W = Y) : mm_up (mm_up (mm_up (mm_shu f X Y (o + p) (o + c)) W j v) X (o + p) x) Y (o + p) m W j = v := by
  unfold mm_up
  grind
theorem kk_shuO {f : mm_Id → Int → Int} {X Y W z : mm_Id} {p c x m j v o i : Int} (h1 : ¬ (z = X ∧ o + p ≤ i ∧ i ≤ o + c)) (h2 : ¬ (z = Y ∧ o + p ≤ i ∧ i ≤ o + c)) (h3 : ¬ (z = W ∧ i = j)) (hp : p ≤ c) : mm_up (mm_up (mm_up (mm_shu f X Y (o + p) (o + c)) W j v) X (o + p) x) Y (o + p) m z i = f z i := by
  unfold mm_up mm_shu
  grind
/-- the count is raised behind the names, as `enter` does it -/
theorem kk_shuC {f : mm_Id → Int → Int} {X Y W : mm_Id} {p c x m j v : Int} (h1 : ¬ W = X) (h2 : ¬ W = Y) : mm_up (mm_up (mm_up (mm_shu f X Y p c) X p x) Y p m) W j v = mm_up (mm_up (mm_up (mm_shu f X Y p c) W j v) X p x) Y p m := by
  funext z i
  unfold mm_up mm_shu
  grind
theorem kk_shdX {f : mm_Id → Int → Int} {X Y W : mm_Id} {p c j v o : Int} (h2 : ¬ X = W) (k : Int) : mm_shd (mm_up f W j v) X Y (o + p) (o + c) X (o + k) = kk_del (fun i => f X (o + i)) p c k := by
  unfold mm_up mm_shd kk_del
  have e : o + k + 1 = o + (k + 1) := by omega
  grind
theorem kk_shdY {f : mm_Id → Int → Int} {X Y W : mm_Id} {p c j v o : Int} (h2 : ¬ Y = W) (k : Int) : mm_shd (mm_up f W j v) X Y (o + p) (o + c) Y (o + k) = kk_del (fun i => f Y (o + i)) p c k := by
  unfold mm_up mm_shd kk_del
  have e : o + k + 1 = o + (k + 1) := by omega
  grind
theorem kk_shdW {f : mm_Id → Int → Int} {X Y W : mm_Id} {p c j v : Int} (h1 : ¬ W = X) (h2 : ¬ W = Y) : mm_shd (mm_up f W j v) X Y p c W j = v := by
  unfold mm_up mm_shd
  grind
theorem kk_shdO {f : mm_Id → Int → Int} {X Y W z : mm_Id} {p c j v i : Int} (h1 : ¬ (z = X ∧ p ≤ i ∧ i < c)) (h2 : ¬ (z = Y ∧ p ≤ i ∧ i < c)) (h3 : ¬ (z = W ∧ i = j)) : mm_shd (mm_up f W j v) X Y p c z i = f z i := by
  unfold mm_up mm_shd
  grind
section
variable {f k f2 k2 g l g2 l2 : Int → Int} {c p x v on had c2 d2 : Int}
end

