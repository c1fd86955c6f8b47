/-! the calls of both: attr -/
theorem kk_pl2 {f : Int → Int} {c p q x : Int} (p0 : 0 ≤ p) (p1 : p ≤ c) (p2 : ∀ i, 0 ≤ i → i < p → f i < x) (p3 : p < c → x ≤ f p) (q0 : 0 ≤ q) (q1 : q ≤ c) (q2 : ∀ i, 0 ≤ i → i < q → f i < x) (q3 : q < c → x ≤ f q) : p = q := by
  by_cases a : p < q
  · have := q2 p p0 a
    have := p3 (by omega)
    omega
  · by_cases d : q < p
    · have := p2 q q0 d
      have := q3 (by omega)
      omega
    · omega
