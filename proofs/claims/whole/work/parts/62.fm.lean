/-! ===== Fourier and Motzkin: numbers alone ===== -/
theorem nn_of_mul {a b : Int} (h : 0 < a) (k : 0 ≤ a * b) : 0 ≤ b := by
  rcases Int.lt_or_le b 0 with q | q
  · have := Int.mul_lt_mul_of_pos_left q h
    omega
  · exact q
theorem fm_tr {ai as at' ei es et : Int} (h1 : 0 < ai) (h2 : 0 < as) (h3 : 0 < at') (p : 0 ≤ ai * et - at' * ei) (q : 0 ≤ as * ei - ai * es) : 0 ≤ as * et - at' * es := by
  refine nn_of_mul h1 ?_
  have x1 := Int.mul_nonneg (Int.le_of_lt h2) p
  have x2 := Int.mul_nonneg (Int.le_of_lt h3) q
  have : ai * (as * et - at' * es) = as * (ai * et - at' * ei) + at' * (as * ei - ai * es) := by grind
  omega
/-- of the bounds from below one is the sharpest -/
theorem fm_max (a e : Int → Int) : ∀ T : Nat, (∃ t : Int, 0 ≤ t ∧ t < T ∧ 0 < a t) → ∃ i : Int, 0 ≤ i ∧ i < T ∧ 0 < a i ∧ ∀ t : Int, 0 ≤ t → t < T → 0 < a t → 0 ≤ a i * e t - a t * e i := by
  intro T
  induction T with
  | zero => rintro ⟨t, h1, h2, _⟩; omega
  | succ T ih =>
    rintro ⟨t, h1, h2, h3⟩
    by_cases c : ∃ t : Int, 0 ≤ t ∧ t < T ∧ 0 < a t
    · obtain ⟨i, i1, i2, i3, i4⟩ := ih c
      by_cases d : 0 < a T ∧ a i * e T - a T * e i < 0
      · refine ⟨T, by omega, by omega, d.1, fun s s1 s2 s3 => ?_⟩
        by_cases q : s = T
        · rw [q]; omega
        · exact fm_tr i3 d.1 s3 (i4 s s1 (by omega) s3) (by omega)
      · refine ⟨i, i1, by omega, i3, fun s s1 s2 s3 => ?_⟩
        by_cases q : s = T
        · rw [q] at s3 ⊢
          rcases Int.lt_or_le (a i * e T - a T * e i) 0 with z | z
          · exact absurd ⟨s3, z⟩ d
          · exact z
        · exact i4 s s1 (by omega) s3
    · have tT : t = T := by
        by_cases q : t = T
        · exact q
        · exact absurd ⟨t, h1, by omega, h3⟩ c
      subst tT
      refine ⟨T, by omega, by omega, h3, fun s s1 s2 s3 => ?_⟩
      by_cases q : s = T
      · rw [q]; omega
      · exact absurd ⟨s, s1, by omega, s3⟩ c
/-- one unknown fewer -/
theorem fm_one {a e : Int → Int} {T : Nat} (hp : ∃ t : Int, 0 ≤ t ∧ t < T ∧ 0 < a t) (hz : ∀ t : Int, 0 ≤ t → t < T → a t = 0 → 0 ≤ e t) (hc : ∀ i j : Int, 0 ≤ i → i < T → 0 ≤ j → j < T → 0 < a i → a j < 0 → 0 ≤ -(a j) * e i + a i * e j) :
    ∃ y k : Int, 0 < k ∧ ∀ t : Int, 0 ≤ t → t < T → 0 ≤ a t * y + k * e t := by
  obtain ⟨i, i1, i2, i3, i4⟩ := fm_max a e T hp
  refine ⟨-(e i), a i, i3, fun t t1 t2 => ?_⟩
  rcases Int.lt_trichotomy (a t) 0 with q | q | q
  · have := hc i t i1 i2 t1 t2 i3 q
    grind
  · rw [q]
    have := Int.mul_nonneg (Int.le_of_lt i3) (hz t t1 t2 q)
    omega
  · have := i4 t t1 t2 q
    grind
/-! rows with one unknown fewer, out of the rows a, b, m, c (n of them): those that m leaves out, and the pairs -/
def Tw (h v m c : Int → Int) (I n x y z : Int) : Prop := (∃ i, 0 ≤ i ∧ i < I ∧ m i = 0 ∧ x = h i ∧ y = v i ∧ z = c i) ∨ (∃ i j p q, 0 ≤ i ∧ i < I ∧ 0 ≤ j ∧ j < n ∧ 0 < m i ∧ m j < 0 ∧ 0 < p ∧ 0 < q ∧ p * m i + q * m j = 0 ∧ x = p * h i + q * h j ∧ y = p * v i + q * v j ∧ z = p * c i + q * c j)
def Tz (h v m c vh vv v1 : Int → Int) (I n T : Int) : Prop := (∀ i, 0 ≤ i → i < I → m i = 0 → ∃ t, 0 ≤ t ∧ t < T ∧ vh t = h i ∧ vv t = v i ∧ v1 t = c i) ∧ ∀ i j, 0 ≤ i → i < I → 0 ≤ j → j < n → 0 < m i → m j < 0 → ∃ t p q, 0 ≤ t ∧ t < T ∧ 0 < p ∧ 0 < q ∧ p * m i + q * m j = 0 ∧ vh t = p * h i + q * h j ∧ vv t = p * v i + q * v j ∧ v1 t = p * c i + q * c j
/-- a point that keeps all rows keeps all rows with one unknown fewer -/
theorem tw_keep {h v m c : Int → Int} {n x y z w a b d : Int} (k : ∀ i, 0 ≤ i → i < n → 0 ≤ wo h v m c i x y z w) (ht : Tw h v m c n n a b d) : 0 ≤ a * x + b * y + d * w := by
  rcases ht with ⟨i, i1, i2, i3, i4, i5, i6⟩ | ⟨i, j, p, q, i1, i2, j1, j2, mi, mj, hp, hq, e, e1, e2, e3⟩
  · have := k i i1 i2
    unfold wo at this
    rw [i4, i5, i6]
    rw [i3] at this
    grind
  · have x1 := Int.mul_nonneg (Int.le_of_lt hp) (k i i1 i2)
    have x2 := Int.mul_nonneg (Int.le_of_lt hq) (k j j1 j2)
    unfold wo at x1 x2
    rw [e1, e2, e3]
    have : (p * h i + q * h j) * x + (p * v i + q * v j) * y + (p * c i + q * c j) * w = p * (h i * x + v i * y + m i * z + c i * w) + q * (h j * x + v j * y + m j * z + c j * w) - (p * m i + q * m j) * z := by grind
    rw [this, e]
    omega
/-- and the other way round, for a z of its own -/
theorem tz_back {h v m c vh vv v1 : Int → Int} {n : Nat} {T x y w : Int} (hw : 0 < w) (hp : ∃ t : Int, 0 ≤ t ∧ t < n ∧ 0 < m t) (H : Tz h v m c vh vv v1 n n T) (k : ∀ t, 0 ≤ t → t < T → 0 ≤ vh t * x + vv t * y + v1 t * w) :
    ∃ z s, 0 < s ∧ Kp h v m c n (s * x) (s * y) z (s * w) := by
  obtain ⟨H1, H2⟩ := H
  obtain ⟨z, s, s0, hz⟩ := fm_one (a := m) (e := fun i => h i * x + v i * y + c i * w) (T := n) hp (fun t t1 t2 t3 => by
      obtain ⟨r, r1, r2, r3, r4, r5⟩ := H1 t t1 t2 t3
      have := k r r1 r2
      rw [r3, r4, r5] at this
      exact this) (fun i j i1 i2 j1 j2 mi mj => by
      obtain ⟨r, p, q, r1, r2, hp', hq', e, e1, e2, e3⟩ := H2 i j i1 i2 j1 j2 mi mj
      have := k r r1 r2
      rw [e1, e2, e3] at this
      refine nn_of_mul hp' ?_
      have y1 := Int.mul_nonneg (show 0 ≤ -(m j) by omega) this
      have : p * (-(m j) * (h i * x + v i * y + c i * w) + m i * (h j * x + v j * y + c j * w)) = -(m j) * ((p * h i + q * h j) * x + (p * v i + q * v j) * y + (p * c i + q * c j) * w) + (p * m i + q * m j) * (h j * x + v j * y + c j * w) := by grind
      rw [this, e]
      omega)
  refine ⟨z, s, s0, Int.mul_pos s0 hw, fun b b1 b2 => ?_⟩
  have := hz b b1 b2
  unfold wo
  grind
