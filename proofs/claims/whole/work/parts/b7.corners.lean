set_option maxHeartbeats 1000000
theorem abm {x y A B : Int} (h : ab x A) (k : ab y B) : ab (x * y) (A * B) := by
  have hA : 0 ≤ A := by unfold ab at h; omega
  have hx : (x.natAbs : Int) ≤ A := by unfold ab at h; omega
  have hy : (y.natAbs : Int) ≤ B := by unfold ab at k; omega
  have m : ((x * y).natAbs : Int) ≤ A * B := by
    rw [Int.natAbs_mul, Int.natCast_mul]
    exact Int.mul_le_mul hx hy (Int.natCast_nonneg _) hA
  unfold ab
  generalize x * y = z at *
  generalize A * B = C at *
  omega
theorem abn {x A : Int} (h : ab x A) : ab (-x) A := by unfold ab at *; omega
theorem absub {x y A B C : Int} (h : ab x A) (k : ab y B) (hc : A + B ≤ C) : ab (x - y) C := by unfold ab at *; omega
theorem absg {s x A : Int} (hs : s = 1 ∨ s = -1) (h : ab x A) : ab (s * x) A := by
  rcases hs with e | e <;> subst e
  · rw [Int.one_mul]; exact h
  · rw [Int.neg_mul, Int.one_mul]; exact abn h
theorem ab38 {x : Int} (h : ab x 10000000000000000000000000) : x.natAbs < 10 ^ 38 := by
  have p : (10 : Nat) ^ 38 = 100000000000000000000000000000000000000 := by decide
  rw [p]
  unfold ab at h
  omega
theorem cb_of {h v m c : Int → Int} {n : Nat} (b : ∀ i : Int, 0 ≤ i → i < (n : Int) → ab (h i) 8000 ∧ ab (v i) 8000 ∧ ab (m i) 4 ∧ ab (c i) 8000000000000) : CB h v m c n := by
  intro i j k s hi hj hk hs
  obtain ⟨i1, i2, i3, i4⟩ := b i hi.1 hi.2
  obtain ⟨j1, j2, j3, j4⟩ := b j hj.1 hj.2
  obtain ⟨k1, k2, k3, k4⟩ := b k hk.1 hk.2
  have H : ∀ {p q : Int}, ab (v p) 8000 → ab (m p) 4 → ab (v q) 8000 → ab (m q) 4 → ab (crH v m p q) 64000 := fun a a' e e' => absub (abm a e') (abm a' e) (by decide)
  have V : ∀ {p q : Int}, ab (h p) 8000 → ab (m p) 4 → ab (h q) 8000 → ab (m q) 4 → ab (crV h m p q) 64000 := fun a a' e e' => absub (abm a' e) (abm a e') (by decide)
  have M : ∀ {p q : Int}, ab (h p) 8000 → ab (v p) 8000 → ab (h q) 8000 → ab (v q) 8000 → ab (crM h v p q) 128000000 := fun a a' e e' => absub (abm a e') (abm a' e) (by decide)
  have d : ab (dt3 h v m i j k) 1536000000 := ab_add (ab_add (abm i1 (H j2 j3 k2 k3)) (abm i2 (V j1 j3 k1 k3)) (Int.le_refl _)) (abm i3 (M j1 j2 k1 k2)) (by decide)
  have three : ∀ {x y z A : Int}, A ≤ 128000000 → ab x A → ab y A → ab z A → ab (-(s * x) * c i + -(s * y) * c j + -(s * z) * c k) 10000000000000000000000000 := fun hA a a' a'' => ab_add (ab_add (abm (abn (absg hs (ab_le a hA))) i4) (abm (abn (absg hs (ab_le a' hA))) j4) (Int.le_refl _)) (abm (abn (absg hs (ab_le a'' hA))) k4) (by decide)
  refine ⟨?_, ab38 (three (A := 64000) (by decide) (H j2 j3 k2 k3) (H k2 k3 i2 i3) (H i2 i3 j2 j3)), ab38 (three (A := 64000) (by decide) (V j1 j3 k1 k3) (V k1 k3 i1 i3) (V i1 i3 j1 j3)), ab38 (three (A := 128000000) (by decide) (M j1 j2 k1 k2) (M k1 k2 i1 i2) (M i1 i2 j1 j2))⟩
  have := (absg hs d).2
  generalize s * dt3 h v m i j k = z at *
  omega
