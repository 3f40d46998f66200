/-! ===== Corner: where it begins ===== -/
/-- the frame's four rows are the last ones, and row 1 has m from below -/
def FW (h v m : Int → Int) (n : Int) : Prop := 6 ≤ n ∧ (h (n - 4) = 1 ∧ v (n - 4) = 0 ∧ m (n - 4) = 0) ∧ (h (n - 3) = -1 ∧ v (n - 3) = 0 ∧ m (n - 3) = 0) ∧ (h (n - 2) = 0 ∧ v (n - 2) = 1 ∧ m (n - 2) = 0) ∧ (h (n - 1) = 0 ∧ v (n - 1) = -1 ∧ m (n - 1) = 0) ∧ 0 < m 1
theorem low_init1 {h v m : Int → Int} {i j k s a : Int} (ha : a = 1 ∨ a = -1) (hi : h i = a) (vi : v i = 0) (mi : m i = 0) (hj : h j = 0) (vj : v j = 1) (mj : m j = 0) (mk : 0 < m k) (hs : s = 1 ∨ s = -1) (hp : 0 ≤ s * dt3 h v m i j k) : Low h v m a i j k s := by
  have c1 : crH v m j k = m k := by unfold crH; rw [vj, mj]; simp
  have c2 : crV h m j k = 0 := by unfold crV; rw [hj, mj]; simp
  have c4 : crH v m k i = 0 := by unfold crH; rw [vi, mi]; simp
  have c5 : crV h m k i = m k * a := by unfold crV; rw [hi, mi]; simp
  have c7 : crH v m i j = 0 := by unfold crH; rw [vi, mi, vj, mj]; simp
  have c8 : crV h m i j = 0 := by unfold crV; rw [hi, mi, hj, mj]; simp
  have c9 : crM h v i j = a := by unfold crM; rw [hi, vi, hj, vj]; simp
  have d : dt3 h v m i j k = a * m k := by unfold dt3; rw [hi, vi, mi, c1]; simp
  rw [d] at hp
  have sa : s = a := by
    rcases hs with rfl | rfl <;> rcases ha with rfl | rfl
    · rfl
    · exfalso; omega
    · exfalso; omega
    · rfl
  subst sa
  have aa : s * s = 1 := by rcases ha with rfl | rfl <;> decide
  unfold Low lp
  rw [d, c1, c2, c4, c5, c7, c8, c9]
  have e1 : s * (s * m k) = m k := by rw [← Int.mul_assoc, aa, Int.one_mul]
  have e2 : s * (m k * s) = m k := by rw [Int.mul_comm (m k) s]; exact e1
  rw [e1, e2, aa]
  simp only [Int.mul_zero]
  exact ⟨hs, mk, Or.inl mk, Or.inr ⟨trivial, Or.inl mk⟩, Or.inr ⟨trivial, Or.inr ⟨trivial, by decide⟩⟩⟩
theorem low_init {h v m : Int → Int} {n f s : Int} (F : FW h v m n) (hs : s = 1 ∨ s = -1) (hp : 0 ≤ s * dt3 h v m (n - (if f = 0 then 4 else 3)) (n - 2) 1) : Low h v m (gf f) (n - (if f = 0 then 4 else 3)) (n - 2) 1 s := by
  obtain ⟨_, ⟨a1, a2, a3⟩, ⟨b1, b2, b3⟩, ⟨c1, c2, c3⟩, _, m1⟩ := F
  unfold gf
  by_cases q : f = 0
  · rw [if_pos q] at hp ⊢
    rw [if_pos q]
    exact low_init1 (Or.inl rfl) a1 a2 a3 c1 c2 c3 m1 hs hp
  · rw [if_neg q] at hp ⊢
    rw [if_neg q]
    exact low_init1 (Or.inr rfl) b1 b2 b3 c1 c2 c3 m1 hs hp
