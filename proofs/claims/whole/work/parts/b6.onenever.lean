set_option maxHeartbeats 1000000
/-- what is found never to hold is one -/
def JN (μ : m_M) (V M : Int) (R : Int → Int) : Prop := μ M 59 = μ V 8 ∧ 0 ≤ μ V 8 ∧ μ V 8 ≤ 4 ∧ (∀ t : Int, 0 ≤ t → t < μ V 8 → μ (V + 6) t = μ (M + 90) t ∧ μ (V + 7) t = R (92 + 2 * t) ∧ 0 ≤ μ (V + 7) t) ∧ (0 < μ V 8 → W2 (μ (V + 8) 0) (μ (V + 8) 1) = R 100)
theorem gd_div0 (x y : Nat) : (0 : Int) ≤ (x : Int) / (y : Int) := Int.ediv_nonneg (Int.natCast_nonneg _) (Int.natCast_nonneg _)
theorem jn_both {μ : m_M} {V M n : Int} {k k' : Nat} {R h v m c code ix a ix' a' : Int → Int} (S : Srch h v m c n k ix a) (S' : Srch h v m c n k' ix' a') (k4 : k ≤ 4) (A : VNc μ V k ix a c code) (B : k' ≠ 0 → NMc μ M R k' ix' a' c code) (B0 : k' = 0 → μ M 59 = 0) : μ V 9 = 0 ∧ μ (V + 5) 0 = 0 ∧ μ (V + 5) 1 = 0 ∧ JN μ V M R := by
  obtain ⟨ek, same⟩ := S.one S'
  subst ek
  obtain ⟨a9, a8, a50, a51, al⟩ := A
  refine ⟨a9, a50, a51, ?_⟩
  unfold JN
  rw [a8]
  by_cases z : k = 0
  · subst z
    refine ⟨B0 rfl, by decide, by decide, fun t t0 t1 => absurd t1 (by omega), fun t => absurd t (by decide)⟩
  · obtain ⟨s1, s2⟩ := same z
    subst s1 s2
    obtain ⟨c1, c2, c3⟩ := B z
    obtain ⟨al1, al2⟩ := al z
    refine ⟨c1, Int.natCast_nonneg _, by omega, fun t t0 t1 => ?_, fun _ => by rw [al2, c3]⟩
    obtain ⟨x1, x2⟩ := al1 t t0 t1
    obtain ⟨y1, y2⟩ := c2 t t0 t1
    refine ⟨by rw [x1, y1], by rw [x2, y2], ?_⟩
    rw [x2]
    exact gd_div0 _ _
