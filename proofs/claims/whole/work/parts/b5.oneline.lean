set_option maxHeartbeats 1000000
/-- the touched bounds of a line are one list -/
def JT (μ : m_M) (V M w : Int) : Prop := μ (M + 89) w = μ (V + 5) w ∧ 0 ≤ μ (V + 5) w ∧ μ (V + 5) w ≤ 48 ∧ ∀ q : Int, 0 ≤ q → q < μ (V + 5) w → μ (V + 4) (48 * w + q) = μ (M + 88) (48 * w + q)
/-- bounds of the corners of rows -/
def CB (h v m c : Int → Int) (n : Nat) : Prop := ∀ i j k s : Int, (0 ≤ i ∧ i < (n : Int)) → (0 ≤ j ∧ j < (n : Int)) → (0 ≤ k ∧ k < (n : Int)) → (s = 1 ∨ s = -1) → s * dt3 h v m i j k ≤ 2147483648 ∧ (cnH v m c i j k s).natAbs < 10 ^ 38 ∧ (cnV h m c i j k s).natAbs < 10 ^ 38 ∧ (cnM h v c i j k s).natAbs < 10 ^ 38
theorem jl_both {μ : m_M} {V M w g u l u1 l1 u2 l2 : Int} {R h v m c code : Int → Int} {n : Nat} (n48 : n ≤ 48) (hb : CB h v m c n) (hu : u = 48 + 6 * w) (hl : l = 61 + 6 * w) (hu1 : u1 = 50 + 6 * w) (hl1 : l1 = 63 + 6 * w) (hu2 : u2 = 52 + 6 * w) (hl2 : l2 = 65 + 6 * w)
    (A : VLc μ V w g h v m c code n) (B : MLc μ M w g R h v m c code n u l u1 l1 u2 l2) : JQ μ V R (3 * w) ∧ JQ μ V R (3 * w + 1) ∧ JQ μ V R (3 * w + 2) ∧ JT μ V M w := by
  obtain ⟨i, j, k, s, hi, hj, hk, hs, lx, eD, e0, e1, e2, ec, et⟩ := A
  obtain ⟨p0, p1, p2, b0, b1, b2, b3, b4, b5, al⟩ := B
  obtain ⟨x0, x1, x2, x3, x4⟩ := al _ _ _ _ lx
  obtain ⟨c0, c1, c2, c3⟩ := hb i j k s hi hj hk hs
  have d0 : 1 ≤ s * dt3 h v m i j k := lx.1.1
  refine ⟨JQ.of (by omega) (by omega) (by omega) e0 eD d0 c0 c1 p0 b0 (by decide) b1 (by decide) x0, JQ.of (by omega) (by omega) (by omega) e1 eD d0 c0 c2 p1 b2 (by decide) b3 (by decide) x1, JQ.of (by omega) (by omega) (by omega) e2 eD d0 c0 c3 p2 b4 (by decide) b5 (by decide) x2, ?_⟩
  have le := ct_le (fun b => decide (wc h v m c i j k s b = 0)) n
  refine ⟨by rw [x3, ec]; rfl, by rw [ec]; exact Int.natCast_nonneg _, by rw [ec]; omega, fun q q0 q1 => ?_⟩
  rw [ec] at q1
  have z := TL.same et x4 (q := q.toNat) (by omega)
  rw [Int.toNat_of_nonneg q0] at z
  exact z
