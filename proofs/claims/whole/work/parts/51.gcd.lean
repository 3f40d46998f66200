/-! ===== common divisors ===== -/
theorem gcd_step {a b : Int} (ha : 0 ≤ a) : Int.gcd b (a % b) = Int.gcd a b := by
  unfold Int.gcd
  rw [Int.natAbs_emod_of_nonneg ha, Nat.gcd_comm, ← Nat.gcd_rec, Nat.gcd_comm]
theorem gcd_zero {a : Int} (ha : 0 ≤ a) : ((Int.gcd a 0 : Nat) : Int) = a := by
  rw [Int.gcd_zero_right]; omega
/-- Fibonacci's numbers from 2 on: 1, 2, 3, 5 .. -/
def fb : Nat → Int × Int
  | 0 => (1, 2)
  | n + 1 => ((fb n).2, (fb n).1 + (fb n).2)
theorem fb90 : (fb 91).1 = 12200160415121876738 := by decide +kernel
theorem mod_less {a b : Int} (h : 0 < b) (hab : b < a) : 0 ≤ a % b ∧ a % b < b ∧ a % b + b ≤ a := by
  have h1 := Int.emod_nonneg a (show b ≠ 0 by omega)
  have h2 := Int.emod_lt_of_pos a h
  have h3 := Int.mul_ediv_add_emod a b
  have h4 : 1 ≤ a / b := by
    rcases Int.lt_or_le (a / b) 1 with q | q
    · have : a / b ≤ 0 := by omega
      have := Int.mul_le_mul_of_nonneg_left this (show 0 ≤ b by omega)
      omega
    · exact q
  have := Int.mul_le_mul_of_nonneg_left h4 (show 0 ≤ b by omega)
  refine ⟨h1, h2, by omega⟩
theorem cd_loop {Q X : m_Po} {ε : m_E} {μ : m_M} {r : Int} (h : Q (if 1 ≤ r then r else 1) ε μ) : ∀ (n : Nat) (a b k : Int), 0 ≤ b → b < a → (a < (fb n).2 ∨ b < (fb n).1) → ((Int.gcd a b : Nat) : Int) = r → 0 ≤ k → k + n ≤ 100 → G cd_X10_commonDivisor Q X 15 [(4, (1, a)), (6, (1, b)), (8, (0, k))] [] ε μ := by
  intro n
  induction n with
  | zero =>
    intro a b k h0 h1 h2 h3 h4 h5
    have hb : b = 0 := by unfold fb at h2; omega
    subst hb
    apply g_X10_commonDivisor_15
    refine fun _ _ _ _ => ⟨fun _ => ?_, fun _ => ⟨fun _ => ?_, fun c => absurd rfl c⟩⟩ <;>
    · apply g_X10_commonDivisor_50
      intro _ _ t et
      rw [gcd_zero (by omega)] at h3
      rw [et, h3]; exact h
  | succ n ih =>
    intro a b k h0 h1 h2 h3 h4 h5
    apply g_X10_commonDivisor_15
    refine fun _ _ _ _ => ⟨fun c => by omega, fun _ => ⟨fun c => ?_, fun c => ⟨c, fun v9 e9 v4 e4 v6 e6 v8 e8 => ?_⟩⟩⟩
    · subst c
      apply g_X10_commonDivisor_50
      intro _ _ t et
      rw [gcd_zero (by omega)] at h3
      rw [et, h3]; exact h
    · obtain ⟨m1, m2, m3⟩ := mod_less (show 0 < b by omega) h1
      rw [Int.tmod_eq_emod_of_nonneg (by omega)] at e9
      have e8' : v8 = k + 1 := by rw [e8, w32_id (by unfold i32; omega)]
      rw [e4, e6, e9, e8']
      refine ih b (a % b) (k + 1) m1 m2 ?_ (by rw [gcd_step (by omega)]; exact h3) (by omega) (by omega)
      unfold fb at h2
      simp only at h2
      omega
theorem abs_of {v t : Int} (hv : -9223372036854775808 < v) (hv2 : v < 9223372036854775808) (e : t = if 0 < v then v else w64 (-v)) : t = (v.natAbs : Int) := by
  rw [e]; split
  · omega
  · rw [w64_id (by unfold i64; omega)]; omega
theorem abs_of' {v t : Int} (hv : -9223372036854775808 < v) (hv2 : v < 9223372036854775808) (e : t = if 0 ≤ v then v else w64 (-v)) : t = (v.natAbs : Int) := by
  rw [e]; split
  · omega
  · rw [w64_id (by unfold i64; omega)]; omega
theorem gcd_nat (a b : Int) : Int.gcd (a.natAbs : Int) (b.natAbs : Int) = Int.gcd a b := by
  unfold Int.gcd; simp
theorem sp_X10_commonDivisor {Q X : m_Po} {ε : m_E} {μ : m_M} {x y : Int} (hx : -9223372036854775808 < x) (hy : -9223372036854775808 < y) (h : Q (if 1 ≤ ((Int.gcd x y : Nat) : Int) then ((Int.gcd x y : Nat) : Int) else 1) ε μ) : o_X10_commonDivisor [(1, x), (1, y)] ε μ Q X := by
  apply e_X10_commonDivisor
  intro hT ix iy v4 e4 v6 e6 v8 e8
  unfold i64 at ix iy
  have e4 := abs_of hx ix.2 e4
  have e6 := abs_of hy iy.2 e6
  rw [← gcd_nat] at h
  rw [← e4, ← e6] at h
  subst e8
  apply g_X10_commonDivisor_15
  refine fun _ _ _ _ => ⟨fun c => by omega, fun _ => ⟨fun c => ?_, fun c => ⟨c, fun v9 e9 v4' e4' v6' e6' v8' e8' => ?_⟩⟩⟩
  · rw [c] at h
    rw [gcd_zero (by omega)] at h
    apply g_X10_commonDivisor_50
    intro _ _ t et
    rw [et]; exact h
  · have hb : 0 < v6 := by omega
    rw [Int.tmod_eq_emod_of_nonneg (by omega)] at e9
    have e8'' : v8' = 1 := by rw [e8']; rfl
    rw [e4', e6', e9, e8'']
    have m1 := Int.emod_nonneg v4 (show v6 ≠ 0 by omega)
    have m2 := Int.emod_lt_of_pos v4 hb
    refine cd_loop h 90 v6 (v4 % v6) 1 m1 m2 (Or.inl ?_) (by rw [gcd_step (by omega)]) (by decide) (by decide)
    have : (fb 90).2 = (fb 91).1 := rfl
    rw [this, fb90]; omega
theorem g_loop {Q X : m_Po} {ε : m_E} {μ : m_M} {r : Int} (h : Q r ε μ) : ∀ (n : Nat) (a b : Int), 0 ≤ a → 0 ≤ b → b ≤ n → ((Int.gcd a b : Nat) : Int) = r → G cd_X12_gcd Q X 28 [(4, (1, a)), (6, (1, b))] [] ε μ := by
  intro n
  induction n with
  | zero =>
    intro a b h0 h1 h2 h3
    have hb : b = 0 := by omega
    subst hb
    apply g_X12_gcd_28
    refine fun _ _ _ => ⟨fun _ => ?_, fun c => absurd rfl c⟩
    rw [gcd_zero h0] at h3
    rw [h3]; exact h
  | succ n ih =>
    intro a b h0 h1 h2 h3
    apply g_X12_gcd_28
    refine fun _ _ _ => ⟨fun c => ?_, fun c => ⟨c, fun v8 e8 v4 e4 v6 e6 => ?_⟩⟩
    · subst c
      rw [gcd_zero h0] at h3
      rw [h3]; exact h
    · rw [Int.tmod_eq_emod_of_nonneg h0] at e8
      rw [e4, e6, e8]
      have m1 := Int.emod_nonneg a c
      have m2 := Int.emod_lt_of_pos a (show 0 < b by omega)
      exact ih b (a % b) h1 m1 (by omega) (by rw [gcd_step h0]; exact h3)
theorem sp_X12_gcd {Q X : m_Po} {ε : m_E} {μ : m_M} {x y : Int} (hx : -9223372036854775808 < x) (hy : -9223372036854775808 < y) (h : Q ((Int.gcd x y : Nat) : Int) ε μ) : o_X12_gcd [(1, x), (1, y)] ε μ Q X := by
  apply e_X12_gcd
  intro hT ix iy t et v4 e4 t1 et1 v6 e6
  unfold i64 at ix iy
  have e4 := e4.trans (abs_of' hx ix.2 et)
  have e6 := e6.trans (abs_of' hy iy.2 et1)
  rw [← gcd_nat] at h
  rw [← e4, ← e6] at h
  exact g_loop h v6.toNat v4 v6 (by omega) (by omega) (by omega) rfl
