/-! ===== fractions compared ===== -/
theorem fl_div {p q : Int} (h : 0 < q) : Int.tdiv p q - (if 0 ≤ Int.tmod p q then 0 else 1) = p / q := by
  have e := Int.mul_tdiv_add_tmod p q
  have b1 : Int.tmod p q < q := Int.tmod_lt_of_pos p h
  have b2 : -q < Int.tmod p q := by
    have := Int.tmod_lt_of_pos (-p) h
    rw [Int.neg_tmod] at this
    omega
  generalize Int.tdiv p q = x at *
  generalize Int.tmod p q = r at *
  split
  · rename_i c
    rw [← e, Int.mul_add_ediv_left _ _ (by omega), Int.ediv_eq_zero_of_lt c b1]; omega
  · rename_i c
    have e2 : p = q * (x - 1) + (r + q) := by grind
    rw [e2, Int.mul_add_ediv_left _ _ (by omega), Int.ediv_eq_zero_of_lt (by omega) (by omega)]; omega
theorem fl_rng {p q : Int} (h : 0 < q) : (0 ≤ p → 0 ≤ p / q ∧ p / q ≤ p) ∧ (p < 0 → p ≤ p / q ∧ p / q < 0) := by
  refine ⟨fun c => ⟨Int.ediv_nonneg c (by omega), ?_⟩, fun c => ⟨?_, Int.ediv_neg_of_neg_of_pos c h⟩⟩
  · exact Int.ediv_le_self _ c
  · have e := Int.mul_ediv_add_emod p q
    have m := Int.emod_nonneg p (show q ≠ 0 by omega)
    have : p / q < 0 := Int.ediv_neg_of_neg_of_pos c h
    rcases Int.lt_or_le (p / q) p with z | z
    · exfalso
      have m2 := Int.emod_lt_of_pos p h
      have := Int.mul_le_mul_of_nonneg_right (show p / q + 1 ≤ p by omega) (show 0 ≤ q by omega)
      have : p * q ≤ p := by
        have := Int.mul_le_mul_of_nonpos_left (show p ≤ 0 by omega) (show 1 ≤ q by omega)
        omega
      rw [Int.add_mul, Int.mul_comm (p / q) q] at *
      omega
    · exact z
theorem fl_w {p q t x : Int} (h : 0 < q) (hp : i64 p) (et : t = if 0 ≤ Int.tmod p q then 0 else 1) (ex : x = w64 (w64 (Int.tdiv p q) - t)) : x = p / q := by
  have f := fl_div (p := p) h
  rw [← et] at f
  have r := fl_rng (p := p) h
  have t01 : t = 0 ∨ t = 1 := by rw [et]; split <;> omega
  unfold i64 at hp
  have i1 : i64 (p / q) := by unfold i64; omega
  have i2 : i64 (Int.tdiv p q) := by
    by_cases c : 0 ≤ p
    · rw [Int.tdiv_eq_ediv_of_nonneg c]; exact i1
    · unfold i64; omega
  rw [ex, w64_id i2, f, w64_id i1]
theorem fl_m {p q x y : Int} (h : 0 < q) (hq : q < 9223372036854775808) (ex : x = p / q) (ey : y = w64 (p - w64 (x * q))) : y = p % q := by
  have e := Int.mul_ediv_add_emod p q
  have m1 := Int.emod_nonneg p (show q ≠ 0 by omega)
  have m2 := Int.emod_lt_of_pos p h
  rw [← ex, Int.mul_comm] at e
  generalize x * q = z at *
  generalize p % q = r at *
  rw [ey]
  unfold w64
  omega
theorem sg_neg (z : Int) : sg (-z) = -(sg z) := by unfold sg; split <;> split <;> (try split) <;> omega
theorem fl_lt {p q r s : Int} (hq : 0 < q) (hs : 0 < s) (h : p / q < r / s) : p * s - r * q < 0 := by
  have e1 := Int.mul_ediv_add_emod p q
  have e2 := Int.mul_ediv_add_emod r s
  have m1 := Int.emod_lt_of_pos p hq
  have m2 := Int.emod_nonneg r (show s ≠ 0 by omega)
  generalize p / q = x at *
  generalize r / s = y at *
  have a1 : p < q * y := by
    have := Int.mul_le_mul_of_nonneg_left (show x + 1 ≤ y by omega) (show 0 ≤ q by omega)
    rw [Int.mul_add] at this
    omega
  have a2 : s * y ≤ r := by omega
  have b1 := Int.mul_lt_mul_of_pos_right a1 hs
  have b2 := Int.mul_le_mul_of_nonneg_right a2 (show 0 ≤ q by omega)
  have : q * y * s = s * y * q := by grind
  omega
theorem fl_eq {p q r s x : Int} (e1 : x = p / q) (e2 : x = r / s) : p * s - r * q = (p % q) * s - (r % s) * q := by
  have a1 := Int.mul_ediv_add_emod p q
  have a2 := Int.mul_ediv_add_emod r s
  rw [← e1] at a1
  rw [← e2] at a2
  grind
theorem ls_loop {Q X : m_Po} {ε : m_E} {μ : m_M} {R : Int} (h : Q R ε μ) : ∀ (N : Nat) (p q r s g : Int), 0 < q → q ≤ N → 0 < s → (g = 1 ∨ g = -1) → R = g * sg (p * s - r * q) → G cd_X12_lies Q X 17 [(8, (1, p)), (10, (1, q)), (12, (1, r)), (14, (1, s)), (16, (0, g))] [] ε μ := by
  intro N
  induction N with
  | zero => intro p q r s g h1 h2; omega
  | succ N ih =>
    intro p q r s g h1 h2 h3 hg hR
    apply g_X12_lies_17
    intro _ ip iq ir is ig
    have iq' := iq
    have is' := is
    unfold i64 at iq' is'
    refine ⟨by omega, fun t et x ex => ⟨by omega, fun t1 et1 y ey => ?_⟩⟩
    have ex' := fl_w h1 ip et ex
    have ey' := fl_w h3 ir et1 ey
    have wg : w32 (-g) = -g := by rcases hg with rfl | rfl <;> decide
    refine ⟨fun c p' ep r' er => ?_, fun c t2 et2 => ?_⟩
    · have ep' := fl_m h1 (by omega) ex' ep
      have er' := fl_m h3 (by omega) ey' er
      have E := fl_eq (p := p) (q := q) (r := r) (s := s) ex' (c.trans ey')
      rw [← ep', ← er'] at E
      have p0 : 0 ≤ p' := by rw [ep']; exact Int.emod_nonneg _ (by omega)
      have p1 : p' < q := by rw [ep']; exact Int.emod_lt_of_pos _ h1
      have r0 : 0 ≤ r' := by rw [er']; exact Int.emod_nonneg _ (by omega)
      rw [E] at hR
      clear E ep er ep' er' ex ey ex' ey' et et1 c
      have fin : p' = 0 ∨ r' = 0 → G cd_X12_lies Q X 122 [(8, (1, p')), (12, (1, r')), (16, (0, g))] [] ε μ := by
        intro c
        apply g_X12_lies_122
        intro _ _ _ _ t3 et3
        have : t3 = R := by
          rw [hR, et3, wg]
          clear et3 hR
          by_cases z : p' = 0
          · by_cases z2 : r' = 0
            · rw [z, z2, if_pos rfl, if_pos rfl]; simp [sg]
            · have : 0 < r' * q := Int.mul_pos (by omega) h1
              rw [z, if_pos rfl, if_neg z2, if_pos rfl]
              unfold sg
              rw [if_pos (by omega)]; omega
          · have z2 : r' = 0 := by omega
            have : 0 < p' * s := Int.mul_pos (by omega) h3
            rw [z2, if_neg z, if_neg z]
            unfold sg
            rw [if_neg (by omega), if_neg (by omega)]; omega
        rw [this]; exact h
      refine ⟨fun z => fin (Or.inl z), fun z => ⟨fun z2 a ea b eb c' ec d ed f ef u eu g' eg => ?_, fun z2 => fin (Or.inr z2)⟩⟩
      rw [eb, ec, ea, ef, eu, ed, eg, wg]
      refine ih q p' s r' (-g) (by omega) (by omega) (by omega) (by omega) ?_
      rw [hR, show q * r' - s * p' = -(p' * s - r' * q) by grind, sg_neg]
      grind
    · have : t2 = R := by
        rw [et2, hR, wg]
        by_cases z : y ≤ x
        · have := fl_lt (p := r) (q := s) (r := p) (s := q) h3 h1 (by omega)
          rw [if_pos z]
          unfold sg
          rw [if_neg (by omega), if_neg (by omega)]; omega
        · have := fl_lt (p := p) (q := q) (r := r) (s := s) h1 h3 (by omega)
          rw [if_neg z]
          unfold sg
          rw [if_pos (by omega)]; omega
      rw [this]; exact h
theorem sp_X12_lies {Q X : m_Po} {ε : m_E} {μ : m_M} {a b c d : Int} (hb : 0 < b) (hd : 0 < d) (h : Q (sg (a * d - c * b)) ε μ) : o_X12_lies [(1, a), (1, b), (1, c), (1, d)] ε μ Q X := by
  apply e_X12_lies
  intro _ _ _ _ _ p ep q eq r er s es g eg
  subst ep eq er es eg
  exact ls_loop h q.toNat p q r s 1 hb (by omega) hd (Or.inl rfl) (by omega)
