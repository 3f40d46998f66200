set_option maxHeartbeats 1000000
theorem rg_m0 {ε : m_E} {μ : m_M} {M j v : Int} {R : Int → Int} (H : RG ε μ M R) : RG ε (st μ M j v) M R := H.of (fun b i hb => by
  refine sx_oa (fun e => ?_)
  rcases hb with hb | ⟨q, hq, e'⟩
  · rw [e] at hb; exact nbc0 hb
  · have : ∀ q ∈ lm_a, q.1 ≠ 0 := by decide
    exact this q hq (by omega))
theorem sp_X12_octet {Q X : m_Po} {ε : m_E} {μ : m_M} {M i : Int} (L : LM ε M) (b : μ M 63 ≤ 400) (hh : Q (if i < 0 then -1 else if μ M 63 ≤ i then -1 else μ (M + 104) i) ε (st μ M 0 0)) : o_X12_octet [(2, M), (0, i)] ε μ Q X := by
  apply e_X12_octet
  rw [L.f62.1]
  refine fun _ _ => ⟨L.k, fun μ1 m1 => ?_⟩
  have e1 : μ1 M 63 = μ M 63 := by rw [m1]; exact sx_oi (by decide)
  have e2 : μ1 (M + 104) i = μ (M + 104) i := by rw [m1]; exact sx_oa (by omega)
  rw [e1, e2, L.f62.2.2]
  refine ⟨fun q q' => ⟨L.f62.2.1, q, by omega⟩, fun t ht => ?_⟩
  rw [ht, m1]; exact hh
theorem sp_X12_count {Q X : m_Po} {ε : m_E} {μ : m_M} {M i : Int} (L : LM ε M) (h0 : i = 0 → Q (μ M 4) ε (st μ M 0 0)) (h1 : i = 1 → Q (μ M 14) ε (st μ M 0 0)) (h2 : i = 2 → Q (μ M 27) ε (st μ M 0 0)) (h3 : i = 3 → Q (μ M 63) ε (st μ M 0 0)) (h4 : i < 0 ∨ 3 < i → Q (-1) ε (st μ M 0 0)) : o_X12_count [(2, M), (0, i)] ε μ Q X := by
  apply e_X12_count
  refine fun _ _ => ⟨L.k, fun μ1 m1 => ?_⟩
  have e : ∀ j, j ≠ 0 → μ1 M j = μ M j := fun j hj => by rw [m1]; exact sx_oi hj
  rw [e 4 (by decide), e 14 (by decide), e 27 (by decide), e 63 (by decide), m1]
  exact ⟨h0, h1, h2, h3, h4⟩
theorem sp_X12_bound {Q X : m_Po} {ε : m_E} {μ : m_M} {M w i : Int} (L : LM ε M) (b : ∀ w, w = 0 ∨ w = 1 → μ (M + 89) w ≤ 48) (b4 : μ M 59 ≤ 4)
    (h0 : i < 0 ∨ μ M 53 = 0 ∨ (w ≠ 0 ∧ w ≠ 1 ∧ w ≠ 2) → Q (-1) ε (st μ M 0 0))
    (h1 : 0 ≤ i → μ M 53 ≠ 0 → w = 0 ∨ w = 1 → Q (if i < μ (M + 89) w then μ (M + 88) (48 * w + i) else -1) ε (st μ M 0 0))
    (h2 : 0 ≤ i → μ M 53 ≠ 0 → w = 2 → Q (if μ M 59 ≤ i then -1 else μ (M + 90) i) ε (st μ M 0 0)) : o_X12_bound [(2, M), (0, w), (0, i)] ε μ Q X := by
  apply e_X12_bound
  rw [L.f55.1, L.f56.1, L.f57.1]
  refine fun _ _ _ => ⟨L.k, fun μ1 m1 => ?_⟩
  have e : ∀ j, j ≠ 0 → μ1 M j = μ M j := fun j hj => by rw [m1]; exact sx_oi hj
  have e' : ∀ o j, o ≠ 0 → μ1 (M + o) j = μ (M + o) j := fun o j hj => by rw [m1]; exact sx_oa (by omega)
  rw [e 53 (by decide), e 59 (by decide), e' 89 _ (by decide), e' 88 _ (by decide), e' 90 _ (by decide), L.f55.2.2, L.f56.2.2, L.f57.2.2]
  have he : w = 0 ∨ w = 1 → 0 ≤ i → i < 48 → w32 (w32 (48 * w) + i) = 48 * w + i := by
    intro hw a b
    rcases hw with e | e <;> subst e
    · have : w32 ((48 : Int) * 0) = 0 := by decide
      rw [this, w32_id (by unfold i32; omega)]; omega
    · have : w32 ((48 : Int) * 1) = 48 := by decide
      rw [this, w32_id (by unfold i32; omega)]; omega
  refine ⟨fun q => by rw [m1]; exact h0 (Or.inl q), fun q => ⟨fun q1 => ⟨fun q2 => ⟨fun a a' => ?_, fun t ht => ?_⟩, fun q2 => ⟨fun a => ⟨L.f57.2.1, q, by omega⟩, fun t ht => by rw [ht, m1]; exact h2 q q1 q2⟩⟩, fun q1 => by rw [m1]; exact h0 (Or.inr (Or.inl q1))⟩⟩
  · have hw : w = 0 ∨ w = 1 := by omega
    have := b w hw
    refine ⟨L.f56.2.1, a, by omega, fun z => ?_⟩
    rw [he hw q (by omega)]
    exact ⟨L.f55.2.1, by omega, by omega⟩
  · rw [ht, m1]
    by_cases a : w < 0
    · rw [if_pos a]; exact h0 (Or.inr (Or.inr (by omega)))
    · by_cases a' : 1 < w
      · rw [if_neg a, if_pos a']; exact h0 (Or.inr (Or.inr (by omega)))
      · have hw : w = 0 ∨ w = 1 := by omega
        have bw := b w hw
        have H := h1 q q1 hw
        rw [if_neg a, if_neg a']
        by_cases z : i < μ (M + 89) w
        · rw [if_pos z] at H
          rw [if_pos z, he hw q (by omega)]; exact H
        · rw [if_neg z] at H
          rw [if_neg z]; exact H
