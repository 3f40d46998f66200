set_option maxHeartbeats 1000000
theorem sp_X4_length {Q X : m_Po} {ε : m_E} {μ : m_M} {p : Int} (L : LPg ε p) (hh : Q (μ p 3) ε μ) : o_X4_length [(2, p)] ε μ Q X := by
  apply e_X4_length
  exact fun _ => ⟨L.k, hh⟩
theorem sp_X4_byteAt {Q X : m_Po} {ε : m_E} {μ : m_M} {p i : Int} (L : LPg ε p) (hh : Q (if i < 0 then -1 else if μ p 3 ≤ i then -1 else if 80 ≤ i then -1 else μ (p + 1) i) ε μ) : o_X4_byteAt [(2, p), (0, i)] ε μ Q X := by
  apply e_X4_byteAt
  rw [L.f0.1]
  refine fun _ _ => ⟨fun q => ⟨L.k, fun _ q' => ⟨L.f0.2.1, q, ?_⟩⟩, fun t ht => ?_⟩
  · rw [L.f0.2.2]; exact q'
  · rw [ht]; exact hh
theorem bo_9 {Q X : m_Po} {ε : m_E} {μ : m_M} {V w i : Int} (L : LV ε V) (hw : w = 0 ∨ w = 1) (hh : Q (if i < 0 then -1 else if μ (V + 5) w ≤ i then -1 else if 48 ≤ i then -1 else μ (V + 4) (48 * w + i)) ε μ) : G cd_X8_boundAt Q X 9 [(0, (2, V)), (1, (0, w)), (2, (0, i))] [] ε μ := by
  apply g_X8_boundAt_9
  rw [L.f4.1, L.f3.1]
  refine fun _ _ _ => ⟨fun q => ⟨L.k, L.f4.2.1, by omega, ?_⟩, fun t ht v3 h3 => ?_⟩
  · rw [L.f4.2.2]; omega
  · have hz : v3 ≠ 0 → 0 ≤ i ∧ ¬ μ (V + 5) w ≤ i ∧ i < 48 := by
      intro z
      rw [h3, ht] at z
      by_cases a : i < 0
      · rw [if_pos a] at z; exact absurd rfl z
      · by_cases b : μ (V + 5) w ≤ i
        · rw [if_neg a, if_pos b] at z; exact absurd rfl z
        · by_cases c : 48 ≤ i
          · rw [if_neg a, if_neg b, if_pos c] at z; exact absurd rfl z
          · exact ⟨by omega, b, by omega⟩
    have he : 0 ≤ i → i < 48 → w32 (w32 (w * 48) + i) = 48 * w + i := by
      intro a b
      rcases hw with e | e <;> subst e
      · have : w32 ((0 : Int) * 48) = 0 := by decide
        rw [this, w32_id (by unfold i32; omega)]; omega
      · have : w32 ((1 : Int) * 48) = 48 := by decide
        rw [this, w32_id (by unfold i32; omega)]; omega
    refine ⟨fun z => ?_, fun t' ht' => ?_⟩
    · obtain ⟨a, _, b⟩ := hz z
      rw [he a b, L.f3.2.2]
      exact ⟨L.k, L.f3.2.1, by omega, by omega⟩
    · rw [ht']
      by_cases z : v3 = 0
      · rw [if_pos z]
        rw [h3, ht] at z
        by_cases a : i < 0
        · rw [if_pos a] at hh; exact hh
        · by_cases b : μ (V + 5) w ≤ i
          · rw [if_neg a, if_pos b] at hh; exact hh
          · by_cases c : 48 ≤ i
            · rw [if_neg a, if_neg b, if_pos c] at hh; exact hh
            · rw [if_neg a, if_neg b, if_neg c] at z; exact absurd z (by decide)
      · obtain ⟨a, b, c⟩ := hz z
        rw [if_neg z, he a c]
        rw [if_neg (by omega), if_neg b, if_neg (by omega)] at hh
        exact hh
theorem sp_X8_boundAt {Q X : m_Po} {ε : m_E} {μ : m_M} {V w i : Int} (L : LV ε V)
    (hh : w = 0 ∨ w = 1 → Q (if i < 0 then -1 else if μ (V + 5) w ≤ i then -1 else if 48 ≤ i then -1 else μ (V + 4) (48 * w + i)) ε μ)
    (h2 : w = 2 → Q (if i < 0 then -1 else if μ V 8 ≤ i then -1 else if 4 ≤ i then -1 else μ (V + 6) i) ε μ)
    (h3 : w ≠ 0 → w ≠ 1 → w ≠ 2 → Q (-1) ε μ) : o_X8_boundAt [(2, V), (0, w), (0, i)] ε μ Q X := by
  apply e_X8_boundAt
  rw [L.f5.1]
  refine fun _ _ _ => ⟨fun q => bo_9 L (Or.inl q) (hh (Or.inl q)), fun q => ⟨fun q1 => ⟨fun q2 a => ⟨L.k, fun _ b => ⟨L.f5.2.1, a, ?_⟩⟩, fun t ht => ?_⟩, fun q1 => bo_9 L (Or.inr q1) (hh (Or.inr q1))⟩⟩
  · rw [L.f5.2.2]; exact b
  · rw [ht]
    by_cases q2 : w = 2
    · rw [if_pos q2]; exact h2 q2
    · rw [if_neg q2]; exact h3 q q1 q2
theorem sp_X8_writeNumber {Q X : m_Po} {ε : m_E} {μ : m_M} {V p n : Int} (L : LV ε V) (P : LPg ε p)
    (hb : 0 ≤ n → n < 6 → 1 ≤ μ (V + 3) (n / 3) ∧ μ (V + 3) (n / 3) ≤ 2147483648 ∧ (W2 (μ (V + 1) n) (μ (V + 2) n)).natAbs < 10 ^ 38)
    (ho : n < 0 ∨ 6 ≤ n → Q (-1) ε μ)
    (hh : ∀ μ' t, 0 ≤ n → n < 6 → FPg p μ μ' → (∃ a d, LO (W2 (μ (V + 1) n) (μ (V + 2) n)) (μ (V + 3) (n / 3)) a d ∧ TX a d t) → PL (μ' (p + 1)) (μ' p 3) t → Q t.length ε μ') : o_X8_writeNumber [(2, V), (0, n), (2, p)] ε μ Q X := by
  apply e_X8_writeNumber
  rw [L.f0.1, L.f1.1, L.f2.1]
  refine fun _ _ => ⟨fun q => ho (Or.inl q), fun q => ⟨fun q' => ?_, fun q' => ho (Or.inr q')⟩⟩
  have e : w32 (Int.tdiv n 3) = n / 3 := by
    have : n = 0 ∨ n = 1 ∨ n = 2 ∨ n = 3 ∨ n = 4 ∨ n = 5 := by omega
    rcases this with z | z | z | z | z | z <;> subst z <;> decide
  rw [e, L.f0.2.2, L.f1.2.2, L.f2.2.2]
  obtain ⟨b1, b2, b3⟩ := hb q q'
  refine ⟨L.k, L.f0.2.1, q, q', L.f1.2.1, q', L.f2.2.1, by omega, by omega, P.k, sp_X4_write P b1 b2 b3 (fun μ' t f h H => ?_)⟩
  apply g_X8_writeNumber_36
  exact fun _ _ => hh μ' t q q' f h H
theorem ww_32 {Q X : m_Po} {ε : m_E} {μ : m_M} {V p n : Int} (L : LV ε V) (P : LPg ε p) (k4 : μ V 8 ≤ 4)
    (hb : 0 ≤ n → n < μ V 8 → (W2 0 (μ (V + 7) n)).natAbs < 10 ^ 38)
    (ho : n < 0 ∨ μ V 8 ≤ n → Q (-1) ε μ)
    (hh : ∀ μ' t, 0 ≤ n → n < μ V 8 → FPg p μ μ' → (∃ a d, LO (W2 0 (μ (V + 7) n)) 1 a d ∧ TX a d t) → PL (μ' (p + 1)) (μ' p 3) t → Q t.length ε μ') : G cd_X8_writeWeight Q X 32 [(0, (2, V)), (1, (0, n)), (2, (2, p))] [] ε μ := by
  apply g_X8_writeWeight_32
  rw [L.f6.1]
  refine fun _ _ => ⟨fun q => ho (Or.inl q), fun q => ⟨L.k, fun q' => ho (Or.inr q'), fun q' => ⟨fun q4 => ?_, fun q4 => absurd q' (by omega)⟩⟩⟩
  rw [L.f6.2.2]
  refine ⟨L.f6.2.1, q, q4, P.k, sp_X4_write P (by decide) (by decide) (hb q q') (fun μ' t f h H => ?_)⟩
  apply g_X8_writeWeight_63
  exact fun _ _ => hh μ' t q q' f h H
theorem sp_X8_writeWeight {Q X : m_Po} {ε : m_E} {μ : m_M} {V p n : Int} (L : LV ε V) (P : LPg ε p) (k4 : μ V 8 ≤ 4)
    (hb : 0 ≤ n → n < μ V 8 → (W2 0 (μ (V + 7) n)).natAbs < 10 ^ 38) (hs : 0 < μ V 8 → (W2 (μ (V + 8) 0) (μ (V + 8) 1)).natAbs < 10 ^ 38)
    (ho : n < 0 ∨ (μ V 8 ≤ n ∧ (n ≠ 4 ∨ μ V 8 ≤ 0)) → Q (-1) ε μ)
    (hh : ∀ μ' t, 0 ≤ n → n < μ V 8 → FPg p μ μ' → (∃ a d, LO (W2 0 (μ (V + 7) n)) 1 a d ∧ TX a d t) → PL (μ' (p + 1)) (μ' p 3) t → Q t.length ε μ')
    (h4 : ∀ μ' t, n = 4 → 0 < μ V 8 → FPg p μ μ' → (∃ a d, LO (W2 (μ (V + 8) 0) (μ (V + 8) 1)) 1 a d ∧ TX a d t) → PL (μ' (p + 1)) (μ' p 3) t → Q t.length ε μ') : o_X8_writeWeight [(2, V), (0, n), (2, p)] ε μ Q X := by
  apply e_X8_writeWeight
  rw [L.f7.1]
  refine fun _ _ => ⟨fun q => ww_32 L P k4 hb (fun r => ho (r.imp id (fun r => ⟨r, Or.inl q⟩))) hh, fun q => ⟨L.k, fun r => ww_32 L P k4 hb (fun r' => ho (r'.imp id (fun r' => ⟨r', Or.inr r⟩))) hh, fun r => ⟨L.f7.2.1, P.k, sp_X4_write P (by decide) (by decide) (hs r) (fun μ' t f h H => ?_)⟩⟩⟩
  apply g_X8_writeWeight_31
  exact fun _ _ => h4 μ' t q r f h H
