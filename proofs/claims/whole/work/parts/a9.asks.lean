set_option maxHeartbeats 1000000
theorem sp_X8_isSafe {Q X : m_Po} {ε : m_E} {μ : m_M} {V : Int} (L : LV ε V) (b : μ V 9 = 0 ∨ μ V 9 = 1) (hh : Q (μ V 9) ε μ) : o_X8_isSafe [(2, V)] ε μ Q X := by
  apply e_X8_isSafe
  exact fun _ => ⟨L.k, b, hh⟩
theorem sp_X10_octet {Q X' : m_Po} {ε : m_E} {μ : m_M} {X i : Int} (L : LY ε X) (P : LPg ε (X + 29)) (hh : Q (if i < 0 then -1 else if μ (X + 29) 3 ≤ i then -1 else if 80 ≤ i then -1 else μ (X + 29 + 1) i) ε μ) : o_X10_octet [(2, X), (0, i)] ε μ Q X' := by
  apply e_X10_octet
  rw [L.f7.1]
  refine fun _ _ => ⟨L.k, P.k, sp_X4_byteAt P ?_⟩
  apply g_X10_octet_8
  exact fun _ _ => hh
theorem sp_X10_count {Q X' : m_Po} {ε : m_E} {μ : m_M} {X i : Int} (L : LY ε X) (P : LPg ε (X + 29)) (h0 : i = 0 → Q (μ X 9) ε μ) (h1 : i = 1 → Q (μ X 10) ε μ) (h2 : i = 2 → Q (μ X 11) ε μ) (h3 : i = 3 → Q (μ (X + 29) 3) ε μ) (h4 : i < 0 ∨ 3 < i → Q (-1) ε μ) : o_X10_count [(2, X), (0, i)] ε μ Q X' := by
  apply e_X10_count
  rw [L.f7.1]
  refine fun _ _ => ⟨fun q => ⟨L.k, h0 q⟩, fun q => ⟨L.k, h1 q⟩, fun q => ⟨L.k, h2 q⟩, fun q => ⟨L.k, P.k, sp_X4_length P ?_⟩, h4⟩
  apply g_X10_count_54
  exact fun _ _ => h3 q
theorem sp_X10_bound {Q X' : m_Po} {ε : m_E} {μ : m_M} {X w i : Int} (L : LY ε X) (LV' : LV ε (X + 20))
    (hh : w = 0 ∨ w = 1 → Q (if i < 0 then -1 else if μ (X + 20 + 5) w ≤ i then -1 else if 48 ≤ i then -1 else μ (X + 20 + 4) (48 * w + i)) ε μ)
    (h2 : w = 2 → Q (if i < 0 then -1 else if μ (X + 20) 8 ≤ i then -1 else if 4 ≤ i then -1 else μ (X + 20 + 6) i) ε μ)
    (h3 : w ≠ 0 → w ≠ 1 → w ≠ 2 → Q (-1) ε μ) : o_X10_bound [(2, X), (0, w), (0, i)] ε μ Q X' := by
  apply e_X10_bound
  rw [L.f6.1]
  refine fun _ _ _ => ⟨L.k, LV'.k, sp_X8_boundAt LV' (fun q => ?_) (fun q => ?_) (fun q q1 q2 => ?_)⟩ <;> apply g_X10_bound_9
  · exact fun _ _ => hh q
  · exact fun _ _ => h2 q
  · exact fun _ _ => h3 q q1 q2
theorem sp_X10_weigh {Q X' : m_Po} {ε : m_E} {μ : m_M} {X n : Int} (L : LY ε X) (LV' : LV ε (X + 20)) (P : LPg ε (X + 29)) (k4 : μ (X + 20) 8 ≤ 4)
    (hb : 0 ≤ n → n < μ (X + 20) 8 → (W2 0 (μ (X + 20 + 7) n)).natAbs < 10 ^ 38) (hs : 0 < μ (X + 20) 8 → (W2 (μ (X + 20 + 8) 0) (μ (X + 20 + 8) 1)).natAbs < 10 ^ 38)
    (ho : n < 0 ∨ (μ (X + 20) 8 ≤ n ∧ (n ≠ 4 ∨ μ (X + 20) 8 ≤ 0)) → Q (-1) ε μ)
    (hh : ∀ μ' t, 0 ≤ n → n < μ (X + 20) 8 → FPg (X + 29) μ μ' → (∃ a d, LO (W2 0 (μ (X + 20 + 7) n)) 1 a d ∧ TX a d t) → PL (μ' (X + 29 + 1)) (μ' (X + 29) 3) t → Q t.length ε μ')
    (h4 : ∀ μ' t, n = 4 → 0 < μ (X + 20) 8 → FPg (X + 29) μ μ' → (∃ a d, LO (W2 (μ (X + 20 + 8) 0) (μ (X + 20 + 8) 1)) 1 a d ∧ TX a d t) → PL (μ' (X + 29 + 1)) (μ' (X + 29) 3) t → Q t.length ε μ') : o_X10_weigh [(2, X), (0, n)] ε μ Q X' := by
  apply e_X10_weigh
  rw [L.f6.1, L.f7.1]
  refine fun _ _ => ⟨L.k, LV'.k, sp_X8_writeWeight LV' P k4 hb hs (fun q => ?_) (fun μ' t q q' f h H => ?_) (fun μ' t q q' f h H => ?_)⟩ <;> apply g_X10_weigh_12
  · exact fun _ _ => ho q
  · exact fun _ _ => hh μ' t q q' f h H
  · exact fun _ _ => h4 μ' t q q' f h H
theorem sp_X10_number {Q X' : m_Po} {ε : m_E} {μ : m_M} {X n : Int} (L : LY ε X) (LV' : LV ε (X + 20)) (P : LPg ε (X + 29)) (b : μ (X + 20) 9 = 0 ∨ μ (X + 20) 9 = 1)
    (hb : μ (X + 20) 9 = 1 → 0 ≤ n → n < 6 → 1 ≤ μ (X + 20 + 3) (n / 3) ∧ μ (X + 20 + 3) (n / 3) ≤ 2147483648 ∧ (W2 (μ (X + 20 + 1) n) (μ (X + 20 + 2) n)).natAbs < 10 ^ 38)
    (h3 : μ (X + 20) 9 = 0 → ∀ z : Int, nx ε ≤ z → X' 3 (enx ε z) μ) (h2 : μ (X + 20) 9 = 1 → n < 0 ∨ 6 ≤ n → ∀ z : Int, nx ε ≤ z → X' 2 (enx ε z) μ)
    (hh : ∀ μ' t, μ (X + 20) 9 = 1 → 0 ≤ n → n < 6 → FPg (X + 29) μ μ' → (∃ a d, LO (W2 (μ (X + 20 + 1) n) (μ (X + 20 + 2) n)) (μ (X + 20 + 3) (n / 3)) a d ∧ TX a d t) → PL (μ' (X + 29 + 1)) (μ' (X + 29) 3) t → Q t.length ε μ') : o_X10_number [(2, X), (0, n)] ε μ Q X' := by
  apply e_X10_number
  rw [L.f6.1]
  refine fun _ _ => ⟨L.k, LV'.k, sp_X8_isSafe LV' b ?_⟩
  apply g_X10_number_7
  rw [L.f6.1, L.f7.1]
  refine fun _ _ _ => ⟨fun q => ?_, fun q => h3 q⟩
  have q1 : μ (X + 20) 9 = 1 := b.resolve_left q
  refine ⟨fun a => h2 q1 (Or.inl a), fun a => ⟨fun a' => ⟨L.k, LV'.k, sp_X8_writeNumber LV' P (hb q1) (fun r => absurd r (by omega)) (fun μ' t _ _ f h H => ?_)⟩, fun a' => h2 q1 (Or.inr a')⟩⟩
  apply g_X10_number_52
  exact fun _ _ => hh μ' t q1 a a' f h H
