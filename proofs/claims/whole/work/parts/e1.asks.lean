set_option maxHeartbeats 1000000
/-! ===== pairs of calls: octet, count, bound, weigh, number ===== -/
theorem pr_octet {ε : m_E} {μ : m_M} {X i : Int} {codes : Int → Int} (H : Rel ε μ X) : PAIR (fun ε μ Q Y => o_X10_octet [(2, X), (0, i)] ε μ Q Y) (fun ε μ Q Y => o_X12_octet [(2, X + 34), (0, i)] ε μ Q Y) codes ε μ X := by
  intro QC XC hq _
  obtain ⟨ow, R, S, G', J, P, C⟩ := H
  obtain ⟨p1, p2, p3, p4⟩ := P.at
  refine sp_X10_octet S.1 S.2.2.2.2.2.1 (hq _ ε μ ⟨EX.rf, fun _ _ _ => rfl, fun μ2 f2 Q Y K => ?_⟩)
  have e63 : μ2 (X + 34) 63 = μ (X + 34) 63 := f2 _ _ (by omega)
  refine sp_X12_octet G'.1 (by rw [e63]; omega) (K _ _ (fun c j h => sx_oa (by omega)) (Rel.st0 S G' J P C (fun b j h1 h2 => by rw [st, if_neg h2]; exact f2 b j h1)) sx_same (fun _ => ?_) (fun j => sx_oa (by omega)))
  rw [e63, ← p1, f2 (X + 34 + 104) i (by omega)]
  by_cases a : i < 0
  · rw [if_pos a, if_pos a]
  · rw [if_neg a, if_neg a]
    by_cases b : μ (X + 29) 3 ≤ i
    · rw [if_pos b, if_pos b]
    · rw [if_neg b, if_neg b, if_neg (by omega), p4 i (by omega) (by omega)]
theorem pr_count {ε : m_E} {μ : m_M} {X i : Int} {codes : Int → Int} (H : Rel ε μ X) : PAIR (fun ε μ Q Y => o_X10_count [(2, X), (0, i)] ε μ Q Y) (fun ε μ Q Y => o_X12_count [(2, X + 34), (0, i)] ε μ Q Y) codes ε μ X := by
  intro QC XC hq _
  obtain ⟨ow, R, S, G', J, P, C⟩ := H
  obtain ⟨p1, p2, p3, p4⟩ := P.at
  have c1 : μ X 9 = μ (X + 34) 4 := by have := C.2.1.1; unfold sgM at this; rw [Int.add_zero] at this; exact this
  have c2 : μ X 10 = μ (X + 34) 14 := by have := C.2.2.1.1; unfold sgM at this; rw [Int.add_zero] at this; exact this
  have c3 : μ X 11 = μ (X + 34) 27 := by have := C.2.2.2.1.1; unfold sgM at this; rw [Int.add_zero] at this; exact this
  have A : ∀ z, (∀ μ2 : m_M, (∀ b j, b ≠ X + 141 → μ2 b j = μ b j) → (i = 0 → μ2 (X + 34) 4 = z) ∧ (i = 1 → μ2 (X + 34) 14 = z) ∧ (i = 2 → μ2 (X + 34) 27 = z) ∧ (i = 3 → μ2 (X + 34) 63 = z) ∧ (i < 0 ∨ 3 < i → -1 = z)) → AFT (fun ε μ Q Y => o_X12_count [(2, X + 34), (0, i)] ε μ Q Y) X 0 z ε μ ε μ := fun z hz => by
    refine ⟨EX.rf, fun _ _ _ => rfl, fun μ2 f2 Q Y K => ?_⟩
    obtain ⟨z0, z1, z2, z3, z4⟩ := hz μ2 f2
    have L : ∀ b, b = z → Q b ε (st μ2 (X + 34) 0 0) := fun b hb => K _ _ (fun c j h => sx_oa (by omega)) (Rel.st0 S G' J P C (fun b j h1 h2 => by rw [st, if_neg h2]; exact f2 b j h1)) sx_same (fun _ => hb) (fun j => sx_oa (by omega))
    exact sp_X12_count G'.1 (fun q => L _ (z0 q)) (fun q => L _ (z1 q)) (fun q => L _ (z2 q)) (fun q => L _ (z3 q)) (fun q => L _ (z4 q))
  refine sp_X10_count S.1 S.2.2.2.2.2.1 (fun q => hq _ _ _ (A _ (fun μ2 f2 => ⟨fun _ => ?_, fun r => ?_, fun r => ?_, fun r => ?_, fun r => ?_⟩))) (fun q => hq _ _ _ (A _ (fun μ2 f2 => ⟨fun r => ?_, fun _ => ?_, fun r => ?_, fun r => ?_, fun r => ?_⟩))) (fun q => hq _ _ _ (A _ (fun μ2 f2 => ⟨fun r => ?_, fun r => ?_, fun _ => ?_, fun r => ?_, fun r => ?_⟩))) (fun q => hq _ _ _ (A _ (fun μ2 f2 => ⟨fun r => ?_, fun r => ?_, fun r => ?_, fun _ => ?_, fun r => ?_⟩))) (fun q => hq _ _ _ (A _ (fun μ2 f2 => ⟨fun r => ?_, fun r => ?_, fun r => ?_, fun r => ?_, fun _ => rfl⟩)))
  all_goals first
    | omega
    | (rw [f2 _ _ (by omega)]; omega)
theorem pr_bound {ε : m_E} {μ : m_M} {X w i : Int} {codes : Int → Int} (H : Rel ε μ X) : PAIR (fun ε μ Q Y => o_X10_bound [(2, X), (0, w), (0, i)] ε μ Q Y) (fun ε μ Q Y => o_X12_bound [(2, X + 34), (0, w), (0, i)] ε μ Q Y) codes ε μ X := by
  intro QC XC hq _
  obtain ⟨ow, R, S, G', J, P, C⟩ := H
  have L8 : ∀ w, w = 0 ∨ w = 1 → μ (X + 34 + 89) w ≤ 48 := fun w hw => by
    rcases J with ⟨_, _, _, _, _, _, j1, j2⟩ | ⟨_, _, _, _, _, _, j1, j2⟩ | ⟨_, _, _, _, _, j1, j2, _⟩
    · rcases hw with hw | hw <;> rw [hw] <;> omega
    · obtain ⟨a1, a2, a3, _⟩ := j1
      obtain ⟨b1, b2, b3, _⟩ := j2
      rcases hw with hw | hw <;> rw [hw] <;> omega
    · rcases hw with hw | hw <;> rw [hw] <;> omega
  have L4 : μ (X + 34) 59 ≤ 4 := by
    rcases J with ⟨_, _, _, _, _, j1, _, _⟩ | ⟨_, _, _, _, j1, _⟩ | ⟨_, _, _, _, _, _, _, ⟨j1, _, j2, _⟩, _⟩ <;> omega
  have A : ∀ z, (i < 0 ∨ μ (X + 34) 53 = 0 ∨ (w ≠ 0 ∧ w ≠ 1 ∧ w ≠ 2) → -1 = z) → (0 ≤ i → μ (X + 34) 53 ≠ 0 → w = 0 ∨ w = 1 → (if i < μ (X + 34 + 89) w then μ (X + 34 + 88) (48 * w + i) else -1) = z) → (0 ≤ i → μ (X + 34) 53 ≠ 0 → w = 2 → (if μ (X + 34) 59 ≤ i then -1 else μ (X + 34 + 90) i) = z) → AFT (fun ε μ Q Y => o_X12_bound [(2, X + 34), (0, w), (0, i)] ε μ Q Y) X 0 z ε μ ε μ := fun z z0 z1 z2 => by
    refine ⟨EX.rf, fun _ _ _ => rfl, fun μ2 f2 Q Y K => ?_⟩
    have L : ∀ b, b = z → Q b ε (st μ2 (X + 34) 0 0) := fun b hb => K _ _ (fun c j h => sx_oa (by omega)) (Rel.st0 S G' J P C (fun b j h1 h2 => by rw [st, if_neg h2]; exact f2 b j h1)) sx_same (fun _ => hb) (fun j => sx_oa (by omega))
    have e : ∀ j, μ2 (X + 34) j = μ (X + 34) j := fun j => f2 _ _ (by omega)
    have e88 : ∀ j, μ2 (X + 34 + 88) j = μ (X + 34 + 88) j := fun j => f2 _ _ (by omega)
    have e89 : ∀ j, μ2 (X + 34 + 89) j = μ (X + 34 + 89) j := fun j => f2 _ _ (by omega)
    have e90 : ∀ j, μ2 (X + 34 + 90) j = μ (X + 34 + 90) j := fun j => f2 _ _ (by omega)
    refine sp_X12_bound G'.1 (fun w hw => by rw [e89]; exact L8 w hw) (by rw [e]; exact L4) (fun q => L _ ?_) (fun q q1 q2 => L _ ?_) (fun q q1 q2 => L _ ?_)
    · rw [e] at q; exact z0 q
    · rw [e] at q1; rw [e88, e89]; exact z1 q q1 q2
    · rw [e] at q1; rw [e, e90]; exact z2 q q1 q2
  refine sp_X10_bound S.1 S.2.2.2.2.1 (fun hw => hq _ _ _ (A _ (fun q => ?_) (fun q q1 q2 => ?_) (fun q q1 q2 => by omega))) (fun hw => hq _ _ _ (A _ (fun q => ?_) (fun q q1 q2 => by omega) (fun q q1 q2 => ?_))) (fun a b c => hq _ _ _ (A _ (fun _ => rfl) (fun q q1 q2 => by omega) (fun q q1 q2 => by omega)))
  · by_cases a : i < 0
    · rw [if_pos a]
    · have c0 : μ (X + 20 + 5) w = 0 := by
        rcases J with ⟨_, _, j1, j2, _⟩ | ⟨_, _, j1, _⟩ | ⟨_, j1, _⟩
        · rcases hw with hw | hw <;> rw [hw] <;> assumption
        · omega
        · omega
      rw [if_neg a, c0, if_pos (by omega)]
  · rw [if_neg (show ¬ i < 0 by omega)]
    have T : μ (X + 34 + 89) w = μ (X + 20 + 5) w ∧ μ (X + 20 + 5) w ≤ 48 ∧ ∀ q : Int, 0 ≤ q → q < μ (X + 20 + 5) w → μ (X + 20 + 4) (48 * w + q) = μ (X + 34 + 88) (48 * w + q) := by
      rcases J with ⟨_, _, _, _, j1, _⟩ | ⟨_, _, _, _, _, _, j1, j2⟩ | ⟨_, _, _, j1, j2, j3, j4, _⟩
      · omega
      · rcases hw with hw | hw <;> rw [hw]
        · exact ⟨j1.1, j1.2.2.1, j1.2.2.2⟩
        · exact ⟨j2.1, j2.2.2.1, j2.2.2.2⟩
      · rcases hw with hw | hw <;> rw [hw]
        · exact ⟨by omega, by omega, fun q q0 q1 => by omega⟩
        · exact ⟨by omega, by omega, fun q q0 q1 => by omega⟩
    obtain ⟨t1, t2, t3⟩ := T
    rw [t1]
    by_cases a : i < μ (X + 20 + 5) w
    · rw [if_pos a, if_neg (show ¬ μ (X + 20 + 5) w ≤ i by omega), if_neg (show ¬ 48 ≤ i by omega), t3 i q a]
    · rw [if_neg a, if_pos (show μ (X + 20 + 5) w ≤ i by omega)]
  · by_cases a : i < 0
    · rw [if_pos a]
    · have c0 : μ (X + 20) 8 = 0 := by
        rcases J with ⟨_, j1, _⟩ | ⟨_, _, j1, _⟩ | ⟨_, j1, _⟩ <;> omega
      rw [if_neg a, c0, if_pos (by omega)]
  · rw [if_neg (show ¬ i < 0 by omega)]
    have T : μ (X + 34) 59 = μ (X + 20) 8 ∧ μ (X + 20) 8 ≤ 4 ∧ ∀ q : Int, 0 ≤ q → q < μ (X + 20) 8 → μ (X + 20 + 6) q = μ (X + 34 + 90) q := by
      rcases J with ⟨_, _, _, _, j1, _⟩ | ⟨_, j1, _, _, j2, _⟩ | ⟨_, _, _, _, _, _, _, ⟨j1, j2, j3, j4, _⟩, _⟩
      · omega
      · exact ⟨by omega, by omega, fun q q0 q1 => by omega⟩
      · exact ⟨j1, j3, fun q q0 q1 => (j4 q q0 q1).1⟩
    obtain ⟨t1, t2, t3⟩ := T
    rw [t1]
    by_cases a : μ (X + 20) 8 ≤ i
    · rw [if_pos a, if_pos a]
    · rw [if_neg a, if_neg a, if_neg (by omega), t3 i q (by omega)]
