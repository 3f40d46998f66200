set_option maxHeartbeats 1000000
/-- a number of the verdict and the reference's fraction are one -/
def JQ (μ : m_M) (V : Int) (R : Int → Int) (n : Int) : Prop := 1 ≤ μ (V + 3) (n / 3) ∧ μ (V + 3) (n / 3) ≤ 2147483648 ∧ (W2 (μ (V + 1) n) (μ (V + 2) n)).natAbs < 10 ^ 38 ∧ 0 < R (61 + 2 * n) ∧ ((R (48 + 2 * n)).natAbs : Int) * 2 < PB 12 ∧ ((R (61 + 2 * n)).natAbs : Int) * 2 < PB 12 ∧ W2 (μ (V + 1) n) (μ (V + 2) n) * R (61 + 2 * n) = R (48 + 2 * n) * μ (V + 3) (n / 3)
theorem JQ.same {μ : m_M} {V n a d a' d' : Int} {R : Int → Int} (J : JQ μ V R n) (h : LO (W2 (μ (V + 1) n) (μ (V + 2) n)) (μ (V + 3) (n / 3)) a d) (h' : LO (R (48 + 2 * n)) (R (61 + 2 * n)) a' d') : a = a' ∧ d = d' := by
  obtain ⟨j1, _, _, j4, _, _, j7⟩ := J
  exact LO.same (by omega) j4 h h' j7
theorem JQ.text {μ : m_M} {V n a' d' : Int} {R : Int → Int} {t t' : List Int} (J : JQ μ V R n) (h : ∃ a d, LO (W2 (μ (V + 1) n) (μ (V + 2) n)) (μ (V + 3) (n / 3)) a d ∧ TX a d t) (h' : LO (R (48 + 2 * n)) (R (61 + 2 * n)) a' d') (x : TX a' d' t') : t = t' := by
  obtain ⟨a, d, l, y⟩ := h
  obtain ⟨e1, e2⟩ := J.same l h'
  subst e1 e2
  exact TX.one y x
theorem JQ.small {μ : m_M} {V n : Int} {R : Int → Int} (J : JQ μ V R n) : ∀ a d, LO (R (48 + 2 * n)) (R (61 + 2 * n)) a d → a.natAbs < 10 ^ 39 ∧ d.natAbs < 10 ^ 39 := by
  intro a d h
  have l := LO.div (n := W2 (μ (V + 1) n) (μ (V + 2) n)) (d := μ (V + 3) (n / 3)) (by have := J.1; omega)
  obtain ⟨e1, e2⟩ := J.same l h
  rw [e1, e2] at l
  obtain ⟨j1, j2, j3, _⟩ := J
  obtain ⟨_, _, _, l4, l5⟩ := l
  have p : (10 : Nat) ^ 38 = 100000000000000000000000000000000000000 := by decide
  have p' : (10 : Nat) ^ 39 = 1000000000000000000000000000000000000000 := by decide
  rw [p] at j3
  rw [p']
  exact ⟨by omega, by omega⟩
theorem JQ.keep {μ : m_M} {V n : Int} {R R' : Int → Int} (J : JQ μ V R n) (h : LO (R (48 + 2 * n)) (R (61 + 2 * n)) (R' (48 + 2 * n)) (R' (61 + 2 * n))) : JQ μ V R' n := by
  obtain ⟨j1, j2, j3, j4, j5, j6, j7⟩ := J
  obtain ⟨l1, _, l3, l4, l5⟩ := h
  unfold JQ
  generalize W2 (μ (V + 1) n) (μ (V + 2) n) = N at *
  generalize μ (V + 3) (n / 3) = D at *
  generalize R (48 + 2 * n) = u at *
  generalize R (61 + 2 * n) = l at *
  generalize R' (48 + 2 * n) = u' at *
  generalize R' (61 + 2 * n) = l' at *
  refine ⟨j1, j2, j3, l1, by omega, by omega, ?_⟩
  have e : (N * l' - u' * D) * l = 0 := by
    have : (N * l' - u' * D) * l = (N * l) * l' - (u' * l) * D := by grind
    rw [this, j7, l3]; grind
  rcases Int.mul_eq_zero.mp e with z | z
  · omega
  · omega
theorem JQ.other {μ : m_M} {V n : Int} {R R' : Int → Int} (J : JQ μ V R n) (h : R' (48 + 2 * n) = R (48 + 2 * n)) (h' : R' (61 + 2 * n) = R (61 + 2 * n)) : JQ μ V R' n := by
  unfold JQ
  rw [h, h']
  exact J
