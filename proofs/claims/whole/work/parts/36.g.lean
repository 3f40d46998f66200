/-! ArchYardModel.told(II)I -/
set_option maxRecDepth 20000 in
theorem g_X12_told_225 {Q X : m_Po} {t : Int} {ε : m_E} {μ : m_M} (h : TY ε μ → i32 t → Q t ε μ) : G cd_X12_told Q X 225 [] [(0, t)] ε μ := by
  refine G_run (m_in [41, 225]) 24 _ _ _ _ ?_
  show m_ty [] [(0, t)] ε μ → Q t ε μ
  intro hty
  replace h := h hty.1 (hty.2.2 _ (List.mem_of_getElem? (i := 0) rfl))
  exact h
set_option maxRecDepth 20000 in
theorem g_X12_told_41 {Q X : m_Po} {v0 v1 v2 t t_1 : Int} {ε : m_E} {μ : m_M} (h : TY ε μ → i32 v1 → i32 v2 → i32 t_1 → kd ε t = 11 ∧ ∀ μ_1 : m_M, μ_1 = st μ t 0 t_1 → kd ε v0 = 11 ∧ ((μ_1 v0 0) ≤ 0 → (v2 = 0 → kd ε (fn ε v0 5) = 100 ∧ (0 : Int) ≤ v1 ∧ v1 < ln ε (fn ε v0 5) ∧ Q (μ_1 (fn ε v0 5) v1) ε μ_1) ∧ (v2 = 1 → kd ε (fn ε v0 6) = 100 ∧ (0 : Int) ≤ v1 ∧ v1 < ln ε (fn ε v0 6) ∧ Q (μ_1 (fn ε v0 6) v1) ε μ_1) ∧ (v2 = 2 → kd ε (fn ε v0 9) = 100 ∧ (0 : Int) ≤ v1 ∧ v1 < ln ε (fn ε v0 9) ∧ Q (μ_1 (fn ε v0 9) v1) ε μ_1) ∧ (v2 = 3 → kd ε (fn ε v0 10) = 100 ∧ (0 : Int) ≤ v1 ∧ v1 < ln ε (fn ε v0 10) ∧ Q (μ_1 (fn ε v0 10) v1) ε μ_1) ∧ (v2 = 4 → kd ε (fn ε v0 11) = 100 ∧ (0 : Int) ≤ v1 ∧ v1 < ln ε (fn ε v0 11) ∧ Q (μ_1 (fn ε v0 11) v1) ε μ_1) ∧ (v2 = 5 → kd ε (fn ε v0 12) = 101 ∧ (0 : Int) ≤ w32 (2 * v1) ∧ w32 (2 * v1) < ln ε (fn ε v0 12) ∧ Q (w32 (μ_1 (fn ε v0 12) (w32 (2 * v1)))) ε μ_1) ∧ (v2 = 6 → kd ε (fn ε v0 13) = 101 ∧ (0 : Int) ≤ w32 (2 * v1) ∧ w32 (2 * v1) < ln ε (fn ε v0 13) ∧ Q (w32 (μ_1 (fn ε v0 13) (w32 (2 * v1)))) ε μ_1) ∧ (v2 = 7 → kd ε (fn ε v0 12) = 101 ∧ (0 : Int) ≤ w32 ((w32 (2 * v1)) + 1) ∧ w32 ((w32 (2 * v1)) + 1) < ln ε (fn ε v0 12) ∧ Q (w32 (μ_1 (fn ε v0 12) (w32 ((w32 (2 * v1)) + 1)))) ε μ_1) ∧ (v2 = 8 → kd ε (fn ε v0 13) = 101 ∧ (0 : Int) ≤ w32 ((w32 (2 * v1)) + 1) ∧ w32 ((w32 (2 * v1)) + 1) < ln ε (fn ε v0 13) ∧ Q (w32 (μ_1 (fn ε v0 13) (w32 ((w32 (2 * v1)) + 1)))) ε μ_1) ∧ (v2 < 0 ∨ 8 < v2 → (((Int.tmod v2 2) ≠ (1 : Int) → kd ε (fn ε v0 8) = 100 ∧ (0 : Int) ≤ w32 ((w32 (12 * v1)) + (w32 (Int.tdiv (w32 (v2 - 9)) 2))) ∧ w32 ((w32 (12 * v1)) + (w32 (Int.tdiv (w32 (v2 - 9)) 2))) < ln ε (fn ε v0 8)) ∧ ((Int.tmod v2 2) = (1 : Int) → kd ε (fn ε v0 7) = 100 ∧ (0 : Int) ≤ w32 ((w32 (12 * v1)) + (w32 (Int.tdiv (w32 (v2 - 9)) 2))) ∧ w32 ((w32 (12 * v1)) + (w32 (Int.tdiv (w32 (v2 - 9)) 2))) < ln ε (fn ε v0 7))) ∧ ∀ t_2 : Int, t_2 = (if (Int.tmod v2 2) = (1 : Int) then μ_1 (fn ε v0 7) (w32 ((w32 (12 * v1)) + (w32 (Int.tdiv (w32 (v2 - 9)) 2)))) else μ_1 (fn ε v0 8) (w32 ((w32 (12 * v1)) + (w32 (Int.tdiv (w32 (v2 - 9)) 2))))) → Q t_2 ε μ_1)) ∧ (0 < (μ_1 v0 0) → Q 0 ε μ_1)) : G cd_X12_told Q X 41 [(0, (2, v0)), (1, (0, v1)), (2, (0, v2))] [(0, t_1), (2, t)] ε μ := by
  refine G_run (m_in [41, 225]) 24 _ _ _ _ ?_
  show m_ty [(0, (2, v0)), (1, (0, v1)), (2, (0, v2))] [(0, t_1), (2, t)] ε μ → (kd ε t = 11) ∧ ∀ μ_1 : m_M, μ_1 = st μ t 0 t_1 → (kd ε v0 = 11) ∧ ((μ_1 v0 0) ≤ 0 → (m_ty [(0, (2, v0)), (1, (0, v1)), (2, (0, v2))] [] ε μ_1 → ((v2 = 0 → (m_ty [(0, (2, v0)), (1, (0, v1))] [] ε μ_1 → (kd ε v0 = 11) ∧ (kd ε (fn ε v0 5) = 100) ∧ ((0 : Int) ≤ v1 ∧ v1 < ln ε (fn ε v0 5)) ∧ Q (μ_1 (fn ε v0 5) v1) ε μ_1)) ∧ (v2 = 1 → (m_ty [(0, (2, v0)), (1, (0, v1))] [] ε μ_1 → (kd ε v0 = 11) ∧ (kd ε (fn ε v0 6) = 100) ∧ ((0 : Int) ≤ v1 ∧ v1 < ln ε (fn ε v0 6)) ∧ Q (μ_1 (fn ε v0 6) v1) ε μ_1)) ∧ (v2 = 2 → (m_ty [(0, (2, v0)), (1, (0, v1))] [] ε μ_1 → (kd ε v0 = 11) ∧ (kd ε (fn ε v0 9) = 100) ∧ ((0 : Int) ≤ v1 ∧ v1 < ln ε (fn ε v0 9)) ∧ Q (μ_1 (fn ε v0 9) v1) ε μ_1)) ∧ (v2 = 3 → (m_ty [(0, (2, v0)), (1, (0, v1))] [] ε μ_1 → (kd ε v0 = 11) ∧ (kd ε (fn ε v0 10) = 100) ∧ ((0 : Int) ≤ v1 ∧ v1 < ln ε (fn ε v0 10)) ∧ Q (μ_1 (fn ε v0 10) v1) ε μ_1)) ∧ (v2 = 4 → (m_ty [(0, (2, v0)), (1, (0, v1))] [] ε μ_1 → (kd ε v0 = 11) ∧ (kd ε (fn ε v0 11) = 100) ∧ ((0 : Int) ≤ v1 ∧ v1 < ln ε (fn ε v0 11)) ∧ Q (μ_1 (fn ε v0 11) v1) ε μ_1)) ∧ (v2 = 5 → (m_ty [(0, (2, v0)), (1, (0, v1))] [] ε μ_1 → (kd ε v0 = 11) ∧ (kd ε (fn ε v0 12) = 101) ∧ ((0 : Int) ≤ w32 (2 * v1) ∧ w32 (2 * v1) < ln ε (fn ε v0 12)) ∧ Q (w32 (μ_1 (fn ε v0 12) (w32 (2 * v1)))) ε μ_1)) ∧ (v2 = 6 → (m_ty [(0, (2, v0)), (1, (0, v1))] [] ε μ_1 → (kd ε v0 = 11) ∧ (kd ε (fn ε v0 13) = 101) ∧ ((0 : Int) ≤ w32 (2 * v1) ∧ w32 (2 * v1) < ln ε (fn ε v0 13)) ∧ Q (w32 (μ_1 (fn ε v0 13) (w32 (2 * v1)))) ε μ_1)) ∧ (v2 = 7 → (m_ty [(0, (2, v0)), (1, (0, v1))] [] ε μ_1 → (kd ε v0 = 11) ∧ (kd ε (fn ε v0 12) = 101) ∧ ((0 : Int) ≤ w32 ((w32 (2 * v1)) + 1) ∧ w32 ((w32 (2 * v1)) + 1) < ln ε (fn ε v0 12)) ∧ Q (w32 (μ_1 (fn ε v0 12) (w32 ((w32 (2 * v1)) + 1)))) ε μ_1)) ∧ (v2 = 8 → (m_ty [(0, (2, v0)), (1, (0, v1))] [] ε μ_1 → (kd ε v0 = 11) ∧ (kd ε (fn ε v0 13) = 101) ∧ ((0 : Int) ≤ w32 ((w32 (2 * v1)) + 1) ∧ w32 ((w32 (2 * v1)) + 1) < ln ε (fn ε v0 13)) ∧ Q (w32 (μ_1 (fn ε v0 13) (w32 ((w32 (2 * v1)) + 1)))) ε μ_1)) ∧ True) ∧ (v2 < 0 ∨ 8 < v2 → (m_ty [(0, (2, v0)), (1, (0, v1)), (2, (0, v2))] [] ε μ_1 → (2 : Int) ≠ 0 ∧ ((Int.tmod v2 2) ≠ (1 : Int) → (m_ty [(0, (2, v0)), (1, (0, v1)), (2, (0, v2))] [] ε μ_1 → (kd ε v0 = 11) ∧ ((2 : Int) ≠ 0) ∧ (kd ε (fn ε v0 8) = 100) ∧ ((0 : Int) ≤ w32 ((w32 (12 * v1)) + (w32 (Int.tdiv (w32 (v2 - 9)) 2))) ∧ w32 ((w32 (12 * v1)) + (w32 (Int.tdiv (w32 (v2 - 9)) 2))) < ln ε (fn ε v0 8)) ∧ G cd_X12_told Q X 225 [] [(0, μ_1 (fn ε v0 8) (w32 ((w32 (12 * v1)) + (w32 (Int.tdiv (w32 (v2 - 9)) 2)))))] ε μ_1)) ∧ ((Int.tmod v2 2) = (1 : Int) → (m_ty [(0, (2, v0)), (1, (0, v1)), (2, (0, v2))] [] ε μ_1 → (kd ε v0 = 11) ∧ ((2 : Int) ≠ 0) ∧ (kd ε (fn ε v0 7) = 100) ∧ ((0 : Int) ≤ w32 ((w32 (12 * v1)) + (w32 (Int.tdiv (w32 (v2 - 9)) 2))) ∧ w32 ((w32 (12 * v1)) + (w32 (Int.tdiv (w32 (v2 - 9)) 2))) < ln ε (fn ε v0 7)) ∧ G cd_X12_told Q X 225 [] [(0, μ_1 (fn ε v0 7) (w32 ((w32 (12 * v1)) + (w32 (Int.tdiv (w32 (v2 - 9)) 2)))))] ε μ_1)))))) ∧ (0 < (μ_1 v0 0) → (m_ty [] [] ε μ_1 → Q 0 ε μ_1))
  intro hty
  replace h := h hty.1 (hty.2.1 _ (List.mem_of_getElem? (i := 1) rfl)) (hty.2.1 _ (List.mem_of_getElem? (i := 2) rfl)) (hty.2.2 _ (List.mem_of_getElem? (i := 0) rfl))
  obtain ⟨k1, h⟩ := h
  refine And.intro k1 ?_
  intro μ_1 e_μ_1
  replace h := h μ_1 e_μ_1
  obtain ⟨k2, h⟩ := h
  refine And.intro k2 ?_
  obtain ⟨ha, hb⟩ := h
  refine And.intro (fun c38 => ?_) (fun c38 => ?_)
  · replace h := ha c38
    clear ha hb
    intro _
    obtain ⟨h0, h1, h2, h3, h4, h5, h6, h7, h8, h9⟩ := h
    refine And.intro (And.intro (fun c0 => ?_) (And.intro (fun c1 => ?_) (And.intro (fun c2 => ?_) (And.intro (fun c3 => ?_) (And.intro (fun c4 => ?_) (And.intro (fun c5 => ?_) (And.intro (fun c6 => ?_) (And.intro (fun c7 => ?_) (And.intro (fun c8 => ?_) trivial))))))))) (fun c9 => ?_)
    · replace h := h0 c0
      intro _
      refine And.intro k2 ?_
      obtain ⟨k3, h⟩ := h
      refine And.intro k3 ?_
      obtain ⟨k4, h⟩ := h
      obtain ⟨k5, h⟩ := h
      refine And.intro (And.intro k4 k5) ?_
      exact h
    · replace h := h1 c1
      intro _
      refine And.intro k2 ?_
      obtain ⟨k6, h⟩ := h
      refine And.intro k6 ?_
      obtain ⟨k7, h⟩ := h
      obtain ⟨k8, h⟩ := h
      refine And.intro (And.intro k7 k8) ?_
      exact h
    · replace h := h2 c2
      intro _
      refine And.intro k2 ?_
      obtain ⟨k9, h⟩ := h
      refine And.intro k9 ?_
      obtain ⟨k10, h⟩ := h
      obtain ⟨k11, h⟩ := h
      refine And.intro (And.intro k10 k11) ?_
      exact h
    · replace h := h3 c3
      intro _
      refine And.intro k2 ?_
      obtain ⟨k12, h⟩ := h
      refine And.intro k12 ?_
      obtain ⟨k13, h⟩ := h
      obtain ⟨k14, h⟩ := h
      refine And.intro (And.intro k13 k14) ?_
      exact h
    · replace h := h4 c4
      intro _
      refine And.intro k2 ?_
      obtain ⟨k15, h⟩ := h
      refine And.intro k15 ?_
      obtain ⟨k16, h⟩ := h
      obtain ⟨k17, h⟩ := h
      refine And.intro (And.intro k16 k17) ?_
      exact h
    · replace h := h5 c5
      intro _
      refine And.intro k2 ?_
      obtain ⟨k18, h⟩ := h
      refine And.intro k18 ?_
      obtain ⟨k19, h⟩ := h
      obtain ⟨k20, h⟩ := h
      refine And.intro (And.intro k19 k20) ?_
      exact h
    · replace h := h6 c6
      intro _
      refine And.intro k2 ?_
      obtain ⟨k21, h⟩ := h
      refine And.intro k21 ?_
      obtain ⟨k22, h⟩ := h
      obtain ⟨k23, h⟩ := h
      refine And.intro (And.intro k22 k23) ?_
      exact h
    · replace h := h7 c7
      intro _
      refine And.intro k2 ?_
      obtain ⟨k24, h⟩ := h
      refine And.intro k24 ?_
      obtain ⟨k25, h⟩ := h
      obtain ⟨k26, h⟩ := h
      refine And.intro (And.intro k25 k26) ?_
      exact h
    · replace h := h8 c8
      intro _
      refine And.intro k2 ?_
      obtain ⟨k27, h⟩ := h
      refine And.intro k27 ?_
      obtain ⟨k28, h⟩ := h
      obtain ⟨k29, h⟩ := h
      refine And.intro (And.intro k28 k29) ?_
      exact h
    · replace h := h9 c9
      intro _
      refine And.intro (by decide) ?_
      obtain ⟨hc, hj⟩ := h
      obtain ⟨k37, k38⟩ := hc
      refine And.intro (fun c29 => ?_) (fun c29 => ?_)
      · replace k37 := k37 c29
        intro _
        obtain ⟨k31, k32, k33⟩ := k37
        refine And.intro k2 ?_
        refine And.intro (by decide) ?_
        refine And.intro k31 ?_
        refine And.intro (And.intro k32 k33) ?_
        exact g_X12_told_225 (fun _ _ => (hj _ (((if_neg (c29)).trans rfl)).symm))
      · replace k38 := k38 c29
        intro _
        obtain ⟨k34, k35, k36⟩ := k38
        refine And.intro k2 ?_
        refine And.intro (by decide) ?_
        refine And.intro k34 ?_
        refine And.intro (And.intro k35 k36) ?_
        exact g_X12_told_225 (fun _ _ => (hj _ (((if_pos c29).trans rfl)).symm))
  · replace h := hb c38
    clear ha hb
    intro _
    exact h
set_option maxRecDepth 20000 in
theorem g_X12_told_0 {Q X : m_Po} {v0 v1 v2 : Int} {ε : m_E} {μ : m_M} (h : TY ε μ → i32 v1 → i32 v2 → ((0 ≤ v1 → kd ε v0 = 11 ∧ (v1 < (μ v0 14) → (0 ≤ v2 → kd ε (fn ε v0 6) = 100 ∧ (0 : Int) ≤ v1 ∧ v1 < ln ε (fn ε v0 6))))) ∧ ∀ t : Int, t = (if v1 < 0 then 1 else if v1 < (μ v0 14) then if v2 < 0 then 2 else if v2 < (w32 (9 + (w32 (2 * (μ (fn ε v0 6) v1))))) then 0 else 2 else 1) → kd ε v0 = 11 ∧ ∀ μ_1 : m_M, μ_1 = st μ v0 0 t → kd ε v0 = 11 ∧ ((μ_1 v0 0) ≤ 0 → (v2 = 0 → kd ε (fn ε v0 5) = 100 ∧ (0 : Int) ≤ v1 ∧ v1 < ln ε (fn ε v0 5) ∧ Q (μ_1 (fn ε v0 5) v1) ε μ_1) ∧ (v2 = 1 → kd ε (fn ε v0 6) = 100 ∧ (0 : Int) ≤ v1 ∧ v1 < ln ε (fn ε v0 6) ∧ Q (μ_1 (fn ε v0 6) v1) ε μ_1) ∧ (v2 = 2 → kd ε (fn ε v0 9) = 100 ∧ (0 : Int) ≤ v1 ∧ v1 < ln ε (fn ε v0 9) ∧ Q (μ_1 (fn ε v0 9) v1) ε μ_1) ∧ (v2 = 3 → kd ε (fn ε v0 10) = 100 ∧ (0 : Int) ≤ v1 ∧ v1 < ln ε (fn ε v0 10) ∧ Q (μ_1 (fn ε v0 10) v1) ε μ_1) ∧ (v2 = 4 → kd ε (fn ε v0 11) = 100 ∧ (0 : Int) ≤ v1 ∧ v1 < ln ε (fn ε v0 11) ∧ Q (μ_1 (fn ε v0 11) v1) ε μ_1) ∧ (v2 = 5 → kd ε (fn ε v0 12) = 101 ∧ (0 : Int) ≤ w32 (2 * v1) ∧ w32 (2 * v1) < ln ε (fn ε v0 12) ∧ Q (w32 (μ_1 (fn ε v0 12) (w32 (2 * v1)))) ε μ_1) ∧ (v2 = 6 → kd ε (fn ε v0 13) = 101 ∧ (0 : Int) ≤ w32 (2 * v1) ∧ w32 (2 * v1) < ln ε (fn ε v0 13) ∧ Q (w32 (μ_1 (fn ε v0 13) (w32 (2 * v1)))) ε μ_1) ∧ (v2 = 7 → kd ε (fn ε v0 12) = 101 ∧ (0 : Int) ≤ w32 ((w32 (2 * v1)) + 1) ∧ w32 ((w32 (2 * v1)) + 1) < ln ε (fn ε v0 12) ∧ Q (w32 (μ_1 (fn ε v0 12) (w32 ((w32 (2 * v1)) + 1)))) ε μ_1) ∧ (v2 = 8 → kd ε (fn ε v0 13) = 101 ∧ (0 : Int) ≤ w32 ((w32 (2 * v1)) + 1) ∧ w32 ((w32 (2 * v1)) + 1) < ln ε (fn ε v0 13) ∧ Q (w32 (μ_1 (fn ε v0 13) (w32 ((w32 (2 * v1)) + 1)))) ε μ_1) ∧ (v2 < 0 ∨ 8 < v2 → (((Int.tmod v2 2) ≠ (1 : Int) → kd ε (fn ε v0 8) = 100 ∧ (0 : Int) ≤ w32 ((w32 (12 * v1)) + (w32 (Int.tdiv (w32 (v2 - 9)) 2))) ∧ w32 ((w32 (12 * v1)) + (w32 (Int.tdiv (w32 (v2 - 9)) 2))) < ln ε (fn ε v0 8)) ∧ ((Int.tmod v2 2) = (1 : Int) → kd ε (fn ε v0 7) = 100 ∧ (0 : Int) ≤ w32 ((w32 (12 * v1)) + (w32 (Int.tdiv (w32 (v2 - 9)) 2))) ∧ w32 ((w32 (12 * v1)) + (w32 (Int.tdiv (w32 (v2 - 9)) 2))) < ln ε (fn ε v0 7))) ∧ ∀ t_1 : Int, t_1 = (if (Int.tmod v2 2) = (1 : Int) then μ_1 (fn ε v0 7) (w32 ((w32 (12 * v1)) + (w32 (Int.tdiv (w32 (v2 - 9)) 2)))) else μ_1 (fn ε v0 8) (w32 ((w32 (12 * v1)) + (w32 (Int.tdiv (w32 (v2 - 9)) 2))))) → Q t_1 ε μ_1)) ∧ (0 < (μ_1 v0 0) → Q 0 ε μ_1)) : G cd_X12_told Q X 0 [(0, (2, v0)), (1, (0, v1)), (2, (0, v2))] [] ε μ := by
  refine G_run (m_in [41, 225]) 24 _ _ _ _ ?_
  show m_ty [(0, (2, v0)), (1, (0, v1)), (2, (0, v2))] [] ε μ → (v1 < 0 → (m_ty [(0, (2, v0)), (1, (0, v1)), (2, (0, v2))] [(2, v0)] ε μ → G cd_X12_told Q X 41 [(0, (2, v0)), (1, (0, v1)), (2, (0, v2))] [(0, 1), (2, v0)] ε μ)) ∧ (0 ≤ v1 → (m_ty [(0, (2, v0)), (1, (0, v1)), (2, (0, v2))] [(2, v0)] ε μ → (kd ε v0 = 11) ∧ (v1 < (μ v0 14) → (m_ty [(0, (2, v0)), (1, (0, v1)), (2, (0, v2))] [(2, v0)] ε μ → (v2 < 0 → (m_ty [(0, (2, v0)), (1, (0, v1)), (2, (0, v2))] [(2, v0)] ε μ → G cd_X12_told Q X 41 [(0, (2, v0)), (1, (0, v1)), (2, (0, v2))] [(0, 2), (2, v0)] ε μ)) ∧ (0 ≤ v2 → (m_ty [(0, (2, v0)), (1, (0, v1)), (2, (0, v2))] [(2, v0)] ε μ → (kd ε v0 = 11) ∧ (kd ε (fn ε v0 6) = 100) ∧ ((0 : Int) ≤ v1 ∧ v1 < ln ε (fn ε v0 6)) ∧ (v2 < (w32 (9 + (w32 (2 * (μ (fn ε v0 6) v1))))) → (m_ty [(0, (2, v0)), (1, (0, v1)), (2, (0, v2))] [(2, v0)] ε μ → G cd_X12_told Q X 41 [(0, (2, v0)), (1, (0, v1)), (2, (0, v2))] [(0, 0), (2, v0)] ε μ)) ∧ ((w32 (9 + (w32 (2 * (μ (fn ε v0 6) v1))))) ≤ v2 → (m_ty [(0, (2, v0)), (1, (0, v1)), (2, (0, v2))] [(2, v0)] ε μ → G cd_X12_told Q X 41 [(0, (2, v0)), (1, (0, v1)), (2, (0, v2))] [(0, 2), (2, v0)] ε μ)))))) ∧ ((μ v0 14) ≤ v1 → (m_ty [(0, (2, v0)), (1, (0, v1)), (2, (0, v2))] [(2, v0)] ε μ → G cd_X12_told Q X 41 [(0, (2, v0)), (1, (0, v1)), (2, (0, v2))] [(0, 1), (2, v0)] ε μ))))
  intro hty
  replace h := h hty.1 (hty.2.1 _ (List.mem_of_getElem? (i := 1) rfl)) (hty.2.1 _ (List.mem_of_getElem? (i := 2) rfl))
  obtain ⟨hc, hj⟩ := h
  refine And.intro (fun c0 => ?_) (fun c0 => ?_)
  · intro _
    exact g_X12_told_41 (fun _ _ _ _ => (hj _ (((if_pos c0).trans rfl)).symm))
  · replace hc := hc c0
    intro _
    obtain ⟨k2, k48⟩ := hc
    refine And.intro k2 ?_
    refine And.intro (fun c2 => ?_) (fun c2 => ?_)
    · replace k48 := k48 c2
      intro _
      refine And.intro (fun c3 => ?_) (fun c3 => ?_)
      · intro _
        exact g_X12_told_41 (fun _ _ _ _ => (hj _ (((if_neg (Int.not_lt.mpr c0)).trans ((if_pos c2).trans ((if_pos c3).trans rfl)))).symm))
      · replace k48 := k48 c3
        intro _
        obtain ⟨k5, k6, k7⟩ := k48
        refine And.intro k2 ?_
        refine And.intro k5 ?_
        refine And.intro (And.intro k6 k7) ?_
        refine And.intro (fun c7 => ?_) (fun c7 => ?_)
        · intro _
          exact g_X12_told_41 (fun _ _ _ _ => (hj _ (((if_neg (Int.not_lt.mpr c0)).trans ((if_pos c2).trans ((if_neg (Int.not_lt.mpr c3)).trans ((if_pos c7).trans rfl))))).symm))
        · intro _
          exact g_X12_told_41 (fun _ _ _ _ => (hj _ (((if_neg (Int.not_lt.mpr c0)).trans ((if_pos c2).trans ((if_neg (Int.not_lt.mpr c3)).trans ((if_neg (Int.not_lt.mpr c7)).trans rfl))))).symm))
    · intro _
      exact g_X12_told_41 (fun _ _ _ _ => (hj _ (((if_neg (Int.not_lt.mpr c0)).trans ((if_neg (Int.not_lt.mpr c2)).trans rfl))).symm))
theorem e_X12_told {Q X : m_Po} {v0 v1 v2 : Int} {ε : m_E} {μ : m_M} (h : TY ε μ → i32 v1 → i32 v2 → ((0 ≤ v1 → kd ε v0 = 11 ∧ (v1 < (μ v0 14) → (0 ≤ v2 → kd ε (fn ε v0 6) = 100 ∧ (0 : Int) ≤ v1 ∧ v1 < ln ε (fn ε v0 6))))) ∧ ∀ t : Int, t = (if v1 < 0 then 1 else if v1 < (μ v0 14) then if v2 < 0 then 2 else if v2 < (w32 (9 + (w32 (2 * (μ (fn ε v0 6) v1))))) then 0 else 2 else 1) → kd ε v0 = 11 ∧ ∀ μ_1 : m_M, μ_1 = st μ v0 0 t → kd ε v0 = 11 ∧ ((μ_1 v0 0) ≤ 0 → (v2 = 0 → kd ε (fn ε v0 5) = 100 ∧ (0 : Int) ≤ v1 ∧ v1 < ln ε (fn ε v0 5) ∧ Q (μ_1 (fn ε v0 5) v1) ε μ_1) ∧ (v2 = 1 → kd ε (fn ε v0 6) = 100 ∧ (0 : Int) ≤ v1 ∧ v1 < ln ε (fn ε v0 6) ∧ Q (μ_1 (fn ε v0 6) v1) ε μ_1) ∧ (v2 = 2 → kd ε (fn ε v0 9) = 100 ∧ (0 : Int) ≤ v1 ∧ v1 < ln ε (fn ε v0 9) ∧ Q (μ_1 (fn ε v0 9) v1) ε μ_1) ∧ (v2 = 3 → kd ε (fn ε v0 10) = 100 ∧ (0 : Int) ≤ v1 ∧ v1 < ln ε (fn ε v0 10) ∧ Q (μ_1 (fn ε v0 10) v1) ε μ_1) ∧ (v2 = 4 → kd ε (fn ε v0 11) = 100 ∧ (0 : Int) ≤ v1 ∧ v1 < ln ε (fn ε v0 11) ∧ Q (μ_1 (fn ε v0 11) v1) ε μ_1) ∧ (v2 = 5 → kd ε (fn ε v0 12) = 101 ∧ (0 : Int) ≤ w32 (2 * v1) ∧ w32 (2 * v1) < ln ε (fn ε v0 12) ∧ Q (w32 (μ_1 (fn ε v0 12) (w32 (2 * v1)))) ε μ_1) ∧ (v2 = 6 → kd ε (fn ε v0 13) = 101 ∧ (0 : Int) ≤ w32 (2 * v1) ∧ w32 (2 * v1) < ln ε (fn ε v0 13) ∧ Q (w32 (μ_1 (fn ε v0 13) (w32 (2 * v1)))) ε μ_1) ∧ (v2 = 7 → kd ε (fn ε v0 12) = 101 ∧ (0 : Int) ≤ w32 ((w32 (2 * v1)) + 1) ∧ w32 ((w32 (2 * v1)) + 1) < ln ε (fn ε v0 12) ∧ Q (w32 (μ_1 (fn ε v0 12) (w32 ((w32 (2 * v1)) + 1)))) ε μ_1) ∧ (v2 = 8 → kd ε (fn ε v0 13) = 101 ∧ (0 : Int) ≤ w32 ((w32 (2 * v1)) + 1) ∧ w32 ((w32 (2 * v1)) + 1) < ln ε (fn ε v0 13) ∧ Q (w32 (μ_1 (fn ε v0 13) (w32 ((w32 (2 * v1)) + 1)))) ε μ_1) ∧ (v2 < 0 ∨ 8 < v2 → (((Int.tmod v2 2) ≠ (1 : Int) → kd ε (fn ε v0 8) = 100 ∧ (0 : Int) ≤ w32 ((w32 (12 * v1)) + (w32 (Int.tdiv (w32 (v2 - 9)) 2))) ∧ w32 ((w32 (12 * v1)) + (w32 (Int.tdiv (w32 (v2 - 9)) 2))) < ln ε (fn ε v0 8)) ∧ ((Int.tmod v2 2) = (1 : Int) → kd ε (fn ε v0 7) = 100 ∧ (0 : Int) ≤ w32 ((w32 (12 * v1)) + (w32 (Int.tdiv (w32 (v2 - 9)) 2))) ∧ w32 ((w32 (12 * v1)) + (w32 (Int.tdiv (w32 (v2 - 9)) 2))) < ln ε (fn ε v0 7))) ∧ ∀ t_1 : Int, t_1 = (if (Int.tmod v2 2) = (1 : Int) then μ_1 (fn ε v0 7) (w32 ((w32 (12 * v1)) + (w32 (Int.tdiv (w32 (v2 - 9)) 2)))) else μ_1 (fn ε v0 8) (w32 ((w32 (12 * v1)) + (w32 (Int.tdiv (w32 (v2 - 9)) 2))))) → Q t_1 ε μ_1)) ∧ (0 < (μ_1 v0 0) → Q 0 ε μ_1)) : o_X12_told [(2, v0), (0, v1), (0, v2)] ε μ Q X := And.intro rfl (g_X12_told_0 h)
/-! ArchYardModel.arch(I)I -/
set_option maxRecDepth 20000 in
theorem g_X12_arch_120 {Q X : m_Po} {v0 v2 t t_1 t_2 : Int} {ε : m_E} {μ : m_M} (h : TY ε μ → i32 v2 → i32 t_1 → i32 t_2 → kd ε t = 100 ∧ (0 : Int) ≤ t_1 ∧ t_1 < ln ε t ∧ ∀ μ_1 : m_M, μ_1 = st μ t t_1 t_2 → kd ε v0 = 11 ∧ ∀ μ_2 : m_M, μ_2 = st μ_1 v0 27 (w32 ((μ_1 v0 27) + 1)) → Q v2 ε μ_2) : G cd_X12_arch Q X 120 [(0, (2, v0)), (2, (0, v2))] [(0, t_2), (0, t_1), (2, t)] ε μ := by
  refine G_run (m_in [30, 56, 120]) 14 _ _ _ _ ?_
  show m_ty [(0, (2, v0)), (2, (0, v2))] [(0, t_2), (0, t_1), (2, t)] ε μ → (kd ε t = 100) ∧ ((0 : Int) ≤ t_1 ∧ t_1 < ln ε t) ∧ ∀ μ_1 : m_M, μ_1 = st μ t t_1 t_2 → (kd ε v0 = 11) ∧ (kd ε v0 = 11) ∧ ∀ μ_2 : m_M, μ_2 = st μ_1 v0 27 (w32 ((μ_1 v0 27) + 1)) → Q v2 ε μ_2
  intro hty
  replace h := h hty.1 (hty.2.1 _ (List.mem_of_getElem? (i := 1) rfl)) (hty.2.2 _ (List.mem_of_getElem? (i := 1) rfl)) (hty.2.2 _ (List.mem_of_getElem? (i := 0) rfl))
  obtain ⟨k1, h⟩ := h
  refine And.intro k1 ?_
  obtain ⟨k2, h⟩ := h
  obtain ⟨k3, h⟩ := h
  refine And.intro (And.intro k2 k3) ?_
  intro μ_1 e_μ_1
  replace h := h μ_1 e_μ_1
  obtain ⟨k4, h⟩ := h
  refine And.intro k4 ?_
  refine And.intro k4 ?_
  intro μ_2 e_μ_2
  replace h := h μ_2 e_μ_2
  exact h
set_option maxRecDepth 20000 in
theorem g_X12_arch_56 {Q X : m_Po} {v0 v2 v3 : Int} {ε : m_E} {μ : m_M} (h : TY ε μ → i32 v2 → i32 v3 → ((10 : Int) ≤ v3 → kd ε v0 = 11 ∧ kd ε (fn ε v0 19) = 103 ∧ (0 : Int) ≤ w32 (2 * v2) ∧ w32 (2 * v2) < ln ε (fn ε v0 19) ∧ ∀ μ_1 : m_M, μ_1 = st μ (fn ε v0 19) (w32 (2 * v2)) 0 → (0 : Int) ≤ w32 ((w32 (2 * v2)) + 1) ∧ w32 ((w32 (2 * v2)) + 1) < ln ε (fn ε v0 19) ∧ ∀ μ_2 : m_M, μ_2 = st μ_1 (fn ε v0 19) (w32 ((w32 (2 * v2)) + 1)) 0 → kd ε (fn ε v0 21) = 100 ∧ (0 : Int) ≤ v2 ∧ v2 < ln ε (fn ε v0 21) ∧ ∀ μ_3 : m_M, μ_3 = st μ_2 (fn ε v0 21) v2 0 → kd ε (fn ε v0 25) = 100 ∧ v2 < ln ε (fn ε v0 25) ∧ ∀ μ_4 : m_M, μ_4 = st μ_3 (fn ε v0 25) v2 1 → kd ε (fn ε v0 26) = 100 ∧ (0 : Int) ≤ v2 ∧ v2 < ln ε (fn ε v0 26) ∧ ∀ μ_5 : m_M, μ_5 = st μ_4 (fn ε v0 26) v2 2 → kd ε v0 = 11 ∧ ∀ μ_6 : m_M, μ_6 = st μ_5 v0 27 (w32 ((μ_5 v0 27) + 1)) → Q v2 ε μ_6) ∧ (v3 < (10 : Int) → kd ε v0 = 11 ∧ kd ε (fn ε v0 18) = 100 ∧ (0 : Int) ≤ w32 ((w32 (10 * v2)) + v3) ∧ w32 ((w32 (10 * v2)) + v3) < ln ε (fn ε v0 18) ∧ ∀ μ_7 : m_M, μ_7 = st μ (fn ε v0 18) (w32 ((w32 (10 * v2)) + v3)) (-1) → ∀ v3_1 : Int, v3_1 = w32 (v3 + 1) → G cd_X12_arch Q X 56 [(0, (2, v0)), (2, (0, v2)), (3, (0, v3_1))] [] ε μ_7)) : G cd_X12_arch Q X 56 [(0, (2, v0)), (2, (0, v2)), (3, (0, v3))] [] ε μ := by
  refine G_run (m_in [30, 56, 120]) 14 _ _ _ _ ?_
  show m_ty [(0, (2, v0)), (2, (0, v2)), (3, (0, v3))] [] ε μ → ((10 : Int) ≤ v3 → (m_ty [(0, (2, v0)), (2, (0, v2))] [] ε μ → (kd ε v0 = 11) ∧ (kd ε (fn ε v0 19) = 103) ∧ ((0 : Int) ≤ w32 (2 * v2) ∧ w32 (2 * v2) < ln ε (fn ε v0 19)) ∧ (0 = 0 ∨ 0 = 1) ∧ ∀ μ_1 : m_M, μ_1 = st μ (fn ε v0 19) (w32 (2 * v2)) 0 → (kd ε v0 = 11) ∧ (kd ε (fn ε v0 19) = 103) ∧ ((0 : Int) ≤ w32 ((w32 (2 * v2)) + 1) ∧ w32 ((w32 (2 * v2)) + 1) < ln ε (fn ε v0 19)) ∧ (0 = 0 ∨ 0 = 1) ∧ ∀ μ_2 : m_M, μ_2 = st μ_1 (fn ε v0 19) (w32 ((w32 (2 * v2)) + 1)) 0 → (kd ε v0 = 11) ∧ (kd ε (fn ε v0 21) = 100) ∧ ((0 : Int) ≤ v2 ∧ v2 < ln ε (fn ε v0 21)) ∧ ∀ μ_3 : m_M, μ_3 = st μ_2 (fn ε v0 21) v2 0 → (kd ε v0 = 11) ∧ (kd ε (fn ε v0 25) = 100) ∧ ((0 : Int) ≤ v2 ∧ v2 < ln ε (fn ε v0 25)) ∧ ∀ μ_4 : m_M, μ_4 = st μ_3 (fn ε v0 25) v2 1 → (kd ε v0 = 11) ∧ G cd_X12_arch Q X 120 [(0, (2, v0)), (2, (0, v2))] [(0, 2), (0, v2), (2, fn ε v0 26)] ε μ_4)) ∧ (v3 < (10 : Int) → (m_ty [(0, (2, v0)), (2, (0, v2)), (3, (0, v3))] [] ε μ → (kd ε v0 = 11) ∧ (kd ε (fn ε v0 18) = 100) ∧ ((0 : Int) ≤ w32 ((w32 (10 * v2)) + v3) ∧ w32 ((w32 (10 * v2)) + v3) < ln ε (fn ε v0 18)) ∧ ∀ μ_7 : m_M, μ_7 = st μ (fn ε v0 18) (w32 ((w32 (10 * v2)) + v3)) (-1) → ∀ v3_1 : Int, v3_1 = w32 (v3 + 1) → G cd_X12_arch Q X 56 [(0, (2, v0)), (2, (0, v2)), (3, (0, v3_1))] [] ε μ_7))
  intro hty
  replace h := h hty.1 (hty.2.1 _ (List.mem_of_getElem? (i := 1) rfl)) (hty.2.1 _ (List.mem_of_getElem? (i := 2) rfl))
  obtain ⟨ha, hb⟩ := h
  refine And.intro (fun c19 => ?_) (fun c19 => ?_)
  · replace h := ha c19
    clear ha hb
    intro _
    obtain ⟨k1, h⟩ := h
    refine And.intro k1 ?_
    obtain ⟨k2, h⟩ := h
    refine And.intro k2 ?_
    obtain ⟨k3, h⟩ := h
    obtain ⟨k4, h⟩ := h
    refine And.intro (And.intro k3 k4) ?_
    refine And.intro (Or.inl rfl) ?_
    intro μ_1 e_μ_1
    replace h := h μ_1 e_μ_1
    refine And.intro k1 ?_
    refine And.intro k2 ?_
    obtain ⟨k5, h⟩ := h
    obtain ⟨k6, h⟩ := h
    refine And.intro (And.intro k5 k6) ?_
    refine And.intro (Or.inl rfl) ?_
    intro μ_2 e_μ_2
    replace h := h μ_2 e_μ_2
    refine And.intro k1 ?_
    obtain ⟨k7, h⟩ := h
    refine And.intro k7 ?_
    obtain ⟨k8, h⟩ := h
    obtain ⟨k9, h⟩ := h
    refine And.intro (And.intro k8 k9) ?_
    intro μ_3 e_μ_3
    replace h := h μ_3 e_μ_3
    refine And.intro k1 ?_
    obtain ⟨k10, h⟩ := h
    refine And.intro k10 ?_
    obtain ⟨k11, h⟩ := h
    refine And.intro (And.intro k8 k11) ?_
    intro μ_4 e_μ_4
    replace h := h μ_4 e_μ_4
    refine And.intro k1 ?_
    exact g_X12_arch_120 (fun _ _ _ _ => h)
  · replace h := hb c19
    clear ha hb
    intro _
    obtain ⟨k16, h⟩ := h
    refine And.intro k16 ?_
    obtain ⟨k17, h⟩ := h
    refine And.intro k17 ?_
    obtain ⟨k18, h⟩ := h
    obtain ⟨k19, h⟩ := h
    refine And.intro (And.intro k18 k19) ?_
    intro μ_7 e_μ_7
    replace h := h μ_7 e_μ_7
    intro v3_1 e_v3_1
    replace h := h v3_1 e_v3_1
    exact h
set_option maxRecDepth 20000 in
theorem g_X12_arch_30 {Q X : m_Po} {v0 v1 t t_1 : Int} {ε : m_E} {μ : m_M} (h : TY ε μ → i32 v1 → i32 t_1 → kd ε t = 11 ∧ ∀ μ_1 : m_M, μ_1 = st μ t 0 t_1 → kd ε v0 = 11 ∧ ((μ_1 v0 0) ≤ 0 → ∀ v2 : Int, v2 = μ_1 v0 27 → kd ε (fn ε v0 17) = 100 ∧ (0 : Int) ≤ v2 ∧ v2 < ln ε (fn ε v0 17) ∧ ∀ μ_2 : m_M, μ_2 = st μ_1 (fn ε v0 17) v2 v1 → ∀ v3 : Int, v3 = 0 → G cd_X12_arch Q X 56 [(0, (2, v0)), (2, (0, v2)), (3, (0, v3))] [] ε μ_2) ∧ (0 < (μ_1 v0 0) → Q 0 ε μ_1)) : G cd_X12_arch Q X 30 [(0, (2, v0)), (1, (0, v1))] [(0, t_1), (2, t)] ε μ := by
  refine G_run (m_in [30, 56, 120]) 14 _ _ _ _ ?_
  show m_ty [(0, (2, v0)), (1, (0, v1))] [(0, t_1), (2, t)] ε μ → (kd ε t = 11) ∧ ∀ μ_1 : m_M, μ_1 = st μ t 0 t_1 → (kd ε v0 = 11) ∧ ((μ_1 v0 0) ≤ 0 → (m_ty [(0, (2, v0)), (1, (0, v1))] [] ε μ_1 → (kd ε v0 = 11) ∧ ∀ v2 : Int, v2 = μ_1 v0 27 → (kd ε v0 = 11) ∧ (kd ε (fn ε v0 17) = 100) ∧ ((0 : Int) ≤ v2 ∧ v2 < ln ε (fn ε v0 17)) ∧ ∀ μ_2 : m_M, μ_2 = st μ_1 (fn ε v0 17) v2 v1 → ∀ v3 : Int, v3 = 0 → G cd_X12_arch Q X 56 [(0, (2, v0)), (2, (0, v2)), (3, (0, v3))] [] ε μ_2)) ∧ (0 < (μ_1 v0 0) → (m_ty [] [] ε μ_1 → Q 0 ε μ_1))
  intro hty
  replace h := h hty.1 (hty.2.1 _ (List.mem_of_getElem? (i := 1) rfl)) (hty.2.2 _ (List.mem_of_getElem? (i := 0) rfl))
  obtain ⟨k1, h⟩ := h
  refine And.intro k1 ?_
  intro μ_1 e_μ_1
  replace h := h μ_1 e_μ_1
  obtain ⟨k2, h⟩ := h
  refine And.intro k2 ?_
  obtain ⟨ha, hb⟩ := h
  refine And.intro (fun c5 => ?_) (fun c5 => ?_)
  · replace h := ha c5
    clear ha hb
    intro _
    refine And.intro k2 ?_
    intro v2 e_v2
    replace h := h v2 e_v2
    refine And.intro k2 ?_
    obtain ⟨k3, h⟩ := h
    refine And.intro k3 ?_
    obtain ⟨k4, h⟩ := h
    obtain ⟨k5, h⟩ := h
    refine And.intro (And.intro k4 k5) ?_
    intro μ_2 e_μ_2
    replace h := h μ_2 e_μ_2
    intro v3 e_v3
    replace h := h v3 e_v3
    exact h
  · replace h := hb c5
    clear ha hb
    intro _
    exact h
set_option maxRecDepth 20000 in
theorem g_X12_arch_0 {Q X : m_Po} {v0 v1 : Int} {ε : m_E} {μ : m_M} (h : TY ε μ → i32 v1 → (((1 : Int) ≤ v1 → (v1 ≤ (10 : Int) → kd ε v0 = 11))) ∧ ∀ t : Int, t = (if v1 < (1 : Int) then 1 else if v1 ≤ (10 : Int) then if (μ v0 27) = (12 : Int) then 2 else 0 else 1) → kd ε v0 = 11 ∧ ∀ μ_1 : m_M, μ_1 = st μ v0 0 t → kd ε v0 = 11 ∧ ((μ_1 v0 0) ≤ 0 → ∀ v2 : Int, v2 = μ_1 v0 27 → kd ε (fn ε v0 17) = 100 ∧ (0 : Int) ≤ v2 ∧ v2 < ln ε (fn ε v0 17) ∧ ∀ μ_2 : m_M, μ_2 = st μ_1 (fn ε v0 17) v2 v1 → ∀ v3 : Int, v3 = 0 → G cd_X12_arch Q X 56 [(0, (2, v0)), (2, (0, v2)), (3, (0, v3))] [] ε μ_2) ∧ (0 < (μ_1 v0 0) → Q 0 ε μ_1)) : G cd_X12_arch Q X 0 [(0, (2, v0)), (1, (0, v1))] [] ε μ := by
  refine G_run (m_in [30, 56, 120]) 14 _ _ _ _ ?_
  show m_ty [(0, (2, v0)), (1, (0, v1))] [] ε μ → (v1 < (1 : Int) → (m_ty [(0, (2, v0)), (1, (0, v1))] [(2, v0)] ε μ → G cd_X12_arch Q X 30 [(0, (2, v0)), (1, (0, v1))] [(0, 1), (2, v0)] ε μ)) ∧ ((1 : Int) ≤ v1 → (m_ty [(0, (2, v0)), (1, (0, v1))] [(2, v0)] ε μ → (v1 ≤ (10 : Int) → (m_ty [(0, (2, v0)), (1, (0, v1))] [(2, v0)] ε μ → (kd ε v0 = 11) ∧ ((μ v0 27) ≠ (12 : Int) → (m_ty [(0, (2, v0)), (1, (0, v1))] [(2, v0)] ε μ → G cd_X12_arch Q X 30 [(0, (2, v0)), (1, (0, v1))] [(0, 0), (2, v0)] ε μ)) ∧ ((μ v0 27) = (12 : Int) → (m_ty [(0, (2, v0)), (1, (0, v1))] [(2, v0)] ε μ → G cd_X12_arch Q X 30 [(0, (2, v0)), (1, (0, v1))] [(0, 2), (2, v0)] ε μ)))) ∧ ((10 : Int) < v1 → (m_ty [(0, (2, v0)), (1, (0, v1))] [(2, v0)] ε μ → G cd_X12_arch Q X 30 [(0, (2, v0)), (1, (0, v1))] [(0, 1), (2, v0)] ε μ))))
  intro hty
  replace h := h hty.1 (hty.2.1 _ (List.mem_of_getElem? (i := 1) rfl))
  obtain ⟨hc, hj⟩ := h
  refine And.intro (fun c0 => ?_) (fun c0 => ?_)
  · intro _
    exact g_X12_arch_30 (fun _ _ _ => (hj _ (((if_pos c0).trans rfl)).symm))
  · replace hc := hc c0
    intro _
    refine And.intro (fun c1 => ?_) (fun c1 => ?_)
    · replace hc := hc c1
      intro _
      have k3 := hc
      refine And.intro k3 ?_
      refine And.intro (fun c3 => ?_) (fun c3 => ?_)
      · intro _
        exact g_X12_arch_30 (fun _ _ _ => (hj _ (((if_neg (Int.not_lt.mpr c0)).trans ((if_pos c1).trans ((if_neg (c3)).trans rfl)))).symm))
      · intro _
        exact g_X12_arch_30 (fun _ _ _ => (hj _ (((if_neg (Int.not_lt.mpr c0)).trans ((if_pos c1).trans ((if_pos c3).trans rfl)))).symm))
    · intro _
      exact g_X12_arch_30 (fun _ _ _ => (hj _ (((if_neg (Int.not_lt.mpr c0)).trans ((if_neg (Int.not_le.mpr c1)).trans rfl))).symm))
theorem e_X12_arch {Q X : m_Po} {v0 v1 : Int} {ε : m_E} {μ : m_M} (h : TY ε μ → i32 v1 → (((1 : Int) ≤ v1 → (v1 ≤ (10 : Int) → kd ε v0 = 11))) ∧ ∀ t : Int, t = (if v1 < (1 : Int) then 1 else if v1 ≤ (10 : Int) then if (μ v0 27) = (12 : Int) then 2 else 0 else 1) → kd ε v0 = 11 ∧ ∀ μ_1 : m_M, μ_1 = st μ v0 0 t → kd ε v0 = 11 ∧ ((μ_1 v0 0) ≤ 0 → ∀ v2 : Int, v2 = μ_1 v0 27 → kd ε (fn ε v0 17) = 100 ∧ (0 : Int) ≤ v2 ∧ v2 < ln ε (fn ε v0 17) ∧ ∀ μ_2 : m_M, μ_2 = st μ_1 (fn ε v0 17) v2 v1 → ∀ v3 : Int, v3 = 0 → G cd_X12_arch Q X 56 [(0, (2, v0)), (2, (0, v2)), (3, (0, v3))] [] ε μ_2) ∧ (0 < (μ_1 v0 0) → Q 0 ε μ_1)) : o_X12_arch [(2, v0), (0, v1)] ε μ Q X := And.intro rfl (g_X12_arch_0 h)
/-! ArchYardModel.isArch(I)Z -/
set_option maxRecDepth 20000 in
theorem g_X12_isArch_33 {Q X : m_Po} {t : Int} {ε : m_E} {μ : m_M} (h : TY ε μ → i32 t → (t = 0 ∨ t = 1) ∧ Q t ε μ) : G cd_X12_isArch Q X 33 [] [(0, t)] ε μ := by
  refine G_run (m_in [18, 33]) 9 _ _ _ _ ?_
  show m_ty [] [(0, t)] ε μ → (t = 0 ∨ t = 1) ∧ Q t ε μ
  intro hty
  replace h := h hty.1 (hty.2.2 _ (List.mem_of_getElem? (i := 0) rfl))
  obtain ⟨k1, h⟩ := h
  refine And.intro k1 ?_
  exact h
set_option maxRecDepth 20000 in
theorem g_X12_isArch_18 {Q X : m_Po} {v0 t t_1 : Int} {ε : m_E} {μ : m_M} (h : TY ε μ → i32 t_1 → kd ε t = 11 ∧ ∀ μ_1 : m_M, μ_1 = st μ t 0 t_1 → kd ε v0 = 11 ∧ ∀ t_2 : Int, t_2 = (if (μ_1 v0 0) = 0 then 1 else 0) → Q t_2 ε μ_1) : G cd_X12_isArch Q X 18 [(0, (2, v0))] [(0, t_1), (2, t)] ε μ := by
  refine G_run (m_in [18, 33]) 9 _ _ _ _ ?_
  show m_ty [(0, (2, v0))] [(0, t_1), (2, t)] ε μ → (kd ε t = 11) ∧ ∀ μ_1 : m_M, μ_1 = st μ t 0 t_1 → (kd ε v0 = 11) ∧ ((μ_1 v0 0) ≠ 0 → (m_ty [] [] ε μ_1 → G cd_X12_isArch Q X 33 [] [(0, 0)] ε μ_1)) ∧ ((μ_1 v0 0) = 0 → (m_ty [] [] ε μ_1 → G cd_X12_isArch Q X 33 [] [(0, 1)] ε μ_1))
  intro hty
  replace h := h hty.1 (hty.2.2 _ (List.mem_of_getElem? (i := 0) rfl))
  obtain ⟨k1, h⟩ := h
  refine And.intro k1 ?_
  intro μ_1 e_μ_1
  replace h := h μ_1 e_μ_1
  obtain ⟨k2, h⟩ := h
  refine And.intro k2 ?_
  have hj := h
  refine And.intro (fun c2 => ?_) (fun c2 => ?_)
  · intro _
    exact g_X12_isArch_33 (fun _ _ => (And.intro (Or.inl rfl) (hj _ (((if_neg (c2)).trans rfl)).symm)))
  · intro _
    exact g_X12_isArch_33 (fun _ _ => (And.intro (Or.inr rfl) (hj _ (((if_pos c2).trans rfl)).symm)))
set_option maxRecDepth 20000 in
theorem g_X12_isArch_0 {Q X : m_Po} {v0 v1 : Int} {ε : m_E} {μ : m_M} (h : TY ε μ → i32 v1 → ((0 ≤ v1 → kd ε v0 = 11)) ∧ ∀ t : Int, t = (if v1 < 0 then 1 else if v1 < (μ v0 27) then 0 else 1) → kd ε v0 = 11 ∧ ∀ μ_1 : m_M, μ_1 = st μ v0 0 t → kd ε v0 = 11 ∧ ∀ t_1 : Int, t_1 = (if (μ_1 v0 0) = 0 then 1 else 0) → Q t_1 ε μ_1) : G cd_X12_isArch Q X 0 [(0, (2, v0)), (1, (0, v1))] [] ε μ := by
  refine G_run (m_in [18, 33]) 9 _ _ _ _ ?_
  show m_ty [(0, (2, v0)), (1, (0, v1))] [] ε μ → (v1 < 0 → (m_ty [(0, (2, v0))] [(2, v0)] ε μ → G cd_X12_isArch Q X 18 [(0, (2, v0))] [(0, 1), (2, v0)] ε μ)) ∧ (0 ≤ v1 → (m_ty [(0, (2, v0)), (1, (0, v1))] [(2, v0)] ε μ → (kd ε v0 = 11) ∧ (v1 < (μ v0 27) → (m_ty [(0, (2, v0))] [(2, v0)] ε μ → G cd_X12_isArch Q X 18 [(0, (2, v0))] [(0, 0), (2, v0)] ε μ)) ∧ ((μ v0 27) ≤ v1 → (m_ty [(0, (2, v0))] [(2, v0)] ε μ → G cd_X12_isArch Q X 18 [(0, (2, v0))] [(0, 1), (2, v0)] ε μ))))
  intro hty
  replace h := h hty.1 (hty.2.1 _ (List.mem_of_getElem? (i := 1) rfl))
  obtain ⟨hc, hj⟩ := h
  refine And.intro (fun c0 => ?_) (fun c0 => ?_)
  · intro _
    exact g_X12_isArch_18 (fun _ _ => (hj _ (((if_pos c0).trans rfl)).symm))
  · replace hc := hc c0
    intro _
    have k2 := hc
    refine And.intro k2 ?_
    refine And.intro (fun c2 => ?_) (fun c2 => ?_)
    · intro _
      exact g_X12_isArch_18 (fun _ _ => (hj _ (((if_neg (Int.not_lt.mpr c0)).trans ((if_pos c2).trans rfl))).symm))
    · intro _
      exact g_X12_isArch_18 (fun _ _ => (hj _ (((if_neg (Int.not_lt.mpr c0)).trans ((if_neg (Int.not_lt.mpr c2)).trans rfl))).symm))
theorem e_X12_isArch {Q X : m_Po} {v0 v1 : Int} {ε : m_E} {μ : m_M} (h : TY ε μ → i32 v1 → ((0 ≤ v1 → kd ε v0 = 11)) ∧ ∀ t : Int, t = (if v1 < 0 then 1 else if v1 < (μ v0 27) then 0 else 1) → kd ε v0 = 11 ∧ ∀ μ_1 : m_M, μ_1 = st μ v0 0 t → kd ε v0 = 11 ∧ ∀ t_1 : Int, t_1 = (if (μ_1 v0 0) = 0 then 1 else 0) → Q t_1 ε μ_1) : o_X12_isArch [(2, v0), (0, v1)] ε μ Q X := And.intro rfl (g_X12_isArch_0 h)
/-! ArchYardModel.isPlace(II)Z -/
set_option maxRecDepth 20000 in
theorem g_X12_isPlace_47 {Q X : m_Po} {t : Int} {ε : m_E} {μ : m_M} (h : TY ε μ → i32 t → (t = 0 ∨ t = 1) ∧ Q t ε μ) : G cd_X12_isPlace Q X 47 [] [(0, t)] ε μ := by
  refine G_run (m_in [32, 47]) 11 _ _ _ _ ?_
  show m_ty [] [(0, t)] ε μ → (t = 0 ∨ t = 1) ∧ Q t ε μ
  intro hty
  replace h := h hty.1 (hty.2.2 _ (List.mem_of_getElem? (i := 0) rfl))
  obtain ⟨k1, h⟩ := h
  refine And.intro k1 ?_
  exact h
set_option maxRecDepth 20000 in
theorem g_X12_isPlace_32 {Q X : m_Po} {v0 t t_1 : Int} {ε : m_E} {μ : m_M} (h : TY ε μ → i32 t_1 → kd ε t = 11 ∧ ∀ μ_1 : m_M, μ_1 = st μ t 0 t_1 → kd ε v0 = 11 ∧ ∀ t_2 : Int, t_2 = (if (μ_1 v0 0) = 0 then 1 else 0) → Q t_2 ε μ_1) : G cd_X12_isPlace Q X 32 [(0, (2, v0))] [(0, t_1), (2, t)] ε μ := by
  refine G_run (m_in [32, 47]) 11 _ _ _ _ ?_
  show m_ty [(0, (2, v0))] [(0, t_1), (2, t)] ε μ → (kd ε t = 11) ∧ ∀ μ_1 : m_M, μ_1 = st μ t 0 t_1 → (kd ε v0 = 11) ∧ ((μ_1 v0 0) ≠ 0 → (m_ty [] [] ε μ_1 → G cd_X12_isPlace Q X 47 [] [(0, 0)] ε μ_1)) ∧ ((μ_1 v0 0) = 0 → (m_ty [] [] ε μ_1 → G cd_X12_isPlace Q X 47 [] [(0, 1)] ε μ_1))
  intro hty
  replace h := h hty.1 (hty.2.2 _ (List.mem_of_getElem? (i := 0) rfl))
  obtain ⟨k1, h⟩ := h
  refine And.intro k1 ?_
  intro μ_1 e_μ_1
  replace h := h μ_1 e_μ_1
  obtain ⟨k2, h⟩ := h
  refine And.intro k2 ?_
  have hj := h
  refine And.intro (fun c2 => ?_) (fun c2 => ?_)
  · intro _
    exact g_X12_isPlace_47 (fun _ _ => (And.intro (Or.inl rfl) (hj _ (((if_neg (c2)).trans rfl)).symm)))
  · intro _
    exact g_X12_isPlace_47 (fun _ _ => (And.intro (Or.inr rfl) (hj _ (((if_pos c2).trans rfl)).symm)))
set_option maxRecDepth 20000 in
theorem g_X12_isPlace_0 {Q X : m_Po} {v0 v1 v2 : Int} {ε : m_E} {μ : m_M} (h : TY ε μ → i32 v1 → i32 v2 → ((0 ≤ v1 → kd ε v0 = 11 ∧ (v1 < (μ v0 27) → (0 ≤ v2 → kd ε (fn ε v0 17) = 100 ∧ (0 : Int) ≤ v1 ∧ v1 < ln ε (fn ε v0 17))))) ∧ ∀ t : Int, t = (if v1 < 0 then 1 else if (μ v0 27) ≤ v1 then 1 else if v2 < 0 then 1 else if v2 < (μ (fn ε v0 17) v1) then 0 else 1) → kd ε v0 = 11 ∧ ∀ μ_1 : m_M, μ_1 = st μ v0 0 t → kd ε v0 = 11 ∧ ∀ t_1 : Int, t_1 = (if (μ_1 v0 0) = 0 then 1 else 0) → Q t_1 ε μ_1) : G cd_X12_isPlace Q X 0 [(0, (2, v0)), (1, (0, v1)), (2, (0, v2))] [] ε μ := by
  refine G_run (m_in [32, 47]) 11 _ _ _ _ ?_
  show m_ty [(0, (2, v0)), (1, (0, v1)), (2, (0, v2))] [] ε μ → (v1 < 0 → (m_ty [(0, (2, v0))] [(2, v0)] ε μ → G cd_X12_isPlace Q X 32 [(0, (2, v0))] [(0, 1), (2, v0)] ε μ)) ∧ (0 ≤ v1 → (m_ty [(0, (2, v0)), (1, (0, v1)), (2, (0, v2))] [(2, v0)] ε μ → (kd ε v0 = 11) ∧ ((μ v0 27) ≤ v1 → (m_ty [(0, (2, v0))] [(2, v0)] ε μ → G cd_X12_isPlace Q X 32 [(0, (2, v0))] [(0, 1), (2, v0)] ε μ)) ∧ (v1 < (μ v0 27) → (m_ty [(0, (2, v0)), (1, (0, v1)), (2, (0, v2))] [(2, v0)] ε μ → (v2 < 0 → (m_ty [(0, (2, v0))] [(2, v0)] ε μ → G cd_X12_isPlace Q X 32 [(0, (2, v0))] [(0, 1), (2, v0)] ε μ)) ∧ (0 ≤ v2 → (m_ty [(0, (2, v0)), (1, (0, v1)), (2, (0, v2))] [(2, v0)] ε μ → (kd ε v0 = 11) ∧ (kd ε (fn ε v0 17) = 100) ∧ ((0 : Int) ≤ v1 ∧ v1 < ln ε (fn ε v0 17)) ∧ (v2 < (μ (fn ε v0 17) v1) → (m_ty [(0, (2, v0))] [(2, v0)] ε μ → G cd_X12_isPlace Q X 32 [(0, (2, v0))] [(0, 0), (2, v0)] ε μ)) ∧ ((μ (fn ε v0 17) v1) ≤ v2 → (m_ty [(0, (2, v0))] [(2, v0)] ε μ → G cd_X12_isPlace Q X 32 [(0, (2, v0))] [(0, 1), (2, v0)] ε μ))))))))
  intro hty
  replace h := h hty.1 (hty.2.1 _ (List.mem_of_getElem? (i := 1) rfl)) (hty.2.1 _ (List.mem_of_getElem? (i := 2) rfl))
  obtain ⟨hc, hj⟩ := h
  refine And.intro (fun c0 => ?_) (fun c0 => ?_)
  · intro _
    exact g_X12_isPlace_32 (fun _ _ => (hj _ (((if_pos c0).trans rfl)).symm))
  · replace hc := hc c0
    intro _
    obtain ⟨k2, k13⟩ := hc
    refine And.intro k2 ?_
    refine And.intro (fun c2 => ?_) (fun c2 => ?_)
    · intro _
      exact g_X12_isPlace_32 (fun _ _ => (hj _ (((if_neg (Int.not_lt.mpr c0)).trans ((if_pos c2).trans rfl))).symm))
    · replace k13 := k13 c2
      intro _
      refine And.intro (fun c3 => ?_) (fun c3 => ?_)
      · intro _
        exact g_X12_isPlace_32 (fun _ _ => (hj _ (((if_neg (Int.not_lt.mpr c0)).trans ((if_neg (Int.not_le.mpr c2)).trans ((if_pos c3).trans rfl)))).symm))
      · replace k13 := k13 c3
        intro _
        obtain ⟨k5, k6, k7⟩ := k13
        refine And.intro k2 ?_
        refine And.intro k5 ?_
        refine And.intro (And.intro k6 k7) ?_
        refine And.intro (fun c7 => ?_) (fun c7 => ?_)
        · intro _
          exact g_X12_isPlace_32 (fun _ _ => (hj _ (((if_neg (Int.not_lt.mpr c0)).trans ((if_neg (Int.not_le.mpr c2)).trans ((if_neg (Int.not_lt.mpr c3)).trans ((if_pos c7).trans rfl))))).symm))
        · intro _
          exact g_X12_isPlace_32 (fun _ _ => (hj _ (((if_neg (Int.not_lt.mpr c0)).trans ((if_neg (Int.not_le.mpr c2)).trans ((if_neg (Int.not_lt.mpr c3)).trans ((if_neg (Int.not_lt.mpr c7)).trans rfl))))).symm))
theorem e_X12_isPlace {Q X : m_Po} {v0 v1 v2 : Int} {ε : m_E} {μ : m_M} (h : TY ε μ → i32 v1 → i32 v2 → ((0 ≤ v1 → kd ε v0 = 11 ∧ (v1 < (μ v0 27) → (0 ≤ v2 → kd ε (fn ε v0 17) = 100 ∧ (0 : Int) ≤ v1 ∧ v1 < ln ε (fn ε v0 17))))) ∧ ∀ t : Int, t = (if v1 < 0 then 1 else if (μ v0 27) ≤ v1 then 1 else if v2 < 0 then 1 else if v2 < (μ (fn ε v0 17) v1) then 0 else 1) → kd ε v0 = 11 ∧ ∀ μ_1 : m_M, μ_1 = st μ v0 0 t → kd ε v0 = 11 ∧ ∀ t_1 : Int, t_1 = (if (μ_1 v0 0) = 0 then 1 else 0) → Q t_1 ε μ_1) : o_X12_isPlace [(2, v0), (0, v1), (0, v2)] ε μ Q X := And.intro rfl (g_X12_isPlace_0 h)
/-! ArchYardModel.isFar(I)Z -/
set_option maxRecDepth 20000 in
theorem g_X12_isFar_17 {Q X : m_Po} {t : Int} {ε : m_E} {μ : m_M} (h : TY ε μ → i32 t → (t = 0 ∨ t = 1) ∧ Q t ε μ) : G cd_X12_isFar Q X 17 [] [(0, t)] ε μ := by
  refine G_run (m_in [17]) 6 _ _ _ _ ?_
  show m_ty [] [(0, t)] ε μ → (t = 0 ∨ t = 1) ∧ Q t ε μ
  intro hty
  replace h := h hty.1 (hty.2.2 _ (List.mem_of_getElem? (i := 0) rfl))
  obtain ⟨k1, h⟩ := h
  refine And.intro k1 ?_
  exact h
set_option maxRecDepth 20000 in
theorem g_X12_isFar_0 {Q X : m_Po} {v0 : Int} {ε : m_E} {μ : m_M} (h : TY ε μ → i32 v0 → ∀ t : Int, t = (if v0 < (-100) then 1 else if v0 ≤ (100 : Int) then 0 else 1) → Q t ε μ) : G cd_X12_isFar Q X 0 [(0, (0, v0))] [] ε μ := by
  refine G_run (m_in [17]) 6 _ _ _ _ ?_
  show m_ty [(0, (0, v0))] [] ε μ → (v0 < (-100) → (m_ty [] [] ε μ → G cd_X12_isFar Q X 17 [] [(0, 1)] ε μ)) ∧ ((-100) ≤ v0 → (m_ty [(0, (0, v0))] [] ε μ → (v0 ≤ (100 : Int) → (m_ty [] [] ε μ → G cd_X12_isFar Q X 17 [] [(0, 0)] ε μ)) ∧ ((100 : Int) < v0 → (m_ty [] [] ε μ → G cd_X12_isFar Q X 17 [] [(0, 1)] ε μ))))
  intro hty
  replace h := h hty.1 (hty.2.1 _ (List.mem_of_getElem? (i := 0) rfl))
  have hj := h
  refine And.intro (fun c0 => ?_) (fun c0 => ?_)
  · intro _
    exact g_X12_isFar_17 (fun _ _ => (And.intro (Or.inr rfl) (hj _ (((if_pos c0).trans rfl)).symm)))
  · intro _
    refine And.intro (fun c1 => ?_) (fun c1 => ?_)
    · intro _
      exact g_X12_isFar_17 (fun _ _ => (And.intro (Or.inl rfl) (hj _ (((if_neg (Int.not_lt.mpr c0)).trans ((if_pos c1).trans rfl))).symm)))
    · intro _
      exact g_X12_isFar_17 (fun _ _ => (And.intro (Or.inr rfl) (hj _ (((if_neg (Int.not_lt.mpr c0)).trans ((if_neg (Int.not_le.mpr c1)).trans rfl))).symm)))
theorem e_X12_isFar {Q X : m_Po} {v0 : Int} {ε : m_E} {μ : m_M} (h : TY ε μ → i32 v0 → ∀ t : Int, t = (if v0 < (-100) then 1 else if v0 ≤ (100 : Int) then 0 else 1) → Q t ε μ) : o_X12_isFar [(0, v0)] ε μ Q X := And.intro rfl (g_X12_isFar_0 h)
/-! ArchYardModel.pier(IIIIII)V -/
set_option maxRecDepth 20000 in
theorem g_X12_pier_122 {Q X : m_Po} {v0 v5 v6 v7 t t_1 : Int} {ε : m_E} {μ : m_M} (h : TY ε μ → i32 v5 → i32 v6 → i32 v7 → i32 t_1 → kd ε t = 100 ∧ (0 : Int) ≤ w32 ((w32 (t_1 * v7)) + 2) ∧ w32 ((w32 (t_1 * v7)) + 2) < ln ε t ∧ ∀ μ_1 : m_M, μ_1 = st μ t (w32 ((w32 (t_1 * v7)) + 2)) v5 → kd ε v0 = 11 ∧ kd ε (fn ε v0 20) = 100 ∧ (0 : Int) ≤ w32 ((w32 (4 * v7)) + 3) ∧ w32 ((w32 (4 * v7)) + 3) < ln ε (fn ε v0 20) ∧ ∀ μ_2 : m_M, μ_2 = st μ_1 (fn ε v0 20) (w32 ((w32 (4 * v7)) + 3)) v6 → ∀ μ_3 : m_M, μ_3 = st μ_2 v0 66 (-1) → Q 0 ε μ_3) : G cd_X12_pier Q X 122 [(0, (2, v0)), (5, (0, v5)), (6, (0, v6)), (7, (0, v7))] [(0, t_1), (2, t)] ε μ := by
  refine G_run (m_in [5, 23, 31, 39, 47, 63, 67, 68, 122]) 22 _ _ _ _ ?_
  show m_ty [(0, (2, v0)), (5, (0, v5)), (6, (0, v6)), (7, (0, v7))] [(0, t_1), (2, t)] ε μ → (kd ε t = 100) ∧ ((0 : Int) ≤ w32 ((w32 (t_1 * v7)) + 2) ∧ w32 ((w32 (t_1 * v7)) + 2) < ln ε t) ∧ ∀ μ_1 : m_M, μ_1 = st μ t (w32 ((w32 (t_1 * v7)) + 2)) v5 → (kd ε v0 = 11) ∧ (kd ε (fn ε v0 20) = 100) ∧ ((0 : Int) ≤ w32 ((w32 (4 * v7)) + 3) ∧ w32 ((w32 (4 * v7)) + 3) < ln ε (fn ε v0 20)) ∧ ∀ μ_2 : m_M, μ_2 = st μ_1 (fn ε v0 20) (w32 ((w32 (4 * v7)) + 3)) v6 → (kd ε v0 = 11) ∧ ∀ μ_3 : m_M, μ_3 = st μ_2 v0 66 (-1) → Q 0 ε μ_3
  intro hty
  replace h := h hty.1 (hty.2.1 _ (List.mem_of_getElem? (i := 1) rfl)) (hty.2.1 _ (List.mem_of_getElem? (i := 2) rfl)) (hty.2.1 _ (List.mem_of_getElem? (i := 3) rfl)) (hty.2.2 _ (List.mem_of_getElem? (i := 0) rfl))
  obtain ⟨k1, h⟩ := h
  refine And.intro k1 ?_
  obtain ⟨k2, h⟩ := h
  obtain ⟨k3, h⟩ := h
  refine And.intro (And.intro k2 k3) ?_
  intro μ_1 e_μ_1
  replace h := h μ_1 e_μ_1
  obtain ⟨k4, h⟩ := h
  refine And.intro k4 ?_
  obtain ⟨k5, h⟩ := h
  refine And.intro k5 ?_
  obtain ⟨k6, h⟩ := h
  obtain ⟨k7, h⟩ := h
  refine And.intro (And.intro k6 k7) ?_
  intro μ_2 e_μ_2
  replace h := h μ_2 e_μ_2
  refine And.intro k4 ?_
  intro μ_3 e_μ_3
  replace h := h μ_3 e_μ_3
  exact h
set_option maxRecDepth 20000 in
theorem g_X12_pier_68 {Q X : m_Po} {v0 v1 v2 v3 v4 v5 v6 t t_1 : Int} {ε : m_E} {μ : m_M} (h : TY ε μ → i32 v1 → i32 v2 → i32 v3 → i32 v4 → i32 v5 → i32 v6 → i32 t_1 → kd ε t = 11 ∧ ∀ μ_1 : m_M, μ_1 = st μ t 0 t_1 → kd ε v0 = 11 ∧ ((μ_1 v0 0) ≤ 0 → ∀ v7 : Int, v7 = w32 ((w32 (2 * v1)) + v2) → kd ε (fn ε v0 19) = 103 ∧ (0 : Int) ≤ v7 ∧ v7 < ln ε (fn ε v0 19) ∧ ∀ μ_2 : m_M, μ_2 = st μ_1 (fn ε v0 19) v7 1 → kd ε (fn ε v0 20) = 100 ∧ (0 : Int) ≤ w32 (4 * v7) ∧ w32 (4 * v7) < ln ε (fn ε v0 20) ∧ ∀ μ_3 : m_M, μ_3 = st μ_2 (fn ε v0 20) (w32 (4 * v7)) v3 → (0 : Int) ≤ w32 ((w32 (4 * v7)) + 1) ∧ w32 ((w32 (4 * v7)) + 1) < ln ε (fn ε v0 20) ∧ ∀ μ_4 : m_M, μ_4 = st μ_3 (fn ε v0 20) (w32 ((w32 (4 * v7)) + 1)) v4 → kd ε (fn ε v0 20) = 100 ∧ (0 : Int) ≤ w32 ((w32 (4 * v7)) + 2) ∧ w32 ((w32 (4 * v7)) + 2) < ln ε (fn ε v0 20) ∧ ∀ μ_5 : m_M, μ_5 = st μ_4 (fn ε v0 20) (w32 ((w32 (4 * v7)) + 2)) v5 → kd ε v0 = 11 ∧ kd ε (fn ε v0 20) = 100 ∧ (0 : Int) ≤ w32 ((w32 (4 * v7)) + 3) ∧ w32 ((w32 (4 * v7)) + 3) < ln ε (fn ε v0 20) ∧ ∀ μ_6 : m_M, μ_6 = st μ_5 (fn ε v0 20) (w32 ((w32 (4 * v7)) + 3)) v6 → ∀ μ_7 : m_M, μ_7 = st μ_6 v0 66 (-1) → Q 0 ε μ_7) ∧ (0 < (μ_1 v0 0) → Q 0 ε μ_1)) : G cd_X12_pier Q X 68 [(0, (2, v0)), (1, (0, v1)), (2, (0, v2)), (3, (0, v3)), (4, (0, v4)), (5, (0, v5)), (6, (0, v6))] [(0, t_1), (2, t)] ε μ := by
  refine G_run (m_in [5, 23, 31, 39, 47, 63, 67, 68, 122]) 22 _ _ _ _ ?_
  show m_ty [(0, (2, v0)), (1, (0, v1)), (2, (0, v2)), (3, (0, v3)), (4, (0, v4)), (5, (0, v5)), (6, (0, v6))] [(0, t_1), (2, t)] ε μ → (kd ε t = 11) ∧ ∀ μ_1 : m_M, μ_1 = st μ t 0 t_1 → (kd ε v0 = 11) ∧ ((μ_1 v0 0) ≤ 0 → (m_ty [(0, (2, v0)), (1, (0, v1)), (2, (0, v2)), (3, (0, v3)), (4, (0, v4)), (5, (0, v5)), (6, (0, v6))] [] ε μ_1 → ∀ v7 : Int, v7 = w32 ((w32 (2 * v1)) + v2) → (kd ε v0 = 11) ∧ (kd ε (fn ε v0 19) = 103) ∧ ((0 : Int) ≤ v7 ∧ v7 < ln ε (fn ε v0 19)) ∧ (1 = 0 ∨ 1 = 1) ∧ ∀ μ_2 : m_M, μ_2 = st μ_1 (fn ε v0 19) v7 1 → (kd ε v0 = 11) ∧ (kd ε (fn ε v0 20) = 100) ∧ ((0 : Int) ≤ w32 (4 * v7) ∧ w32 (4 * v7) < ln ε (fn ε v0 20)) ∧ ∀ μ_3 : m_M, μ_3 = st μ_2 (fn ε v0 20) (w32 (4 * v7)) v3 → (kd ε v0 = 11) ∧ (kd ε (fn ε v0 20) = 100) ∧ ((0 : Int) ≤ w32 ((w32 (4 * v7)) + 1) ∧ w32 ((w32 (4 * v7)) + 1) < ln ε (fn ε v0 20)) ∧ ∀ μ_4 : m_M, μ_4 = st μ_3 (fn ε v0 20) (w32 ((w32 (4 * v7)) + 1)) v4 → (kd ε v0 = 11) ∧ G cd_X12_pier Q X 122 [(0, (2, v0)), (5, (0, v5)), (6, (0, v6)), (7, (0, v7))] [(0, 4), (2, fn ε v0 20)] ε μ_4)) ∧ (0 < (μ_1 v0 0) → (m_ty [] [] ε μ_1 → Q 0 ε μ_1))
  intro hty
  replace h := h hty.1 (hty.2.1 _ (List.mem_of_getElem? (i := 1) rfl)) (hty.2.1 _ (List.mem_of_getElem? (i := 2) rfl)) (hty.2.1 _ (List.mem_of_getElem? (i := 3) rfl)) (hty.2.1 _ (List.mem_of_getElem? (i := 4) rfl)) (hty.2.1 _ (List.mem_of_getElem? (i := 5) rfl)) (hty.2.1 _ (List.mem_of_getElem? (i := 6) rfl)) (hty.2.2 _ (List.mem_of_getElem? (i := 0) rfl))
  obtain ⟨k1, h⟩ := h
  refine And.intro k1 ?_
  intro μ_1 e_μ_1
  replace h := h μ_1 e_μ_1
  obtain ⟨k2, h⟩ := h
  refine And.intro k2 ?_
  obtain ⟨ha, hb⟩ := h
  refine And.intro (fun c17 => ?_) (fun c17 => ?_)
  · replace h := ha c17
    clear ha hb
    intro _
    intro v7 e_v7
    replace h := h v7 e_v7
    refine And.intro k2 ?_
    obtain ⟨k3, h⟩ := h
    refine And.intro k3 ?_
    obtain ⟨k4, h⟩ := h
    obtain ⟨k5, h⟩ := h
    refine And.intro (And.intro k4 k5) ?_
    refine And.intro (Or.inr rfl) ?_
    intro μ_2 e_μ_2
    replace h := h μ_2 e_μ_2
    refine And.intro k2 ?_
    obtain ⟨k6, h⟩ := h
    refine And.intro k6 ?_
    obtain ⟨k7, h⟩ := h
    obtain ⟨k8, h⟩ := h
    refine And.intro (And.intro k7 k8) ?_
    intro μ_3 e_μ_3
    replace h := h μ_3 e_μ_3
    refine And.intro k2 ?_
    refine And.intro k6 ?_
    obtain ⟨k9, h⟩ := h
    obtain ⟨k10, h⟩ := h
    refine And.intro (And.intro k9 k10) ?_
    intro μ_4 e_μ_4
    replace h := h μ_4 e_μ_4
    refine And.intro k2 ?_
    exact g_X12_pier_122 (fun _ _ _ _ _ => h)
  · replace h := hb c17
    clear ha hb
    intro _
    exact h
set_option maxRecDepth 20000 in
theorem g_X12_pier_67 {Q X : m_Po} {v0 v1 v2 v3 v4 v5 v6 t : Int} {ε : m_E} {μ : m_M} (h : TY ε μ → i32 v1 → i32 v2 → i32 v3 → i32 v4 → i32 v5 → i32 v6 → G cd_X12_pier Q X 68 [(0, (2, v0)), (1, (0, v1)), (2, (0, v2)), (3, (0, v3)), (4, (0, v4)), (5, (0, v5)), (6, (0, v6))] [(0, 0), (2, t)] ε μ) : G cd_X12_pier Q X 67 [(0, (2, v0)), (1, (0, v1)), (2, (0, v2)), (3, (0, v3)), (4, (0, v4)), (5, (0, v5)), (6, (0, v6))] [(2, t)] ε μ := by
  refine G_run (m_in [5, 23, 31, 39, 47, 63, 67, 68, 122]) 22 _ _ _ _ ?_
  show m_ty [(0, (2, v0)), (1, (0, v1)), (2, (0, v2)), (3, (0, v3)), (4, (0, v4)), (5, (0, v5)), (6, (0, v6))] [(2, t)] ε μ → G cd_X12_pier Q X 68 [(0, (2, v0)), (1, (0, v1)), (2, (0, v2)), (3, (0, v3)), (4, (0, v4)), (5, (0, v5)), (6, (0, v6))] [(0, 0), (2, t)] ε μ
  intro hty
  replace h := h hty.1 (hty.2.1 _ (List.mem_of_getElem? (i := 1) rfl)) (hty.2.1 _ (List.mem_of_getElem? (i := 2) rfl)) (hty.2.1 _ (List.mem_of_getElem? (i := 3) rfl)) (hty.2.1 _ (List.mem_of_getElem? (i := 4) rfl)) (hty.2.1 _ (List.mem_of_getElem? (i := 5) rfl)) (hty.2.1 _ (List.mem_of_getElem? (i := 6) rfl))
  exact h
set_option maxRecDepth 20000 in
theorem g_X12_pier_63 {Q X : m_Po} {v0 v1 v2 v3 v4 v5 v6 t : Int} {ε : m_E} {μ : m_M} (h : TY ε μ → i32 v1 → i32 v2 → i32 v3 → i32 v4 → i32 v5 → i32 v6 → G cd_X12_pier Q X 68 [(0, (2, v0)), (1, (0, v1)), (2, (0, v2)), (3, (0, v3)), (4, (0, v4)), (5, (0, v5)), (6, (0, v6))] [(0, 2), (2, t)] ε μ) : G cd_X12_pier Q X 63 [(0, (2, v0)), (1, (0, v1)), (2, (0, v2)), (3, (0, v3)), (4, (0, v4)), (5, (0, v5)), (6, (0, v6))] [(2, t)] ε μ := by
  refine G_run (m_in [5, 23, 31, 39, 47, 63, 67, 68, 122]) 22 _ _ _ _ ?_
  show m_ty [(0, (2, v0)), (1, (0, v1)), (2, (0, v2)), (3, (0, v3)), (4, (0, v4)), (5, (0, v5)), (6, (0, v6))] [(2, t)] ε μ → G cd_X12_pier Q X 68 [(0, (2, v0)), (1, (0, v1)), (2, (0, v2)), (3, (0, v3)), (4, (0, v4)), (5, (0, v5)), (6, (0, v6))] [(0, 2), (2, t)] ε μ
  intro hty
  replace h := h hty.1 (hty.2.1 _ (List.mem_of_getElem? (i := 1) rfl)) (hty.2.1 _ (List.mem_of_getElem? (i := 2) rfl)) (hty.2.1 _ (List.mem_of_getElem? (i := 3) rfl)) (hty.2.1 _ (List.mem_of_getElem? (i := 4) rfl)) (hty.2.1 _ (List.mem_of_getElem? (i := 5) rfl)) (hty.2.1 _ (List.mem_of_getElem? (i := 6) rfl))
  exact h
set_option maxRecDepth 20000 in
theorem g_X12_pier_47 {Q X : m_Po} {v0 v1 v2 v3 v4 v5 v6 t t_1 : Int} {ε : m_E} {μ : m_M} (h : TY ε μ → i32 v1 → i32 v2 → i32 v3 → i32 v4 → i32 v5 → i32 v6 → i32 t_1 → (t_1 ≠ 0 → G cd_X12_pier Q X 63 [(0, (2, v0)), (1, (0, v1)), (2, (0, v2)), (3, (0, v3)), (4, (0, v4)), (5, (0, v5)), (6, (0, v6))] [(2, t)] ε μ) ∧ (t_1 = 0 → (v3 ≠ v5 → G cd_X12_pier Q X 67 [(0, (2, v0)), (1, (0, v1)), (2, (0, v2)), (3, (0, v3)), (4, (0, v4)), (5, (0, v5)), (6, (0, v6))] [(2, t)] ε μ) ∧ (v3 = v5 → (v4 ≠ v6 → G cd_X12_pier Q X 67 [(0, (2, v0)), (1, (0, v1)), (2, (0, v2)), (3, (0, v3)), (4, (0, v4)), (5, (0, v5)), (6, (0, v6))] [(2, t)] ε μ) ∧ (v4 = v6 → G cd_X12_pier Q X 63 [(0, (2, v0)), (1, (0, v1)), (2, (0, v2)), (3, (0, v3)), (4, (0, v4)), (5, (0, v5)), (6, (0, v6))] [(2, t)] ε μ)))) : G cd_X12_pier Q X 47 [(0, (2, v0)), (1, (0, v1)), (2, (0, v2)), (3, (0, v3)), (4, (0, v4)), (5, (0, v5)), (6, (0, v6))] [(0, t_1), (2, t)] ε μ := by
  refine G_run (m_in [5, 23, 31, 39, 47, 63, 67, 68, 122]) 22 _ _ _ _ ?_
  show m_ty [(0, (2, v0)), (1, (0, v1)), (2, (0, v2)), (3, (0, v3)), (4, (0, v4)), (5, (0, v5)), (6, (0, v6))] [(0, t_1), (2, t)] ε μ → (t_1 ≠ 0 → G cd_X12_pier Q X 63 [(0, (2, v0)), (1, (0, v1)), (2, (0, v2)), (3, (0, v3)), (4, (0, v4)), (5, (0, v5)), (6, (0, v6))] [(2, t)] ε μ) ∧ (t_1 = 0 → (m_ty [(0, (2, v0)), (1, (0, v1)), (2, (0, v2)), (3, (0, v3)), (4, (0, v4)), (5, (0, v5)), (6, (0, v6))] [(2, t)] ε μ → (v3 ≠ v5 → G cd_X12_pier Q X 67 [(0, (2, v0)), (1, (0, v1)), (2, (0, v2)), (3, (0, v3)), (4, (0, v4)), (5, (0, v5)), (6, (0, v6))] [(2, t)] ε μ) ∧ (v3 = v5 → (m_ty [(0, (2, v0)), (1, (0, v1)), (2, (0, v2)), (3, (0, v3)), (4, (0, v4)), (5, (0, v5)), (6, (0, v6))] [(2, t)] ε μ → (v4 ≠ v6 → G cd_X12_pier Q X 67 [(0, (2, v0)), (1, (0, v1)), (2, (0, v2)), (3, (0, v3)), (4, (0, v4)), (5, (0, v5)), (6, (0, v6))] [(2, t)] ε μ) ∧ (v4 = v6 → G cd_X12_pier Q X 63 [(0, (2, v0)), (1, (0, v1)), (2, (0, v2)), (3, (0, v3)), (4, (0, v4)), (5, (0, v5)), (6, (0, v6))] [(2, t)] ε μ)))))
  intro hty
  replace h := h hty.1 (hty.2.1 _ (List.mem_of_getElem? (i := 1) rfl)) (hty.2.1 _ (List.mem_of_getElem? (i := 2) rfl)) (hty.2.1 _ (List.mem_of_getElem? (i := 3) rfl)) (hty.2.1 _ (List.mem_of_getElem? (i := 4) rfl)) (hty.2.1 _ (List.mem_of_getElem? (i := 5) rfl)) (hty.2.1 _ (List.mem_of_getElem? (i := 6) rfl)) (hty.2.2 _ (List.mem_of_getElem? (i := 0) rfl))
  obtain ⟨ha, hb⟩ := h
  refine And.intro (fun c2 => ?_) (fun c2 => ?_)
  · replace h := ha c2
    clear ha hb
    exact h
  · replace h := hb c2
    clear ha hb
    intro _
    obtain ⟨ha, hb⟩ := h
    refine And.intro (fun c1 => ?_) (fun c1 => ?_)
    · replace h := ha c1
      clear ha hb
      exact h
    · replace h := hb c1
      clear ha hb
      intro _
      obtain ⟨ha, hb⟩ := h
      refine And.intro (fun c0 => ?_) (fun c0 => ?_)
      · replace h := ha c0
        clear ha hb
        exact h
      · replace h := hb c0
        clear ha hb
        exact h
set_option maxRecDepth 20000 in
theorem g_X12_pier_39 {Q X : m_Po} {v0 v1 v2 v3 v4 v5 v6 t t_1 : Int} {ε : m_E} {μ : m_M} (h : TY ε μ → i32 v1 → i32 v2 → i32 v3 → i32 v4 → i32 v5 → i32 v6 → i32 t_1 → (t_1 ≠ 0 → G cd_X12_pier Q X 63 [(0, (2, v0)), (1, (0, v1)), (2, (0, v2)), (3, (0, v3)), (4, (0, v4)), (5, (0, v5)), (6, (0, v6))] [(2, t)] ε μ) ∧ (t_1 = 0 → o_X12_isFar [(0, v6)] ε μ (fun z ε_1 μ_1 => G cd_X12_pier Q X 47 [(0, (2, v0)), (1, (0, v1)), (2, (0, v2)), (3, (0, v3)), (4, (0, v4)), (5, (0, v5)), (6, (0, v6))] [(0, z), (2, t)] ε_1 μ_1) m_F)) : G cd_X12_pier Q X 39 [(0, (2, v0)), (1, (0, v1)), (2, (0, v2)), (3, (0, v3)), (4, (0, v4)), (5, (0, v5)), (6, (0, v6))] [(0, t_1), (2, t)] ε μ := by
  refine G_run (m_in [5, 23, 31, 39, 47, 63, 67, 68, 122]) 22 _ _ _ _ ?_
  show m_ty [(0, (2, v0)), (1, (0, v1)), (2, (0, v2)), (3, (0, v3)), (4, (0, v4)), (5, (0, v5)), (6, (0, v6))] [(0, t_1), (2, t)] ε μ → (t_1 ≠ 0 → G cd_X12_pier Q X 63 [(0, (2, v0)), (1, (0, v1)), (2, (0, v2)), (3, (0, v3)), (4, (0, v4)), (5, (0, v5)), (6, (0, v6))] [(2, t)] ε μ) ∧ (t_1 = 0 → (m_ty [(0, (2, v0)), (1, (0, v1)), (2, (0, v2)), (3, (0, v3)), (4, (0, v4)), (5, (0, v5)), (6, (0, v6))] [(2, t)] ε μ → o_X12_isFar [(0, v6)] ε μ (fun z ε_1 μ_1 => G cd_X12_pier Q X 47 [(0, (2, v0)), (1, (0, v1)), (2, (0, v2)), (3, (0, v3)), (4, (0, v4)), (5, (0, v5)), (6, (0, v6))] [(0, z), (2, t)] ε_1 μ_1) m_F))
  intro hty
  replace h := h hty.1 (hty.2.1 _ (List.mem_of_getElem? (i := 1) rfl)) (hty.2.1 _ (List.mem_of_getElem? (i := 2) rfl)) (hty.2.1 _ (List.mem_of_getElem? (i := 3) rfl)) (hty.2.1 _ (List.mem_of_getElem? (i := 4) rfl)) (hty.2.1 _ (List.mem_of_getElem? (i := 5) rfl)) (hty.2.1 _ (List.mem_of_getElem? (i := 6) rfl)) (hty.2.2 _ (List.mem_of_getElem? (i := 0) rfl))
  obtain ⟨ha, hb⟩ := h
  refine And.intro (fun c0 => ?_) (fun c0 => ?_)
  · replace h := ha c0
    clear ha hb
    exact h
  · replace h := hb c0
    clear ha hb
    intro _
    exact h
set_option maxRecDepth 20000 in
theorem g_X12_pier_31 {Q X : m_Po} {v0 v1 v2 v3 v4 v5 v6 t t_1 : Int} {ε : m_E} {μ : m_M} (h : TY ε μ → i32 v1 → i32 v2 → i32 v3 → i32 v4 → i32 v5 → i32 v6 → i32 t_1 → (t_1 ≠ 0 → G cd_X12_pier Q X 63 [(0, (2, v0)), (1, (0, v1)), (2, (0, v2)), (3, (0, v3)), (4, (0, v4)), (5, (0, v5)), (6, (0, v6))] [(2, t)] ε μ) ∧ (t_1 = 0 → o_X12_isFar [(0, v5)] ε μ (fun z ε_1 μ_1 => G cd_X12_pier Q X 39 [(0, (2, v0)), (1, (0, v1)), (2, (0, v2)), (3, (0, v3)), (4, (0, v4)), (5, (0, v5)), (6, (0, v6))] [(0, z), (2, t)] ε_1 μ_1) m_F)) : G cd_X12_pier Q X 31 [(0, (2, v0)), (1, (0, v1)), (2, (0, v2)), (3, (0, v3)), (4, (0, v4)), (5, (0, v5)), (6, (0, v6))] [(0, t_1), (2, t)] ε μ := by
  refine G_run (m_in [5, 23, 31, 39, 47, 63, 67, 68, 122]) 22 _ _ _ _ ?_
  show m_ty [(0, (2, v0)), (1, (0, v1)), (2, (0, v2)), (3, (0, v3)), (4, (0, v4)), (5, (0, v5)), (6, (0, v6))] [(0, t_1), (2, t)] ε μ → (t_1 ≠ 0 → G cd_X12_pier Q X 63 [(0, (2, v0)), (1, (0, v1)), (2, (0, v2)), (3, (0, v3)), (4, (0, v4)), (5, (0, v5)), (6, (0, v6))] [(2, t)] ε μ) ∧ (t_1 = 0 → (m_ty [(0, (2, v0)), (1, (0, v1)), (2, (0, v2)), (3, (0, v3)), (4, (0, v4)), (5, (0, v5)), (6, (0, v6))] [(2, t)] ε μ → o_X12_isFar [(0, v5)] ε μ (fun z ε_1 μ_1 => G cd_X12_pier Q X 39 [(0, (2, v0)), (1, (0, v1)), (2, (0, v2)), (3, (0, v3)), (4, (0, v4)), (5, (0, v5)), (6, (0, v6))] [(0, z), (2, t)] ε_1 μ_1) m_F))
  intro hty
  replace h := h hty.1 (hty.2.1 _ (List.mem_of_getElem? (i := 1) rfl)) (hty.2.1 _ (List.mem_of_getElem? (i := 2) rfl)) (hty.2.1 _ (List.mem_of_getElem? (i := 3) rfl)) (hty.2.1 _ (List.mem_of_getElem? (i := 4) rfl)) (hty.2.1 _ (List.mem_of_getElem? (i := 5) rfl)) (hty.2.1 _ (List.mem_of_getElem? (i := 6) rfl)) (hty.2.2 _ (List.mem_of_getElem? (i := 0) rfl))
  obtain ⟨ha, hb⟩ := h
  refine And.intro (fun c0 => ?_) (fun c0 => ?_)
  · replace h := ha c0
    clear ha hb
    exact h
  · replace h := hb c0
    clear ha hb
    intro _
    exact h
set_option maxRecDepth 20000 in
theorem g_X12_pier_23 {Q X : m_Po} {v0 v1 v2 v3 v4 v5 v6 t t_1 : Int} {ε : m_E} {μ : m_M} (h : TY ε μ → i32 v1 → i32 v2 → i32 v3 → i32 v4 → i32 v5 → i32 v6 → i32 t_1 → (t_1 ≠ 0 → G cd_X12_pier Q X 63 [(0, (2, v0)), (1, (0, v1)), (2, (0, v2)), (3, (0, v3)), (4, (0, v4)), (5, (0, v5)), (6, (0, v6))] [(2, t)] ε μ) ∧ (t_1 = 0 → o_X12_isFar [(0, v4)] ε μ (fun z ε_1 μ_1 => G cd_X12_pier Q X 31 [(0, (2, v0)), (1, (0, v1)), (2, (0, v2)), (3, (0, v3)), (4, (0, v4)), (5, (0, v5)), (6, (0, v6))] [(0, z), (2, t)] ε_1 μ_1) m_F)) : G cd_X12_pier Q X 23 [(0, (2, v0)), (1, (0, v1)), (2, (0, v2)), (3, (0, v3)), (4, (0, v4)), (5, (0, v5)), (6, (0, v6))] [(0, t_1), (2, t)] ε μ := by
  refine G_run (m_in [5, 23, 31, 39, 47, 63, 67, 68, 122]) 22 _ _ _ _ ?_
  show m_ty [(0, (2, v0)), (1, (0, v1)), (2, (0, v2)), (3, (0, v3)), (4, (0, v4)), (5, (0, v5)), (6, (0, v6))] [(0, t_1), (2, t)] ε μ → (t_1 ≠ 0 → G cd_X12_pier Q X 63 [(0, (2, v0)), (1, (0, v1)), (2, (0, v2)), (3, (0, v3)), (4, (0, v4)), (5, (0, v5)), (6, (0, v6))] [(2, t)] ε μ) ∧ (t_1 = 0 → (m_ty [(0, (2, v0)), (1, (0, v1)), (2, (0, v2)), (3, (0, v3)), (4, (0, v4)), (5, (0, v5)), (6, (0, v6))] [(2, t)] ε μ → o_X12_isFar [(0, v4)] ε μ (fun z ε_1 μ_1 => G cd_X12_pier Q X 31 [(0, (2, v0)), (1, (0, v1)), (2, (0, v2)), (3, (0, v3)), (4, (0, v4)), (5, (0, v5)), (6, (0, v6))] [(0, z), (2, t)] ε_1 μ_1) m_F))
  intro hty
  replace h := h hty.1 (hty.2.1 _ (List.mem_of_getElem? (i := 1) rfl)) (hty.2.1 _ (List.mem_of_getElem? (i := 2) rfl)) (hty.2.1 _ (List.mem_of_getElem? (i := 3) rfl)) (hty.2.1 _ (List.mem_of_getElem? (i := 4) rfl)) (hty.2.1 _ (List.mem_of_getElem? (i := 5) rfl)) (hty.2.1 _ (List.mem_of_getElem? (i := 6) rfl)) (hty.2.2 _ (List.mem_of_getElem? (i := 0) rfl))
  obtain ⟨ha, hb⟩ := h
  refine And.intro (fun c0 => ?_) (fun c0 => ?_)
  · replace h := ha c0
    clear ha hb
    exact h
  · replace h := hb c0
    clear ha hb
    intro _
    exact h
set_option maxRecDepth 20000 in
theorem g_X12_pier_5 {Q X : m_Po} {v0 v1 v2 v3 v4 v5 v6 t : Int} {ε : m_E} {μ : m_M} (h : TY ε μ → i32 v1 → i32 v2 → i32 v3 → i32 v4 → i32 v5 → i32 v6 → i32 t → (t ≠ 0 → (v2 < 0 → G cd_X12_pier Q X 63 [(0, (2, v0)), (1, (0, v1)), (2, (0, v2)), (3, (0, v3)), (4, (0, v4)), (5, (0, v5)), (6, (0, v6))] [(2, v0)] ε μ) ∧ (0 ≤ v2 → ((1 : Int) < v2 → G cd_X12_pier Q X 63 [(0, (2, v0)), (1, (0, v1)), (2, (0, v2)), (3, (0, v3)), (4, (0, v4)), (5, (0, v5)), (6, (0, v6))] [(2, v0)] ε μ) ∧ (v2 ≤ (1 : Int) → o_X12_isFar [(0, v3)] ε μ (fun z ε_1 μ_1 => G cd_X12_pier Q X 23 [(0, (2, v0)), (1, (0, v1)), (2, (0, v2)), (3, (0, v3)), (4, (0, v4)), (5, (0, v5)), (6, (0, v6))] [(0, z), (2, v0)] ε_1 μ_1) m_F))) ∧ (t = 0 → Q 0 ε μ)) : G cd_X12_pier Q X 5 [(0, (2, v0)), (1, (0, v1)), (2, (0, v2)), (3, (0, v3)), (4, (0, v4)), (5, (0, v5)), (6, (0, v6))] [(0, t)] ε μ := by
  refine G_run (m_in [5, 23, 31, 39, 47, 63, 67, 68, 122]) 22 _ _ _ _ ?_
  show m_ty [(0, (2, v0)), (1, (0, v1)), (2, (0, v2)), (3, (0, v3)), (4, (0, v4)), (5, (0, v5)), (6, (0, v6))] [(0, t)] ε μ → (t ≠ 0 → (m_ty [(0, (2, v0)), (1, (0, v1)), (2, (0, v2)), (3, (0, v3)), (4, (0, v4)), (5, (0, v5)), (6, (0, v6))] [] ε μ → (v2 < 0 → G cd_X12_pier Q X 63 [(0, (2, v0)), (1, (0, v1)), (2, (0, v2)), (3, (0, v3)), (4, (0, v4)), (5, (0, v5)), (6, (0, v6))] [(2, v0)] ε μ) ∧ (0 ≤ v2 → (m_ty [(0, (2, v0)), (1, (0, v1)), (2, (0, v2)), (3, (0, v3)), (4, (0, v4)), (5, (0, v5)), (6, (0, v6))] [(2, v0)] ε μ → ((1 : Int) < v2 → G cd_X12_pier Q X 63 [(0, (2, v0)), (1, (0, v1)), (2, (0, v2)), (3, (0, v3)), (4, (0, v4)), (5, (0, v5)), (6, (0, v6))] [(2, v0)] ε μ) ∧ (v2 ≤ (1 : Int) → (m_ty [(0, (2, v0)), (1, (0, v1)), (2, (0, v2)), (3, (0, v3)), (4, (0, v4)), (5, (0, v5)), (6, (0, v6))] [(2, v0)] ε μ → o_X12_isFar [(0, v3)] ε μ (fun z ε_1 μ_1 => G cd_X12_pier Q X 23 [(0, (2, v0)), (1, (0, v1)), (2, (0, v2)), (3, (0, v3)), (4, (0, v4)), (5, (0, v5)), (6, (0, v6))] [(0, z), (2, v0)] ε_1 μ_1) m_F)))))) ∧ (t = 0 → (m_ty [] [] ε μ → Q 0 ε μ))
  intro hty
  replace h := h hty.1 (hty.2.1 _ (List.mem_of_getElem? (i := 1) rfl)) (hty.2.1 _ (List.mem_of_getElem? (i := 2) rfl)) (hty.2.1 _ (List.mem_of_getElem? (i := 3) rfl)) (hty.2.1 _ (List.mem_of_getElem? (i := 4) rfl)) (hty.2.1 _ (List.mem_of_getElem? (i := 5) rfl)) (hty.2.1 _ (List.mem_of_getElem? (i := 6) rfl)) (hty.2.2 _ (List.mem_of_getElem? (i := 0) rfl))
  obtain ⟨ha, hb⟩ := h
  refine And.intro (fun c2 => ?_) (fun c2 => ?_)
  · replace h := ha c2
    clear ha hb
    intro _
    obtain ⟨ha, hb⟩ := h
    refine And.intro (fun c1 => ?_) (fun c1 => ?_)
    · replace h := ha c1
      clear ha hb
      exact h
    · replace h := hb c1
      clear ha hb
      intro _
      obtain ⟨ha, hb⟩ := h
      refine And.intro (fun c0 => ?_) (fun c0 => ?_)
      · replace h := ha c0
        clear ha hb
        exact h
      · replace h := hb c0
        clear ha hb
        intro _
        exact h
  · replace h := hb c2
    clear ha hb
    intro _
    exact h
set_option maxRecDepth 20000 in
theorem g_X12_pier_0 {Q X : m_Po} {v0 v1 v2 v3 v4 v5 v6 : Int} {ε : m_E} {μ : m_M} (h : TY ε μ → i32 v1 → i32 v2 → i32 v3 → i32 v4 → i32 v5 → i32 v6 → kd ε v0 = 11 ∧ o_X12_isArch [(2, v0), (0, v1)] ε μ (fun z ε_1 μ_1 => G cd_X12_pier Q X 5 [(0, (2, v0)), (1, (0, v1)), (2, (0, v2)), (3, (0, v3)), (4, (0, v4)), (5, (0, v5)), (6, (0, v6))] [(0, z)] ε_1 μ_1) m_F) : G cd_X12_pier Q X 0 [(0, (2, v0)), (1, (0, v1)), (2, (0, v2)), (3, (0, v3)), (4, (0, v4)), (5, (0, v5)), (6, (0, v6))] [] ε μ := by
  refine G_run (m_in [5, 23, 31, 39, 47, 63, 67, 68, 122]) 22 _ _ _ _ ?_
  show m_ty [(0, (2, v0)), (1, (0, v1)), (2, (0, v2)), (3, (0, v3)), (4, (0, v4)), (5, (0, v5)), (6, (0, v6))] [] ε μ → (kd ε v0 = 11) ∧ o_X12_isArch [(2, v0), (0, v1)] ε μ (fun z ε_1 μ_1 => G cd_X12_pier Q X 5 [(0, (2, v0)), (1, (0, v1)), (2, (0, v2)), (3, (0, v3)), (4, (0, v4)), (5, (0, v5)), (6, (0, v6))] [(0, z)] ε_1 μ_1) m_F
  intro hty
  replace h := h hty.1 (hty.2.1 _ (List.mem_of_getElem? (i := 1) rfl)) (hty.2.1 _ (List.mem_of_getElem? (i := 2) rfl)) (hty.2.1 _ (List.mem_of_getElem? (i := 3) rfl)) (hty.2.1 _ (List.mem_of_getElem? (i := 4) rfl)) (hty.2.1 _ (List.mem_of_getElem? (i := 5) rfl)) (hty.2.1 _ (List.mem_of_getElem? (i := 6) rfl))
  obtain ⟨k1, h⟩ := h
  refine And.intro k1 ?_
  exact h
theorem e_X12_pier {Q X : m_Po} {v0 v1 v2 v3 v4 v5 v6 : Int} {ε : m_E} {μ : m_M} (h : TY ε μ → i32 v1 → i32 v2 → i32 v3 → i32 v4 → i32 v5 → i32 v6 → kd ε v0 = 11 ∧ o_X12_isArch [(2, v0), (0, v1)] ε μ (fun z ε_1 μ_1 => G cd_X12_pier Q X 5 [(0, (2, v0)), (1, (0, v1)), (2, (0, v2)), (3, (0, v3)), (4, (0, v4)), (5, (0, v5)), (6, (0, v6))] [(0, z)] ε_1 μ_1) m_F) : o_X12_pier [(2, v0), (0, v1), (0, v2), (0, v3), (0, v4), (0, v5), (0, v6)] ε μ Q X := And.intro rfl (g_X12_pier_0 h)
/-! ArchYardModel.place(III)V -/
set_option maxRecDepth 20000 in
theorem g_X12_place_162 {Q X : m_Po} {v0 v1 v2 v4 v5 : Int} {ε : m_E} {μ : m_M} (h : TY ε μ → i32 v1 → i32 v2 → i32 v4 → i32 v5 → ∀ v5_1 : Int, v5_1 = w32 (v5 + 1) → G cd_X12_place Q X 72 [(0, (2, v0)), (1, (0, v1)), (2, (0, v2)), (4, (0, v4)), (5, (0, v5_1))] [] ε μ) : G cd_X12_place Q X 162 [(0, (2, v0)), (1, (0, v1)), (2, (0, v2)), (4, (0, v4)), (5, (0, v5))] [] ε μ := by
  refine G_run (m_in [6, 30, 72, 150, 162]) 20 _ _ _ _ ?_
  show m_ty [(0, (2, v0)), (1, (0, v1)), (2, (0, v2)), (4, (0, v4)), (5, (0, v5))] [] ε μ → ∀ v5_1 : Int, v5_1 = w32 (v5 + 1) → G cd_X12_place Q X 72 [(0, (2, v0)), (1, (0, v1)), (2, (0, v2)), (4, (0, v4)), (5, (0, v5_1))] [] ε μ
  intro hty
  replace h := h hty.1 (hty.2.1 _ (List.mem_of_getElem? (i := 1) rfl)) (hty.2.1 _ (List.mem_of_getElem? (i := 2) rfl)) (hty.2.1 _ (List.mem_of_getElem? (i := 3) rfl)) (hty.2.1 _ (List.mem_of_getElem? (i := 4) rfl))
  intro v5_1 e_v5_1
  replace h := h v5_1 e_v5_1
  exact h
set_option maxRecDepth 20000 in
theorem g_X12_place_150 {Q X : m_Po} {v0 v1 v2 v4 v5 t t_1 t_2 : Int} {ε : m_E} {μ : m_M} (h : TY ε μ → i32 v1 → i32 v2 → i32 v4 → i32 v5 → i32 t_1 → i32 t_2 → kd ε v0 = 11 ∧ kd ε (fn ε v0 24) = 100 ∧ (0 : Int) ≤ v5 ∧ v5 < ln ε (fn ε v0 24) ∧ kd ε t = 100 ∧ (0 : Int) ≤ w32 (t_1 + t_2) ∧ w32 (t_1 + t_2) < ln ε t ∧ ∀ μ_1 : m_M, μ_1 = st μ t (w32 (t_1 + t_2)) (μ (fn ε v0 24) v5) → ∀ v4_1 : Int, v4_1 = w32 (v4 + 1) → G cd_X12_place Q X 162 [(0, (2, v0)), (1, (0, v1)), (2, (0, v2)), (4, (0, v4_1)), (5, (0, v5))] [] ε μ_1) : G cd_X12_place Q X 150 [(0, (2, v0)), (1, (0, v1)), (2, (0, v2)), (4, (0, v4)), (5, (0, v5))] [(0, t_2), (0, t_1), (2, t)] ε μ := by
  refine G_run (m_in [6, 30, 72, 150, 162]) 20 _ _ _ _ ?_
  show m_ty [(0, (2, v0)), (1, (0, v1)), (2, (0, v2)), (4, (0, v4)), (5, (0, v5))] [(0, t_2), (0, t_1), (2, t)] ε μ → (kd ε v0 = 11) ∧ (kd ε (fn ε v0 24) = 100) ∧ ((0 : Int) ≤ v5 ∧ v5 < ln ε (fn ε v0 24)) ∧ (kd ε t = 100) ∧ ((0 : Int) ≤ w32 (t_1 + t_2) ∧ w32 (t_1 + t_2) < ln ε t) ∧ ∀ μ_1 : m_M, μ_1 = st μ t (w32 (t_1 + t_2)) (μ (fn ε v0 24) v5) → ∀ v4_1 : Int, v4_1 = w32 (v4 + 1) → G cd_X12_place Q X 162 [(0, (2, v0)), (1, (0, v1)), (2, (0, v2)), (4, (0, v4_1)), (5, (0, v5))] [] ε μ_1
  intro hty
  replace h := h hty.1 (hty.2.1 _ (List.mem_of_getElem? (i := 1) rfl)) (hty.2.1 _ (List.mem_of_getElem? (i := 2) rfl)) (hty.2.1 _ (List.mem_of_getElem? (i := 3) rfl)) (hty.2.1 _ (List.mem_of_getElem? (i := 4) rfl)) (hty.2.2 _ (List.mem_of_getElem? (i := 1) rfl)) (hty.2.2 _ (List.mem_of_getElem? (i := 0) rfl))
  obtain ⟨k1, h⟩ := h
  refine And.intro k1 ?_
  obtain ⟨k2, h⟩ := h
  refine And.intro k2 ?_
  obtain ⟨k3, h⟩ := h
  obtain ⟨k4, h⟩ := h
  refine And.intro (And.intro k3 k4) ?_
  obtain ⟨k5, h⟩ := h
  refine And.intro k5 ?_
  obtain ⟨k6, h⟩ := h
  obtain ⟨k7, h⟩ := h
  refine And.intro (And.intro k6 k7) ?_
  intro μ_1 e_μ_1
  replace h := h μ_1 e_μ_1
  intro v4_1 e_v4_1
  replace h := h v4_1 e_v4_1
  exact h
set_option maxRecDepth 20000 in
theorem g_X12_place_72 {Q X : m_Po} {v0 v1 v2 v4 v5 : Int} {ε : m_E} {μ : m_M} (h : TY ε μ → i32 v1 → i32 v2 → i32 v4 → i32 v5 → kd ε v0 = 11 ∧ kd ε (fn ε v0 21) = 100 ∧ (0 : Int) ≤ v1 ∧ v1 < ln ε (fn ε v0 21) ∧ ((w32 ((w32 (6 * v1)) + (μ (fn ε v0 21) v1))) ≤ v5 → ∀ μ_1 : m_M, μ_1 = st μ (fn ε v0 21) v1 v4 → Q 0 ε μ_1) ∧ (v5 < (w32 ((w32 (6 * v1)) + (μ (fn ε v0 21) v1))) → kd ε (fn ε v0 22) = 100 ∧ (0 : Int) ≤ v5 ∧ v5 < ln ε (fn ε v0 22) ∧ ((μ (fn ε v0 22) v5) ≠ v2 → (0 : Int) ≤ w32 ((w32 (6 * v1)) + v4) ∧ w32 ((w32 (6 * v1)) + v4) < ln ε (fn ε v0 22) ∧ ∀ μ_2 : m_M, μ_2 = st μ (fn ε v0 22) (w32 ((w32 (6 * v1)) + v4)) (μ (fn ε v0 22) v5) → kd ε (fn ε v0 23) = 100 ∧ v5 < ln ε (fn ε v0 23) ∧ w32 ((w32 (6 * v1)) + v4) < ln ε (fn ε v0 23) ∧ ∀ μ_3 : m_M, μ_3 = st μ_2 (fn ε v0 23) (w32 ((w32 (6 * v1)) + v4)) (μ_2 (fn ε v0 23) v5) → kd ε v0 = 11 ∧ kd ε (fn ε v0 24) = 100 ∧ (0 : Int) ≤ v5 ∧ v5 < ln ε (fn ε v0 24) ∧ kd ε (fn ε v0 24) = 100 ∧ (0 : Int) ≤ w32 ((w32 (6 * v1)) + v4) ∧ w32 ((w32 (6 * v1)) + v4) < ln ε (fn ε v0 24) ∧ ∀ μ_4 : m_M, μ_4 = st μ_3 (fn ε v0 24) (w32 ((w32 (6 * v1)) + v4)) (μ_3 (fn ε v0 24) v5) → ∀ v4_1 : Int, v4_1 = w32 (v4 + 1) → G cd_X12_place Q X 162 [(0, (2, v0)), (1, (0, v1)), (2, (0, v2)), (4, (0, v4_1)), (5, (0, v5))] [] ε μ_4) ∧ ((μ (fn ε v0 22) v5) = v2 → G cd_X12_place Q X 162 [(0, (2, v0)), (1, (0, v1)), (2, (0, v2)), (4, (0, v4)), (5, (0, v5))] [] ε μ))) : G cd_X12_place Q X 72 [(0, (2, v0)), (1, (0, v1)), (2, (0, v2)), (4, (0, v4)), (5, (0, v5))] [] ε μ := by
  refine G_run (m_in [6, 30, 72, 150, 162]) 20 _ _ _ _ ?_
  show m_ty [(0, (2, v0)), (1, (0, v1)), (2, (0, v2)), (4, (0, v4)), (5, (0, v5))] [] ε μ → (kd ε v0 = 11) ∧ (kd ε (fn ε v0 21) = 100) ∧ ((0 : Int) ≤ v1 ∧ v1 < ln ε (fn ε v0 21)) ∧ ((w32 ((w32 (6 * v1)) + (μ (fn ε v0 21) v1))) ≤ v5 → (m_ty [(0, (2, v0)), (1, (0, v1)), (4, (0, v4))] [] ε μ → (kd ε v0 = 11) ∧ (kd ε (fn ε v0 21) = 100) ∧ ((0 : Int) ≤ v1 ∧ v1 < ln ε (fn ε v0 21)) ∧ ∀ μ_1 : m_M, μ_1 = st μ (fn ε v0 21) v1 v4 → Q 0 ε μ_1)) ∧ (v5 < (w32 ((w32 (6 * v1)) + (μ (fn ε v0 21) v1))) → (m_ty [(0, (2, v0)), (1, (0, v1)), (2, (0, v2)), (4, (0, v4)), (5, (0, v5))] [] ε μ → (kd ε v0 = 11) ∧ (kd ε (fn ε v0 22) = 100) ∧ ((0 : Int) ≤ v5 ∧ v5 < ln ε (fn ε v0 22)) ∧ ((μ (fn ε v0 22) v5) ≠ v2 → (m_ty [(0, (2, v0)), (1, (0, v1)), (2, (0, v2)), (4, (0, v4)), (5, (0, v5))] [] ε μ → (kd ε v0 = 11) ∧ (kd ε v0 = 11) ∧ (kd ε (fn ε v0 22) = 100) ∧ ((0 : Int) ≤ v5 ∧ v5 < ln ε (fn ε v0 22)) ∧ (kd ε (fn ε v0 22) = 100) ∧ ((0 : Int) ≤ w32 ((w32 (6 * v1)) + v4) ∧ w32 ((w32 (6 * v1)) + v4) < ln ε (fn ε v0 22)) ∧ ∀ μ_2 : m_M, μ_2 = st μ (fn ε v0 22) (w32 ((w32 (6 * v1)) + v4)) (μ (fn ε v0 22) v5) → (kd ε v0 = 11) ∧ (kd ε v0 = 11) ∧ (kd ε (fn ε v0 23) = 100) ∧ ((0 : Int) ≤ v5 ∧ v5 < ln ε (fn ε v0 23)) ∧ (kd ε (fn ε v0 23) = 100) ∧ ((0 : Int) ≤ w32 ((w32 (6 * v1)) + v4) ∧ w32 ((w32 (6 * v1)) + v4) < ln ε (fn ε v0 23)) ∧ ∀ μ_3 : m_M, μ_3 = st μ_2 (fn ε v0 23) (w32 ((w32 (6 * v1)) + v4)) (μ_2 (fn ε v0 23) v5) → (kd ε v0 = 11) ∧ G cd_X12_place Q X 150 [(0, (2, v0)), (1, (0, v1)), (2, (0, v2)), (4, (0, v4)), (5, (0, v5))] [(0, v4), (0, w32 (6 * v1)), (2, fn ε v0 24)] ε μ_3)) ∧ ((μ (fn ε v0 22) v5) = v2 → (m_ty [(0, (2, v0)), (1, (0, v1)), (2, (0, v2)), (4, (0, v4)), (5, (0, v5))] [] ε μ → G cd_X12_place Q X 162 [(0, (2, v0)), (1, (0, v1)), (2, (0, v2)), (4, (0, v4)), (5, (0, v5))] [] ε μ))))
  intro hty
  replace h := h hty.1 (hty.2.1 _ (List.mem_of_getElem? (i := 1) rfl)) (hty.2.1 _ (List.mem_of_getElem? (i := 2) rfl)) (hty.2.1 _ (List.mem_of_getElem? (i := 3) rfl)) (hty.2.1 _ (List.mem_of_getElem? (i := 4) rfl))
  obtain ⟨k1, h⟩ := h
  refine And.intro k1 ?_
  obtain ⟨k2, h⟩ := h
  refine And.intro k2 ?_
  obtain ⟨k3, h⟩ := h
  obtain ⟨k4, h⟩ := h
  refine And.intro (And.intro k3 k4) ?_
  obtain ⟨ha, hb⟩ := h
  refine And.intro (fun c20 => ?_) (fun c20 => ?_)
  · replace h := ha c20
    clear ha hb
    intro _
    refine And.intro k1 ?_
    refine And.intro k2 ?_
    refine And.intro (And.intro k3 k4) ?_
    intro μ_1 e_μ_1
    replace h := h μ_1 e_μ_1
    exact h
  · replace h := hb c20
    clear ha hb
    intro _
    refine And.intro k1 ?_
    obtain ⟨k5, h⟩ := h
    refine And.intro k5 ?_
    obtain ⟨k6, h⟩ := h
    obtain ⟨k7, h⟩ := h
    refine And.intro (And.intro k6 k7) ?_
    obtain ⟨ha, hb⟩ := h
    refine And.intro (fun c19 => ?_) (fun c19 => ?_)
    · replace h := ha c19
      clear ha hb
      intro _
      refine And.intro k1 ?_
      refine And.intro k1 ?_
      refine And.intro k5 ?_
      refine And.intro (And.intro k6 k7) ?_
      refine And.intro k5 ?_
      obtain ⟨k8, h⟩ := h
      obtain ⟨k9, h⟩ := h
      refine And.intro (And.intro k8 k9) ?_
      intro μ_2 e_μ_2
      replace h := h μ_2 e_μ_2
      refine And.intro k1 ?_
      refine And.intro k1 ?_
      obtain ⟨k10, h⟩ := h
      refine And.intro k10 ?_
      obtain ⟨k11, h⟩ := h
      refine And.intro (And.intro k6 k11) ?_
      refine And.intro k10 ?_
      obtain ⟨k12, h⟩ := h
      refine And.intro (And.intro k8 k12) ?_
      intro μ_3 e_μ_3
      replace h := h μ_3 e_μ_3
      refine And.intro k1 ?_
      exact g_X12_place_150 (fun _ _ _ _ _ _ _ => h)
    · replace h := hb c19
      clear ha hb
      intro _
      exact h
set_option maxRecDepth 20000 in
theorem g_X12_place_30 {Q X : m_Po} {v0 v1 v2 v3 t t_1 : Int} {ε : m_E} {μ : m_M} (h : TY ε μ → i32 v1 → i32 v2 → i32 v3 → i32 t_1 → kd ε t = 11 ∧ ∀ μ_1 : m_M, μ_1 = st μ t 0 t_1 → kd ε v0 = 11 ∧ ((μ_1 v0 0) ≤ 0 → kd ε (fn ε v0 18) = 100 ∧ (0 : Int) ≤ w32 ((w32 (10 * v1)) + v2) ∧ w32 ((w32 (10 * v1)) + v2) < ln ε (fn ε v0 18) ∧ ∀ μ_2 : m_M, μ_2 = st μ_1 (fn ε v0 18) (w32 ((w32 (10 * v1)) + v2)) v3 → ∀ μ_3 : m_M, μ_3 = st μ_2 v0 66 (-1) → (v3 < 0 → ∀ v4 : Int, v4 = 0 → ∀ v5 : Int, v5 = w32 (6 * v1) → G cd_X12_place Q X 72 [(0, (2, v0)), (1, (0, v1)), (2, (0, v2)), (4, (0, v4)), (5, (0, v5))] [] ε μ_3) ∧ (0 ≤ v3 → Q 0 ε μ_3)) ∧ (0 < (μ_1 v0 0) → Q 0 ε μ_1)) : G cd_X12_place Q X 30 [(0, (2, v0)), (1, (0, v1)), (2, (0, v2)), (3, (0, v3))] [(0, t_1), (2, t)] ε μ := by
  refine G_run (m_in [6, 30, 72, 150, 162]) 20 _ _ _ _ ?_
  show m_ty [(0, (2, v0)), (1, (0, v1)), (2, (0, v2)), (3, (0, v3))] [(0, t_1), (2, t)] ε μ → (kd ε t = 11) ∧ ∀ μ_1 : m_M, μ_1 = st μ t 0 t_1 → (kd ε v0 = 11) ∧ ((μ_1 v0 0) ≤ 0 → (m_ty [(0, (2, v0)), (1, (0, v1)), (2, (0, v2)), (3, (0, v3))] [] ε μ_1 → (kd ε v0 = 11) ∧ (kd ε (fn ε v0 18) = 100) ∧ ((0 : Int) ≤ w32 ((w32 (10 * v1)) + v2) ∧ w32 ((w32 (10 * v1)) + v2) < ln ε (fn ε v0 18)) ∧ ∀ μ_2 : m_M, μ_2 = st μ_1 (fn ε v0 18) (w32 ((w32 (10 * v1)) + v2)) v3 → (kd ε v0 = 11) ∧ ∀ μ_3 : m_M, μ_3 = st μ_2 v0 66 (-1) → (v3 < 0 → (m_ty [(0, (2, v0)), (1, (0, v1)), (2, (0, v2))] [] ε μ_3 → ∀ v4 : Int, v4 = 0 → ∀ v5 : Int, v5 = w32 (6 * v1) → G cd_X12_place Q X 72 [(0, (2, v0)), (1, (0, v1)), (2, (0, v2)), (4, (0, v4)), (5, (0, v5))] [] ε μ_3)) ∧ (0 ≤ v3 → (m_ty [] [] ε μ_3 → Q 0 ε μ_3)))) ∧ (0 < (μ_1 v0 0) → (m_ty [] [] ε μ_1 → Q 0 ε μ_1))
  intro hty
  replace h := h hty.1 (hty.2.1 _ (List.mem_of_getElem? (i := 1) rfl)) (hty.2.1 _ (List.mem_of_getElem? (i := 2) rfl)) (hty.2.1 _ (List.mem_of_getElem? (i := 3) rfl)) (hty.2.2 _ (List.mem_of_getElem? (i := 0) rfl))
  obtain ⟨k1, h⟩ := h
  refine And.intro k1 ?_
  intro μ_1 e_μ_1
  replace h := h μ_1 e_μ_1
  obtain ⟨k2, h⟩ := h
  refine And.intro k2 ?_
  obtain ⟨ha, hb⟩ := h
  refine And.intro (fun c6 => ?_) (fun c6 => ?_)
  · replace h := ha c6
    clear ha hb
    intro _
    refine And.intro k2 ?_
    obtain ⟨k3, h⟩ := h
    refine And.intro k3 ?_
    obtain ⟨k4, h⟩ := h
    obtain ⟨k5, h⟩ := h
    refine And.intro (And.intro k4 k5) ?_
    intro μ_2 e_μ_2
    replace h := h μ_2 e_μ_2
    refine And.intro k2 ?_
    intro μ_3 e_μ_3
    replace h := h μ_3 e_μ_3
    obtain ⟨ha, hb⟩ := h
    refine And.intro (fun c5 => ?_) (fun c5 => ?_)
    · replace h := ha c5
      clear ha hb
      intro _
      intro v4 e_v4
      replace h := h v4 e_v4
      intro v5 e_v5
      replace h := h v5 e_v5
      exact h
    · replace h := hb c5
      clear ha hb
      intro _
      exact h
  · replace h := hb c6
    clear ha hb
    intro _
    exact h
set_option maxRecDepth 20000 in
theorem g_X12_place_6 {Q X : m_Po} {v0 v1 v2 v3 t : Int} {ε : m_E} {μ : m_M} (h : TY ε μ → i32 v1 → i32 v2 → i32 v3 → i32 t → (t ≠ 0 → (((-2) ≤ v3 → kd ε v0 = 11)) ∧ ∀ t_1 : Int, t_1 = (if v3 < (-2) then 1 else if v3 < (μ v0 14) then 0 else 1) → kd ε v0 = 11 ∧ ∀ μ_1 : m_M, μ_1 = st μ v0 0 t_1 → kd ε v0 = 11 ∧ ((μ_1 v0 0) ≤ 0 → kd ε (fn ε v0 18) = 100 ∧ (0 : Int) ≤ w32 ((w32 (10 * v1)) + v2) ∧ w32 ((w32 (10 * v1)) + v2) < ln ε (fn ε v0 18) ∧ ∀ μ_2 : m_M, μ_2 = st μ_1 (fn ε v0 18) (w32 ((w32 (10 * v1)) + v2)) v3 → ∀ μ_3 : m_M, μ_3 = st μ_2 v0 66 (-1) → (v3 < 0 → ∀ v4 : Int, v4 = 0 → ∀ v5 : Int, v5 = w32 (6 * v1) → G cd_X12_place Q X 72 [(0, (2, v0)), (1, (0, v1)), (2, (0, v2)), (4, (0, v4)), (5, (0, v5))] [] ε μ_3) ∧ (0 ≤ v3 → Q 0 ε μ_3)) ∧ (0 < (μ_1 v0 0) → Q 0 ε μ_1)) ∧ (t = 0 → Q 0 ε μ)) : G cd_X12_place Q X 6 [(0, (2, v0)), (1, (0, v1)), (2, (0, v2)), (3, (0, v3))] [(0, t)] ε μ := by
  refine G_run (m_in [6, 30, 72, 150, 162]) 20 _ _ _ _ ?_
  show m_ty [(0, (2, v0)), (1, (0, v1)), (2, (0, v2)), (3, (0, v3))] [(0, t)] ε μ → (t ≠ 0 → (m_ty [(0, (2, v0)), (1, (0, v1)), (2, (0, v2)), (3, (0, v3))] [] ε μ → (v3 < (-2) → (m_ty [(0, (2, v0)), (1, (0, v1)), (2, (0, v2)), (3, (0, v3))] [(2, v0)] ε μ → G cd_X12_place Q X 30 [(0, (2, v0)), (1, (0, v1)), (2, (0, v2)), (3, (0, v3))] [(0, 1), (2, v0)] ε μ)) ∧ ((-2) ≤ v3 → (m_ty [(0, (2, v0)), (1, (0, v1)), (2, (0, v2)), (3, (0, v3))] [(2, v0)] ε μ → (kd ε v0 = 11) ∧ (v3 < (μ v0 14) → (m_ty [(0, (2, v0)), (1, (0, v1)), (2, (0, v2)), (3, (0, v3))] [(2, v0)] ε μ → G cd_X12_place Q X 30 [(0, (2, v0)), (1, (0, v1)), (2, (0, v2)), (3, (0, v3))] [(0, 0), (2, v0)] ε μ)) ∧ ((μ v0 14) ≤ v3 → (m_ty [(0, (2, v0)), (1, (0, v1)), (2, (0, v2)), (3, (0, v3))] [(2, v0)] ε μ → G cd_X12_place Q X 30 [(0, (2, v0)), (1, (0, v1)), (2, (0, v2)), (3, (0, v3))] [(0, 1), (2, v0)] ε μ)))))) ∧ (t = 0 → (m_ty [] [] ε μ → Q 0 ε μ))
  intro hty
  replace h := h hty.1 (hty.2.1 _ (List.mem_of_getElem? (i := 1) rfl)) (hty.2.1 _ (List.mem_of_getElem? (i := 2) rfl)) (hty.2.1 _ (List.mem_of_getElem? (i := 3) rfl)) (hty.2.2 _ (List.mem_of_getElem? (i := 0) rfl))
  obtain ⟨ha, hb⟩ := h
  refine And.intro (fun c10 => ?_) (fun c10 => ?_)
  · replace h := ha c10
    clear ha hb
    intro _
    obtain ⟨hc, hj⟩ := h
    refine And.intro (fun c0 => ?_) (fun c0 => ?_)
    · intro _
      exact g_X12_place_30 (fun _ _ _ _ _ => (hj _ (((if_pos c0).trans rfl)).symm))
    · replace hc := hc c0
      intro _
      have k2 := hc
      refine And.intro k2 ?_
      refine And.intro (fun c2 => ?_) (fun c2 => ?_)
      · intro _
        exact g_X12_place_30 (fun _ _ _ _ _ => (hj _ (((if_neg (Int.not_lt.mpr c0)).trans ((if_pos c2).trans rfl))).symm))
      · intro _
        exact g_X12_place_30 (fun _ _ _ _ _ => (hj _ (((if_neg (Int.not_lt.mpr c0)).trans ((if_neg (Int.not_lt.mpr c2)).trans rfl))).symm))
  · replace h := hb c10
    clear ha hb
    intro _
    exact h
set_option maxRecDepth 20000 in
theorem g_X12_place_0 {Q X : m_Po} {v0 v1 v2 v3 : Int} {ε : m_E} {μ : m_M} (h : TY ε μ → i32 v1 → i32 v2 → i32 v3 → kd ε v0 = 11 ∧ o_X12_isPlace [(2, v0), (0, v1), (0, v2)] ε μ (fun z ε_1 μ_1 => G cd_X12_place Q X 6 [(0, (2, v0)), (1, (0, v1)), (2, (0, v2)), (3, (0, v3))] [(0, z)] ε_1 μ_1) m_F) : G cd_X12_place Q X 0 [(0, (2, v0)), (1, (0, v1)), (2, (0, v2)), (3, (0, v3))] [] ε μ := by
  refine G_run (m_in [6, 30, 72, 150, 162]) 20 _ _ _ _ ?_
  show m_ty [(0, (2, v0)), (1, (0, v1)), (2, (0, v2)), (3, (0, v3))] [] ε μ → (kd ε v0 = 11) ∧ o_X12_isPlace [(2, v0), (0, v1), (0, v2)] ε μ (fun z ε_1 μ_1 => G cd_X12_place Q X 6 [(0, (2, v0)), (1, (0, v1)), (2, (0, v2)), (3, (0, v3))] [(0, z)] ε_1 μ_1) m_F
  intro hty
  replace h := h hty.1 (hty.2.1 _ (List.mem_of_getElem? (i := 1) rfl)) (hty.2.1 _ (List.mem_of_getElem? (i := 2) rfl)) (hty.2.1 _ (List.mem_of_getElem? (i := 3) rfl))
  obtain ⟨k1, h⟩ := h
  refine And.intro k1 ?_
  exact h
theorem e_X12_place {Q X : m_Po} {v0 v1 v2 v3 : Int} {ε : m_E} {μ : m_M} (h : TY ε μ → i32 v1 → i32 v2 → i32 v3 → kd ε v0 = 11 ∧ o_X12_isPlace [(2, v0), (0, v1), (0, v2)] ε μ (fun z ε_1 μ_1 => G cd_X12_place Q X 6 [(0, (2, v0)), (1, (0, v1)), (2, (0, v2)), (3, (0, v3))] [(0, z)] ε_1 μ_1) m_F) : o_X12_place [(2, v0), (0, v1), (0, v2), (0, v3)] ε μ Q X := And.intro rfl (g_X12_place_0 h)
/-! ArchYardModel.there(II)I -/
set_option maxRecDepth 20000 in
theorem g_X12_there_24 {Q X : m_Po} {t : Int} {ε : m_E} {μ : m_M} (h : TY ε μ → i32 t → Q t ε μ) : G cd_X12_there Q X 24 [] [(0, t)] ε μ := by
  refine G_run (m_in [6, 24]) 6 _ _ _ _ ?_
  show m_ty [] [(0, t)] ε μ → Q t ε μ
  intro hty
  replace h := h hty.1 (hty.2.2 _ (List.mem_of_getElem? (i := 0) rfl))
  exact h
set_option maxRecDepth 20000 in
theorem g_X12_there_6 {Q X : m_Po} {v0 v1 v2 t : Int} {ε : m_E} {μ : m_M} (h : TY ε μ → i32 v1 → i32 v2 → i32 t → ((t ≠ 0 → kd ε v0 = 11 ∧ kd ε (fn ε v0 18) = 100 ∧ (0 : Int) ≤ w32 ((w32 (10 * v1)) + v2) ∧ w32 ((w32 (10 * v1)) + v2) < ln ε (fn ε v0 18))) ∧ ∀ t_1 : Int, t_1 = (if t = 0 then 0 else μ (fn ε v0 18) (w32 ((w32 (10 * v1)) + v2))) → Q t_1 ε μ) : G cd_X12_there Q X 6 [(0, (2, v0)), (1, (0, v1)), (2, (0, v2))] [(0, t)] ε μ := by
  refine G_run (m_in [6, 24]) 6 _ _ _ _ ?_
  show m_ty [(0, (2, v0)), (1, (0, v1)), (2, (0, v2))] [(0, t)] ε μ → (t = 0 → (m_ty [] [] ε μ → G cd_X12_there Q X 24 [] [(0, 0)] ε μ)) ∧ (t ≠ 0 → (m_ty [(0, (2, v0)), (1, (0, v1)), (2, (0, v2))] [] ε μ → (kd ε v0 = 11) ∧ (kd ε (fn ε v0 18) = 100) ∧ ((0 : Int) ≤ w32 ((w32 (10 * v1)) + v2) ∧ w32 ((w32 (10 * v1)) + v2) < ln ε (fn ε v0 18)) ∧ G cd_X12_there Q X 24 [] [(0, μ (fn ε v0 18) (w32 ((w32 (10 * v1)) + v2)))] ε μ))
  intro hty
  replace h := h hty.1 (hty.2.1 _ (List.mem_of_getElem? (i := 1) rfl)) (hty.2.1 _ (List.mem_of_getElem? (i := 2) rfl)) (hty.2.2 _ (List.mem_of_getElem? (i := 0) rfl))
  obtain ⟨hc, hj⟩ := h
  refine And.intro (fun c0 => ?_) (fun c0 => ?_)
  · intro _
    exact g_X12_there_24 (fun _ _ => (hj _ (((if_pos c0).trans rfl)).symm))
  · replace hc := hc c0
    intro _
    obtain ⟨k2, k3, k4, k5⟩ := hc
    refine And.intro k2 ?_
    refine And.intro k3 ?_
    refine And.intro (And.intro k4 k5) ?_
    exact g_X12_there_24 (fun _ _ => (hj _ (((if_neg (c0)).trans rfl)).symm))
set_option maxRecDepth 20000 in
theorem g_X12_there_0 {Q X : m_Po} {v0 v1 v2 : Int} {ε : m_E} {μ : m_M} (h : TY ε μ → i32 v1 → i32 v2 → kd ε v0 = 11 ∧ o_X12_isPlace [(2, v0), (0, v1), (0, v2)] ε μ (fun z ε_1 μ_1 => G cd_X12_there Q X 6 [(0, (2, v0)), (1, (0, v1)), (2, (0, v2))] [(0, z)] ε_1 μ_1) m_F) : G cd_X12_there Q X 0 [(0, (2, v0)), (1, (0, v1)), (2, (0, v2))] [] ε μ := by
  refine G_run (m_in [6, 24]) 6 _ _ _ _ ?_
  show m_ty [(0, (2, v0)), (1, (0, v1)), (2, (0, v2))] [] ε μ → (kd ε v0 = 11) ∧ o_X12_isPlace [(2, v0), (0, v1), (0, v2)] ε μ (fun z ε_1 μ_1 => G cd_X12_there Q X 6 [(0, (2, v0)), (1, (0, v1)), (2, (0, v2))] [(0, z)] ε_1 μ_1) m_F
  intro hty
  replace h := h hty.1 (hty.2.1 _ (List.mem_of_getElem? (i := 1) rfl)) (hty.2.1 _ (List.mem_of_getElem? (i := 2) rfl))
  obtain ⟨k1, h⟩ := h
  refine And.intro k1 ?_
  exact h
theorem e_X12_there {Q X : m_Po} {v0 v1 v2 : Int} {ε : m_E} {μ : m_M} (h : TY ε μ → i32 v1 → i32 v2 → kd ε v0 = 11 ∧ o_X12_isPlace [(2, v0), (0, v1), (0, v2)] ε μ (fun z ε_1 μ_1 => G cd_X12_there Q X 6 [(0, (2, v0)), (1, (0, v1)), (2, (0, v2))] [(0, z)] ε_1 μ_1) m_F) : o_X12_there [(2, v0), (0, v1), (0, v2)] ε μ Q X := And.intro rfl (g_X12_there_0 h)
/-! ArchYardModel.load(IIII)I -/
set_option maxRecDepth 20000 in
theorem g_X12_load_230 {Q X : m_Po} {v0 v1 t t_1 t_2 t_3 : Int} {ε : m_E} {μ : m_M} (h : TY ε μ → i32 v1 → i32 t_1 → i32 t_2 → i32 t_3 → kd ε t = 100 ∧ (0 : Int) ≤ t_1 ∧ t_1 < ln ε t ∧ ∀ μ_1 : m_M, μ_1 = st μ t t_1 (w32 (t_2 + t_3)) → kd ε v0 = 11 ∧ kd ε (fn ε v0 21) = 100 ∧ (0 : Int) ≤ v1 ∧ v1 < ln ε (fn ε v0 21) ∧ Q (μ_1 (fn ε v0 21) v1) ε μ_1) : G cd_X12_load Q X 230 [(0, (2, v0)), (1, (0, v1))] [(0, t_3), (0, t_2), (0, t_1), (2, t)] ε μ := by
  refine G_run (m_in [6, 30, 81, 88, 130, 156, 161, 230]) 29 _ _ _ _ ?_
  show m_ty [(0, (2, v0)), (1, (0, v1))] [(0, t_3), (0, t_2), (0, t_1), (2, t)] ε μ → (kd ε t = 100) ∧ ((0 : Int) ≤ t_1 ∧ t_1 < ln ε t) ∧ ∀ μ_1 : m_M, μ_1 = st μ t t_1 (w32 (t_2 + t_3)) → (kd ε v0 = 11) ∧ (kd ε (fn ε v0 21) = 100) ∧ ((0 : Int) ≤ v1 ∧ v1 < ln ε (fn ε v0 21)) ∧ Q (μ_1 (fn ε v0 21) v1) ε μ_1
  intro hty
  replace h := h hty.1 (hty.2.1 _ (List.mem_of_getElem? (i := 1) rfl)) (hty.2.2 _ (List.mem_of_getElem? (i := 2) rfl)) (hty.2.2 _ (List.mem_of_getElem? (i := 1) rfl)) (hty.2.2 _ (List.mem_of_getElem? (i := 0) rfl))
  obtain ⟨k1, h⟩ := h
  refine And.intro k1 ?_
  obtain ⟨k2, h⟩ := h
  obtain ⟨k3, h⟩ := h
  refine And.intro (And.intro k2 k3) ?_
  intro μ_1 e_μ_1
  replace h := h μ_1 e_μ_1
  obtain ⟨k4, h⟩ := h
  refine And.intro k4 ?_
  obtain ⟨k5, h⟩ := h
  refine And.intro k5 ?_
  obtain ⟨k6, h⟩ := h
  obtain ⟨k7, h⟩ := h
  refine And.intro (And.intro k6 k7) ?_
  exact h
set_option maxRecDepth 20000 in
theorem g_X12_load_161 {Q X : m_Po} {v0 v1 v2 v3 v4 v5 v6 v7 v8 : Int} {ε : m_E} {μ : m_M} (h : TY ε μ → i32 v1 → i32 v2 → i32 v3 → i32 v4 → i32 v5 → i32 v6 → i32 v7 → i32 v8 → G cd_X12_load Q X 88 [(0, (2, v0)), (1, (0, v1)), (2, (0, v2)), (3, (0, v3)), (4, (0, v4)), (5, (0, v5)), (6, (0, v6)), (7, (0, v7)), (8, (0, v8))] [] ε μ) : G cd_X12_load Q X 161 [(0, (2, v0)), (1, (0, v1)), (2, (0, v2)), (3, (0, v3)), (4, (0, v4)), (5, (0, v5)), (6, (0, v6)), (7, (0, v7)), (8, (0, v8))] [] ε μ := by
  refine G_run (m_in [6, 30, 81, 88, 130, 156, 161, 230]) 29 _ _ _ _ ?_
  show m_ty [(0, (2, v0)), (1, (0, v1)), (2, (0, v2)), (3, (0, v3)), (4, (0, v4)), (5, (0, v5)), (6, (0, v6)), (7, (0, v7)), (8, (0, v8))] [] ε μ → G cd_X12_load Q X 88 [(0, (2, v0)), (1, (0, v1)), (2, (0, v2)), (3, (0, v3)), (4, (0, v4)), (5, (0, v5)), (6, (0, v6)), (7, (0, v7)), (8, (0, v8))] [] ε μ
  intro hty
  replace h := h hty.1 (hty.2.1 _ (List.mem_of_getElem? (i := 1) rfl)) (hty.2.1 _ (List.mem_of_getElem? (i := 2) rfl)) (hty.2.1 _ (List.mem_of_getElem? (i := 3) rfl)) (hty.2.1 _ (List.mem_of_getElem? (i := 4) rfl)) (hty.2.1 _ (List.mem_of_getElem? (i := 5) rfl)) (hty.2.1 _ (List.mem_of_getElem? (i := 6) rfl)) (hty.2.1 _ (List.mem_of_getElem? (i := 7) rfl)) (hty.2.1 _ (List.mem_of_getElem? (i := 8) rfl))
  exact h
set_option maxRecDepth 20000 in
theorem g_X12_load_156 {Q X : m_Po} {v0 v1 v2 v3 v4 v5 v6 v8 t : Int} {ε : m_E} {μ : m_M} (h : TY ε μ → i32 v1 → i32 v2 → i32 v3 → i32 v4 → i32 v5 → i32 v6 → i32 v8 → i32 t → ∀ v7 : Int, v7 = t → ∀ v8_1 : Int, v8_1 = w32 (v8 + 1) → G cd_X12_load Q X 88 [(0, (2, v0)), (1, (0, v1)), (2, (0, v2)), (3, (0, v3)), (4, (0, v4)), (5, (0, v5)), (6, (0, v6)), (7, (0, v7)), (8, (0, v8_1))] [] ε μ) : G cd_X12_load Q X 156 [(0, (2, v0)), (1, (0, v1)), (2, (0, v2)), (3, (0, v3)), (4, (0, v4)), (5, (0, v5)), (6, (0, v6)), (8, (0, v8))] [(0, t)] ε μ := by
  refine G_run (m_in [6, 30, 81, 88, 130, 156, 161, 230]) 29 _ _ _ _ ?_
  show m_ty [(0, (2, v0)), (1, (0, v1)), (2, (0, v2)), (3, (0, v3)), (4, (0, v4)), (5, (0, v5)), (6, (0, v6)), (8, (0, v8))] [(0, t)] ε μ → ∀ v7 : Int, v7 = t → ∀ v8_1 : Int, v8_1 = w32 (v8 + 1) → G cd_X12_load Q X 161 [(0, (2, v0)), (1, (0, v1)), (2, (0, v2)), (3, (0, v3)), (4, (0, v4)), (5, (0, v5)), (6, (0, v6)), (7, (0, v7)), (8, (0, v8_1))] [] ε μ
  intro hty
  replace h := h hty.1 (hty.2.1 _ (List.mem_of_getElem? (i := 1) rfl)) (hty.2.1 _ (List.mem_of_getElem? (i := 2) rfl)) (hty.2.1 _ (List.mem_of_getElem? (i := 3) rfl)) (hty.2.1 _ (List.mem_of_getElem? (i := 4) rfl)) (hty.2.1 _ (List.mem_of_getElem? (i := 5) rfl)) (hty.2.1 _ (List.mem_of_getElem? (i := 6) rfl)) (hty.2.1 _ (List.mem_of_getElem? (i := 7) rfl)) (hty.2.2 _ (List.mem_of_getElem? (i := 0) rfl))
  intro v7 e_v7
  replace h := h v7 e_v7
  intro v8_1 e_v8_1
  replace h := h v8_1 e_v8_1
  exact g_X12_load_161 (fun _ _ _ _ _ _ _ _ _ => h)
set_option maxRecDepth 20000 in
theorem g_X12_load_130 {Q X : m_Po} {v0 v1 v2 v3 v4 v5 v7 v8 t : Int} {ε : m_E} {μ : m_M} (h : TY ε μ → i32 v1 → i32 v2 → i32 v3 → i32 v4 → i32 v5 → i32 v7 → i32 v8 → i32 t → ∀ v6 : Int, v6 = t → kd ε v0 = 11 ∧ kd ε (fn ε v0 7) = 100 ∧ (0 : Int) ≤ v8 ∧ v8 < ln ε (fn ε v0 7) ∧ ∀ t_1 : Int, t_1 = (if (μ (fn ε v0 7) v8) ≤ v7 then v7 else μ (fn ε v0 7) v8) → ∀ v7_1 : Int, v7_1 = t_1 → ∀ v8_1 : Int, v8_1 = w32 (v8 + 1) → G cd_X12_load Q X 88 [(0, (2, v0)), (1, (0, v1)), (2, (0, v2)), (3, (0, v3)), (4, (0, v4)), (5, (0, v5)), (6, (0, v6)), (7, (0, v7_1)), (8, (0, v8_1))] [] ε μ) : G cd_X12_load Q X 130 [(0, (2, v0)), (1, (0, v1)), (2, (0, v2)), (3, (0, v3)), (4, (0, v4)), (5, (0, v5)), (7, (0, v7)), (8, (0, v8))] [(0, t)] ε μ := by
  refine G_run (m_in [6, 30, 81, 88, 130, 156, 161, 230]) 29 _ _ _ _ ?_
  show m_ty [(0, (2, v0)), (1, (0, v1)), (2, (0, v2)), (3, (0, v3)), (4, (0, v4)), (5, (0, v5)), (7, (0, v7)), (8, (0, v8))] [(0, t)] ε μ → ∀ v6 : Int, v6 = t → (kd ε v0 = 11) ∧ (kd ε (fn ε v0 7) = 100) ∧ ((0 : Int) ≤ v8 ∧ v8 < ln ε (fn ε v0 7)) ∧ ((μ (fn ε v0 7) v8) ≤ v7 → (m_ty [(0, (2, v0)), (1, (0, v1)), (2, (0, v2)), (3, (0, v3)), (4, (0, v4)), (5, (0, v5)), (6, (0, v6)), (7, (0, v7)), (8, (0, v8))] [] ε μ → G cd_X12_load Q X 156 [(0, (2, v0)), (1, (0, v1)), (2, (0, v2)), (3, (0, v3)), (4, (0, v4)), (5, (0, v5)), (6, (0, v6)), (8, (0, v8))] [(0, v7)] ε μ)) ∧ (v7 < (μ (fn ε v0 7) v8) → (m_ty [(0, (2, v0)), (1, (0, v1)), (2, (0, v2)), (3, (0, v3)), (4, (0, v4)), (5, (0, v5)), (6, (0, v6)), (8, (0, v8))] [] ε μ → (kd ε v0 = 11) ∧ (kd ε (fn ε v0 7) = 100) ∧ ((0 : Int) ≤ v8 ∧ v8 < ln ε (fn ε v0 7)) ∧ G cd_X12_load Q X 156 [(0, (2, v0)), (1, (0, v1)), (2, (0, v2)), (3, (0, v3)), (4, (0, v4)), (5, (0, v5)), (6, (0, v6)), (8, (0, v8))] [(0, μ (fn ε v0 7) v8)] ε μ))
  intro hty
  replace h := h hty.1 (hty.2.1 _ (List.mem_of_getElem? (i := 1) rfl)) (hty.2.1 _ (List.mem_of_getElem? (i := 2) rfl)) (hty.2.1 _ (List.mem_of_getElem? (i := 3) rfl)) (hty.2.1 _ (List.mem_of_getElem? (i := 4) rfl)) (hty.2.1 _ (List.mem_of_getElem? (i := 5) rfl)) (hty.2.1 _ (List.mem_of_getElem? (i := 6) rfl)) (hty.2.1 _ (List.mem_of_getElem? (i := 7) rfl)) (hty.2.2 _ (List.mem_of_getElem? (i := 0) rfl))
  intro v6 e_v6
  replace h := h v6 e_v6
  obtain ⟨k1, h⟩ := h
  refine And.intro k1 ?_
  obtain ⟨k2, h⟩ := h
  refine And.intro k2 ?_
  obtain ⟨k3, h⟩ := h
  obtain ⟨k4, h⟩ := h
  refine And.intro (And.intro k3 k4) ?_
  have hj := h
  refine And.intro (fun c4 => ?_) (fun c4 => ?_)
  · intro _
    exact g_X12_load_156 (fun _ _ _ _ _ _ _ _ _ => (hj _ (((if_pos c4).trans rfl)).symm))
  · intro _
    refine And.intro k1 ?_
    refine And.intro k2 ?_
    refine And.intro (And.intro k3 k4) ?_
    exact g_X12_load_156 (fun _ _ _ _ _ _ _ _ _ => (hj _ (((if_neg (Int.not_le.mpr c4)).trans rfl)).symm))
set_option maxRecDepth 20000 in
theorem g_X12_load_88 {Q X : m_Po} {v0 v1 v2 v3 v4 v5 v6 v7 v8 : Int} {ε : m_E} {μ : m_M} (h : TY ε μ → i32 v1 → i32 v2 → i32 v3 → i32 v4 → i32 v5 → i32 v6 → i32 v7 → i32 v8 → kd ε v0 = 11 ∧ kd ε (fn ε v0 6) = 100 ∧ (0 : Int) ≤ v5 ∧ v5 < ln ε (fn ε v0 6) ∧ ((w32 ((w32 (12 * v5)) + (μ (fn ε v0 6) v5))) ≤ v8 → (v3 < (w32 (10 * v6)) → Q (-1) ε μ) ∧ ((w32 (10 * v6)) ≤ v3 → (v3 ≤ (w32 (10 * v7)) → kd ε (fn ε v0 21) = 100 ∧ (0 : Int) ≤ v1 ∧ v1 < ln ε (fn ε v0 21) ∧ ∀ v8_1 : Int, v8_1 = w32 ((w32 (6 * v1)) + (μ (fn ε v0 21) v1)) → kd ε (fn ε v0 22) = 100 ∧ (0 : Int) ≤ v8_1 ∧ v8_1 < ln ε (fn ε v0 22) ∧ ∀ μ_1 : m_M, μ_1 = st μ (fn ε v0 22) v8_1 v2 → kd ε (fn ε v0 23) = 100 ∧ v8_1 < ln ε (fn ε v0 23) ∧ ∀ μ_2 : m_M, μ_2 = st μ_1 (fn ε v0 23) v8_1 v3 → kd ε (fn ε v0 24) = 100 ∧ v8_1 < ln ε (fn ε v0 24) ∧ ∀ μ_3 : m_M, μ_3 = st μ_2 (fn ε v0 24) v8_1 v4 → kd ε (fn ε v0 21) = 100 ∧ (0 : Int) ≤ v1 ∧ v1 < ln ε (fn ε v0 21) ∧ ∀ μ_4 : m_M, μ_4 = st μ_3 (fn ε v0 21) v1 (w32 ((μ_3 (fn ε v0 21) v1) + 1)) → kd ε v0 = 11 ∧ kd ε (fn ε v0 21) = 100 ∧ (0 : Int) ≤ v1 ∧ v1 < ln ε (fn ε v0 21) ∧ Q (μ_4 (fn ε v0 21) v1) ε μ_4) ∧ ((w32 (10 * v7)) < v3 → Q (-1) ε μ))) ∧ (v8 < (w32 ((w32 (12 * v5)) + (μ (fn ε v0 6) v5))) → kd ε (fn ε v0 7) = 100 ∧ (0 : Int) ≤ v8 ∧ v8 < ln ε (fn ε v0 7) ∧ ∀ t : Int, t = (if v6 ≤ (μ (fn ε v0 7) v8) then v6 else μ (fn ε v0 7) v8) → ∀ v6_1 : Int, v6_1 = t → kd ε v0 = 11 ∧ kd ε (fn ε v0 7) = 100 ∧ (0 : Int) ≤ v8 ∧ v8 < ln ε (fn ε v0 7) ∧ ∀ t_1 : Int, t_1 = (if (μ (fn ε v0 7) v8) ≤ v7 then v7 else μ (fn ε v0 7) v8) → ∀ v7_1 : Int, v7_1 = t_1 → ∀ v8_2 : Int, v8_2 = w32 (v8 + 1) → G cd_X12_load Q X 88 [(0, (2, v0)), (1, (0, v1)), (2, (0, v2)), (3, (0, v3)), (4, (0, v4)), (5, (0, v5)), (6, (0, v6_1)), (7, (0, v7_1)), (8, (0, v8_2))] [] ε μ)) : G cd_X12_load Q X 88 [(0, (2, v0)), (1, (0, v1)), (2, (0, v2)), (3, (0, v3)), (4, (0, v4)), (5, (0, v5)), (6, (0, v6)), (7, (0, v7)), (8, (0, v8))] [] ε μ := by
  refine G_run (m_in [6, 30, 81, 88, 130, 156, 161, 230]) 29 _ _ _ _ ?_
  show m_ty [(0, (2, v0)), (1, (0, v1)), (2, (0, v2)), (3, (0, v3)), (4, (0, v4)), (5, (0, v5)), (6, (0, v6)), (7, (0, v7)), (8, (0, v8))] [] ε μ → (kd ε v0 = 11) ∧ (kd ε (fn ε v0 6) = 100) ∧ ((0 : Int) ≤ v5 ∧ v5 < ln ε (fn ε v0 6)) ∧ ((w32 ((w32 (12 * v5)) + (μ (fn ε v0 6) v5))) ≤ v8 → (m_ty [(0, (2, v0)), (1, (0, v1)), (2, (0, v2)), (3, (0, v3)), (4, (0, v4)), (6, (0, v6)), (7, (0, v7))] [] ε μ → (v3 < (w32 (10 * v6)) → (m_ty [] [] ε μ → Q (-1) ε μ)) ∧ ((w32 (10 * v6)) ≤ v3 → (m_ty [(0, (2, v0)), (1, (0, v1)), (2, (0, v2)), (3, (0, v3)), (4, (0, v4)), (7, (0, v7))] [] ε μ → (v3 ≤ (w32 (10 * v7)) → (m_ty [(0, (2, v0)), (1, (0, v1)), (2, (0, v2)), (3, (0, v3)), (4, (0, v4))] [] ε μ → (kd ε v0 = 11) ∧ (kd ε (fn ε v0 21) = 100) ∧ ((0 : Int) ≤ v1 ∧ v1 < ln ε (fn ε v0 21)) ∧ ∀ v8_1 : Int, v8_1 = w32 ((w32 (6 * v1)) + (μ (fn ε v0 21) v1)) → (kd ε v0 = 11) ∧ (kd ε (fn ε v0 22) = 100) ∧ ((0 : Int) ≤ v8_1 ∧ v8_1 < ln ε (fn ε v0 22)) ∧ ∀ μ_1 : m_M, μ_1 = st μ (fn ε v0 22) v8_1 v2 → (kd ε v0 = 11) ∧ (kd ε (fn ε v0 23) = 100) ∧ ((0 : Int) ≤ v8_1 ∧ v8_1 < ln ε (fn ε v0 23)) ∧ ∀ μ_2 : m_M, μ_2 = st μ_1 (fn ε v0 23) v8_1 v3 → (kd ε v0 = 11) ∧ (kd ε (fn ε v0 24) = 100) ∧ ((0 : Int) ≤ v8_1 ∧ v8_1 < ln ε (fn ε v0 24)) ∧ ∀ μ_3 : m_M, μ_3 = st μ_2 (fn ε v0 24) v8_1 v4 → (kd ε v0 = 11) ∧ (kd ε (fn ε v0 21) = 100) ∧ ((0 : Int) ≤ v1 ∧ v1 < ln ε (fn ε v0 21)) ∧ G cd_X12_load Q X 230 [(0, (2, v0)), (1, (0, v1))] [(0, 1), (0, μ_3 (fn ε v0 21) v1), (0, v1), (2, fn ε v0 21)] ε μ_3)) ∧ ((w32 (10 * v7)) < v3 → (m_ty [] [] ε μ → Q (-1) ε μ)))))) ∧ (v8 < (w32 ((w32 (12 * v5)) + (μ (fn ε v0 6) v5))) → (m_ty [(0, (2, v0)), (1, (0, v1)), (2, (0, v2)), (3, (0, v3)), (4, (0, v4)), (5, (0, v5)), (6, (0, v6)), (7, (0, v7)), (8, (0, v8))] [] ε μ → (kd ε v0 = 11) ∧ (kd ε (fn ε v0 7) = 100) ∧ ((0 : Int) ≤ v8 ∧ v8 < ln ε (fn ε v0 7)) ∧ (v6 ≤ (μ (fn ε v0 7) v8) → (m_ty [(0, (2, v0)), (1, (0, v1)), (2, (0, v2)), (3, (0, v3)), (4, (0, v4)), (5, (0, v5)), (6, (0, v6)), (7, (0, v7)), (8, (0, v8))] [] ε μ → G cd_X12_load Q X 130 [(0, (2, v0)), (1, (0, v1)), (2, (0, v2)), (3, (0, v3)), (4, (0, v4)), (5, (0, v5)), (7, (0, v7)), (8, (0, v8))] [(0, v6)] ε μ)) ∧ ((μ (fn ε v0 7) v8) < v6 → (m_ty [(0, (2, v0)), (1, (0, v1)), (2, (0, v2)), (3, (0, v3)), (4, (0, v4)), (5, (0, v5)), (7, (0, v7)), (8, (0, v8))] [] ε μ → (kd ε v0 = 11) ∧ (kd ε (fn ε v0 7) = 100) ∧ ((0 : Int) ≤ v8 ∧ v8 < ln ε (fn ε v0 7)) ∧ G cd_X12_load Q X 130 [(0, (2, v0)), (1, (0, v1)), (2, (0, v2)), (3, (0, v3)), (4, (0, v4)), (5, (0, v5)), (7, (0, v7)), (8, (0, v8))] [(0, μ (fn ε v0 7) v8)] ε μ))))
  intro hty
  replace h := h hty.1 (hty.2.1 _ (List.mem_of_getElem? (i := 1) rfl)) (hty.2.1 _ (List.mem_of_getElem? (i := 2) rfl)) (hty.2.1 _ (List.mem_of_getElem? (i := 3) rfl)) (hty.2.1 _ (List.mem_of_getElem? (i := 4) rfl)) (hty.2.1 _ (List.mem_of_getElem? (i := 5) rfl)) (hty.2.1 _ (List.mem_of_getElem? (i := 6) rfl)) (hty.2.1 _ (List.mem_of_getElem? (i := 7) rfl)) (hty.2.1 _ (List.mem_of_getElem? (i := 8) rfl))
  obtain ⟨k1, h⟩ := h
  refine And.intro k1 ?_
  obtain ⟨k2, h⟩ := h
  refine And.intro k2 ?_
  obtain ⟨k3, h⟩ := h
  obtain ⟨k4, h⟩ := h
  refine And.intro (And.intro k3 k4) ?_
  obtain ⟨ha, hb⟩ := h
  refine And.intro (fun c32 => ?_) (fun c32 => ?_)
  · replace h := ha c32
    clear ha hb
    intro _
    obtain ⟨ha, hb⟩ := h
    refine And.intro (fun c22 => ?_) (fun c22 => ?_)
    · replace h := ha c22
      clear ha hb
      intro _
      exact h
    · replace h := hb c22
      clear ha hb
      intro _
      obtain ⟨ha, hb⟩ := h
      refine And.intro (fun c21 => ?_) (fun c21 => ?_)
      · replace h := ha c21
        clear ha hb
        intro _
        refine And.intro k1 ?_
        obtain ⟨k5, h⟩ := h
        refine And.intro k5 ?_
        obtain ⟨k6, h⟩ := h
        obtain ⟨k7, h⟩ := h
        refine And.intro (And.intro k6 k7) ?_
        intro v8_1 e_v8_1
        replace h := h v8_1 e_v8_1
        refine And.intro k1 ?_
        obtain ⟨k8, h⟩ := h
        refine And.intro k8 ?_
        obtain ⟨k9, h⟩ := h
        obtain ⟨k10, h⟩ := h
        refine And.intro (And.intro k9 k10) ?_
        intro μ_1 e_μ_1
        replace h := h μ_1 e_μ_1
        refine And.intro k1 ?_
        obtain ⟨k11, h⟩ := h
        refine And.intro k11 ?_
        obtain ⟨k12, h⟩ := h
        refine And.intro (And.intro k9 k12) ?_
        intro μ_2 e_μ_2
        replace h := h μ_2 e_μ_2
        refine And.intro k1 ?_
        obtain ⟨k13, h⟩ := h
        refine And.intro k13 ?_
        obtain ⟨k14, h⟩ := h
        refine And.intro (And.intro k9 k14) ?_
        intro μ_3 e_μ_3
        replace h := h μ_3 e_μ_3
        refine And.intro k1 ?_
        refine And.intro k5 ?_
        refine And.intro (And.intro k6 k7) ?_
        exact g_X12_load_230 (fun _ _ _ _ _ => h)
      · replace h := hb c21
        clear ha hb
        intro _
        exact h
  · replace h := hb c32
    clear ha hb
    intro _
    refine And.intro k1 ?_
    obtain ⟨k24, h⟩ := h
    refine And.intro k24 ?_
    obtain ⟨k25, h⟩ := h
    obtain ⟨k26, h⟩ := h
    refine And.intro (And.intro k25 k26) ?_
    have hj := h
    refine And.intro (fun c26 => ?_) (fun c26 => ?_)
    · intro _
      exact g_X12_load_130 (fun _ _ _ _ _ _ _ _ _ => (hj _ (((if_pos c26).trans rfl)).symm))
    · intro _
      refine And.intro k1 ?_
      refine And.intro k24 ?_
      refine And.intro (And.intro k25 k26) ?_
      exact g_X12_load_130 (fun _ _ _ _ _ _ _ _ _ => (hj _ (((if_neg (Int.not_le.mpr c26)).trans rfl)).symm))
set_option maxRecDepth 20000 in
theorem g_X12_load_81 {Q X : m_Po} {v0 v1 v2 v3 v4 v5 v6 v7 : Int} {ε : m_E} {μ : m_M} (h : TY ε μ → i32 v1 → i32 v2 → i32 v3 → i32 v4 → i32 v5 → i32 v6 → i32 v7 → ∀ v8 : Int, v8 = w32 (12 * v5) → G cd_X12_load Q X 88 [(0, (2, v0)), (1, (0, v1)), (2, (0, v2)), (3, (0, v3)), (4, (0, v4)), (5, (0, v5)), (6, (0, v6)), (7, (0, v7)), (8, (0, v8))] [] ε μ) : G cd_X12_load Q X 81 [(0, (2, v0)), (1, (0, v1)), (2, (0, v2)), (3, (0, v3)), (4, (0, v4)), (5, (0, v5)), (6, (0, v6)), (7, (0, v7))] [] ε μ := by
  refine G_run (m_in [6, 30, 81, 88, 130, 156, 161, 230]) 29 _ _ _ _ ?_
  show m_ty [(0, (2, v0)), (1, (0, v1)), (2, (0, v2)), (3, (0, v3)), (4, (0, v4)), (5, (0, v5)), (6, (0, v6)), (7, (0, v7))] [] ε μ → ∀ v8 : Int, v8 = w32 (12 * v5) → G cd_X12_load Q X 88 [(0, (2, v0)), (1, (0, v1)), (2, (0, v2)), (3, (0, v3)), (4, (0, v4)), (5, (0, v5)), (6, (0, v6)), (7, (0, v7)), (8, (0, v8))] [] ε μ
  intro hty
  replace h := h hty.1 (hty.2.1 _ (List.mem_of_getElem? (i := 1) rfl)) (hty.2.1 _ (List.mem_of_getElem? (i := 2) rfl)) (hty.2.1 _ (List.mem_of_getElem? (i := 3) rfl)) (hty.2.1 _ (List.mem_of_getElem? (i := 4) rfl)) (hty.2.1 _ (List.mem_of_getElem? (i := 5) rfl)) (hty.2.1 _ (List.mem_of_getElem? (i := 6) rfl)) (hty.2.1 _ (List.mem_of_getElem? (i := 7) rfl))
  intro v8 e_v8
  replace h := h v8 e_v8
  exact h
set_option maxRecDepth 20000 in
theorem g_X12_load_30 {Q X : m_Po} {v0 v1 v2 v3 v4 t t_1 : Int} {ε : m_E} {μ : m_M} (h : TY ε μ → i32 v1 → i32 v2 → i32 v3 → i32 v4 → i32 t_1 → kd ε t = 11 ∧ ∀ μ_1 : m_M, μ_1 = st μ t 0 t_1 → kd ε v0 = 11 ∧ ((μ_1 v0 0) ≤ 0 → kd ε (fn ε v0 18) = 100 ∧ (0 : Int) ≤ w32 ((w32 (10 * v1)) + v2) ∧ w32 ((w32 (10 * v1)) + v2) < ln ε (fn ε v0 18) ∧ ∀ v5 : Int, v5 = μ_1 (fn ε v0 18) (w32 ((w32 (10 * v1)) + v2)) → kd ε (fn ε v0 21) = 100 ∧ (0 : Int) ≤ v1 ∧ v1 < ln ε (fn ε v0 21) ∧ ((μ_1 (fn ε v0 21) v1) = (6 : Int) → Q (-1) ε μ_1) ∧ ((μ_1 (fn ε v0 21) v1) ≠ (6 : Int) → (0 ≤ v5 → ∀ v6 : Int, v6 = 100 → ∀ v7 : Int, v7 = (-100) → ∀ v8 : Int, v8 = w32 (12 * v5) → G cd_X12_load Q X 88 [(0, (2, v0)), (1, (0, v1)), (2, (0, v2)), (3, (0, v3)), (4, (0, v4)), (5, (0, v5)), (6, (0, v6)), (7, (0, v7)), (8, (0, v8))] [] ε μ_1) ∧ (v5 < 0 → Q (-1) ε μ_1))) ∧ (0 < (μ_1 v0 0) → Q 0 ε μ_1)) : G cd_X12_load Q X 30 [(0, (2, v0)), (1, (0, v1)), (2, (0, v2)), (3, (0, v3)), (4, (0, v4))] [(0, t_1), (2, t)] ε μ := by
  refine G_run (m_in [6, 30, 81, 88, 130, 156, 161, 230]) 29 _ _ _ _ ?_
  show m_ty [(0, (2, v0)), (1, (0, v1)), (2, (0, v2)), (3, (0, v3)), (4, (0, v4))] [(0, t_1), (2, t)] ε μ → (kd ε t = 11) ∧ ∀ μ_1 : m_M, μ_1 = st μ t 0 t_1 → (kd ε v0 = 11) ∧ ((μ_1 v0 0) ≤ 0 → (m_ty [(0, (2, v0)), (1, (0, v1)), (2, (0, v2)), (3, (0, v3)), (4, (0, v4))] [] ε μ_1 → (kd ε v0 = 11) ∧ (kd ε (fn ε v0 18) = 100) ∧ ((0 : Int) ≤ w32 ((w32 (10 * v1)) + v2) ∧ w32 ((w32 (10 * v1)) + v2) < ln ε (fn ε v0 18)) ∧ ∀ v5 : Int, v5 = μ_1 (fn ε v0 18) (w32 ((w32 (10 * v1)) + v2)) → (kd ε v0 = 11) ∧ (kd ε (fn ε v0 21) = 100) ∧ ((0 : Int) ≤ v1 ∧ v1 < ln ε (fn ε v0 21)) ∧ ((μ_1 (fn ε v0 21) v1) = (6 : Int) → (m_ty [] [] ε μ_1 → Q (-1) ε μ_1)) ∧ ((μ_1 (fn ε v0 21) v1) ≠ (6 : Int) → (m_ty [(0, (2, v0)), (1, (0, v1)), (2, (0, v2)), (3, (0, v3)), (4, (0, v4)), (5, (0, v5))] [] ε μ_1 → (0 ≤ v5 → (m_ty [(0, (2, v0)), (1, (0, v1)), (2, (0, v2)), (3, (0, v3)), (4, (0, v4)), (5, (0, v5))] [] ε μ_1 → ∀ v6 : Int, v6 = 100 → ∀ v7 : Int, v7 = (-100) → G cd_X12_load Q X 81 [(0, (2, v0)), (1, (0, v1)), (2, (0, v2)), (3, (0, v3)), (4, (0, v4)), (5, (0, v5)), (6, (0, v6)), (7, (0, v7))] [] ε μ_1)) ∧ (v5 < 0 → (m_ty [] [] ε μ_1 → Q (-1) ε μ_1)))))) ∧ (0 < (μ_1 v0 0) → (m_ty [] [] ε μ_1 → Q 0 ε μ_1))
  intro hty
  replace h := h hty.1 (hty.2.1 _ (List.mem_of_getElem? (i := 1) rfl)) (hty.2.1 _ (List.mem_of_getElem? (i := 2) rfl)) (hty.2.1 _ (List.mem_of_getElem? (i := 3) rfl)) (hty.2.1 _ (List.mem_of_getElem? (i := 4) rfl)) (hty.2.2 _ (List.mem_of_getElem? (i := 0) rfl))
  obtain ⟨k1, h⟩ := h
  refine And.intro k1 ?_
  intro μ_1 e_μ_1
  replace h := h μ_1 e_μ_1
  obtain ⟨k2, h⟩ := h
  refine And.intro k2 ?_
  obtain ⟨ha, hb⟩ := h
  refine And.intro (fun c10 => ?_) (fun c10 => ?_)
  · replace h := ha c10
    clear ha hb
    intro _
    refine And.intro k2 ?_
    obtain ⟨k3, h⟩ := h
    refine And.intro k3 ?_
    obtain ⟨k4, h⟩ := h
    obtain ⟨k5, h⟩ := h
    refine And.intro (And.intro k4 k5) ?_
    intro v5 e_v5
    replace h := h v5 e_v5
    refine And.intro k2 ?_
    obtain ⟨k6, h⟩ := h
    refine And.intro k6 ?_
    obtain ⟨k7, h⟩ := h
    obtain ⟨k8, h⟩ := h
    refine And.intro (And.intro k7 k8) ?_
    obtain ⟨ha, hb⟩ := h
    refine And.intro (fun c9 => ?_) (fun c9 => ?_)
    · replace h := ha c9
      clear ha hb
      intro _
      exact h
    · replace h := hb c9
      clear ha hb
      intro _
      obtain ⟨ha, hb⟩ := h
      refine And.intro (fun c8 => ?_) (fun c8 => ?_)
      · replace h := ha c8
        clear ha hb
        intro _
        intro v6 e_v6
        replace h := h v6 e_v6
        intro v7 e_v7
        replace h := h v7 e_v7
        exact g_X12_load_81 (fun _ _ _ _ _ _ _ _ => h)
      · replace h := hb c8
        clear ha hb
        intro _
        exact h
  · replace h := hb c10
    clear ha hb
    intro _
    exact h
set_option maxRecDepth 20000 in
theorem g_X12_load_6 {Q X : m_Po} {v0 v1 v2 v3 v4 t : Int} {ε : m_E} {μ : m_M} (h : TY ε μ → i32 v1 → i32 v2 → i32 v3 → i32 v4 → i32 t → (t ≠ 0 → ∀ t_1 : Int, t_1 = (if v4 < (1 : Int) then 2 else if v4 ≤ (100000 : Int) then 0 else 2) → kd ε v0 = 11 ∧ ∀ μ_1 : m_M, μ_1 = st μ v0 0 t_1 → kd ε v0 = 11 ∧ ((μ_1 v0 0) ≤ 0 → kd ε (fn ε v0 18) = 100 ∧ (0 : Int) ≤ w32 ((w32 (10 * v1)) + v2) ∧ w32 ((w32 (10 * v1)) + v2) < ln ε (fn ε v0 18) ∧ ∀ v5 : Int, v5 = μ_1 (fn ε v0 18) (w32 ((w32 (10 * v1)) + v2)) → kd ε (fn ε v0 21) = 100 ∧ (0 : Int) ≤ v1 ∧ v1 < ln ε (fn ε v0 21) ∧ ((μ_1 (fn ε v0 21) v1) = (6 : Int) → Q (-1) ε μ_1) ∧ ((μ_1 (fn ε v0 21) v1) ≠ (6 : Int) → (0 ≤ v5 → ∀ v6 : Int, v6 = 100 → ∀ v7 : Int, v7 = (-100) → ∀ v8 : Int, v8 = w32 (12 * v5) → G cd_X12_load Q X 88 [(0, (2, v0)), (1, (0, v1)), (2, (0, v2)), (3, (0, v3)), (4, (0, v4)), (5, (0, v5)), (6, (0, v6)), (7, (0, v7)), (8, (0, v8))] [] ε μ_1) ∧ (v5 < 0 → Q (-1) ε μ_1))) ∧ (0 < (μ_1 v0 0) → Q 0 ε μ_1)) ∧ (t = 0 → Q 0 ε μ)) : G cd_X12_load Q X 6 [(0, (2, v0)), (1, (0, v1)), (2, (0, v2)), (3, (0, v3)), (4, (0, v4))] [(0, t)] ε μ := by
  refine G_run (m_in [6, 30, 81, 88, 130, 156, 161, 230]) 29 _ _ _ _ ?_
  show m_ty [(0, (2, v0)), (1, (0, v1)), (2, (0, v2)), (3, (0, v3)), (4, (0, v4))] [(0, t)] ε μ → (t ≠ 0 → (m_ty [(0, (2, v0)), (1, (0, v1)), (2, (0, v2)), (3, (0, v3)), (4, (0, v4))] [] ε μ → (v4 < (1 : Int) → (m_ty [(0, (2, v0)), (1, (0, v1)), (2, (0, v2)), (3, (0, v3)), (4, (0, v4))] [(2, v0)] ε μ → G cd_X12_load Q X 30 [(0, (2, v0)), (1, (0, v1)), (2, (0, v2)), (3, (0, v3)), (4, (0, v4))] [(0, 2), (2, v0)] ε μ)) ∧ ((1 : Int) ≤ v4 → (m_ty [(0, (2, v0)), (1, (0, v1)), (2, (0, v2)), (3, (0, v3)), (4, (0, v4))] [(2, v0)] ε μ → (v4 ≤ (100000 : Int) → (m_ty [(0, (2, v0)), (1, (0, v1)), (2, (0, v2)), (3, (0, v3)), (4, (0, v4))] [(2, v0)] ε μ → G cd_X12_load Q X 30 [(0, (2, v0)), (1, (0, v1)), (2, (0, v2)), (3, (0, v3)), (4, (0, v4))] [(0, 0), (2, v0)] ε μ)) ∧ ((100000 : Int) < v4 → (m_ty [(0, (2, v0)), (1, (0, v1)), (2, (0, v2)), (3, (0, v3)), (4, (0, v4))] [(2, v0)] ε μ → G cd_X12_load Q X 30 [(0, (2, v0)), (1, (0, v1)), (2, (0, v2)), (3, (0, v3)), (4, (0, v4))] [(0, 2), (2, v0)] ε μ)))))) ∧ (t = 0 → (m_ty [] [] ε μ → Q 0 ε μ))
  intro hty
  replace h := h hty.1 (hty.2.1 _ (List.mem_of_getElem? (i := 1) rfl)) (hty.2.1 _ (List.mem_of_getElem? (i := 2) rfl)) (hty.2.1 _ (List.mem_of_getElem? (i := 3) rfl)) (hty.2.1 _ (List.mem_of_getElem? (i := 4) rfl)) (hty.2.2 _ (List.mem_of_getElem? (i := 0) rfl))
  obtain ⟨ha, hb⟩ := h
  refine And.intro (fun c13 => ?_) (fun c13 => ?_)
  · replace h := ha c13
    clear ha hb
    intro _
    have hj := h
    refine And.intro (fun c0 => ?_) (fun c0 => ?_)
    · intro _
      exact g_X12_load_30 (fun _ _ _ _ _ _ => (hj _ (((if_pos c0).trans rfl)).symm))
    · intro _
      refine And.intro (fun c1 => ?_) (fun c1 => ?_)
      · intro _
        exact g_X12_load_30 (fun _ _ _ _ _ _ => (hj _ (((if_neg (Int.not_lt.mpr c0)).trans ((if_pos c1).trans rfl))).symm))
      · intro _
        exact g_X12_load_30 (fun _ _ _ _ _ _ => (hj _ (((if_neg (Int.not_lt.mpr c0)).trans ((if_neg (Int.not_le.mpr c1)).trans rfl))).symm))
  · replace h := hb c13
    clear ha hb
    intro _
    exact h
set_option maxRecDepth 20000 in
theorem g_X12_load_0 {Q X : m_Po} {v0 v1 v2 v3 v4 : Int} {ε : m_E} {μ : m_M} (h : TY ε μ → i32 v1 → i32 v2 → i32 v3 → i32 v4 → kd ε v0 = 11 ∧ o_X12_isPlace [(2, v0), (0, v1), (0, v2)] ε μ (fun z ε_1 μ_1 => G cd_X12_load Q X 6 [(0, (2, v0)), (1, (0, v1)), (2, (0, v2)), (3, (0, v3)), (4, (0, v4))] [(0, z)] ε_1 μ_1) m_F) : G cd_X12_load Q X 0 [(0, (2, v0)), (1, (0, v1)), (2, (0, v2)), (3, (0, v3)), (4, (0, v4))] [] ε μ := by
  refine G_run (m_in [6, 30, 81, 88, 130, 156, 161, 230]) 29 _ _ _ _ ?_
  show m_ty [(0, (2, v0)), (1, (0, v1)), (2, (0, v2)), (3, (0, v3)), (4, (0, v4))] [] ε μ → (kd ε v0 = 11) ∧ o_X12_isPlace [(2, v0), (0, v1), (0, v2)] ε μ (fun z ε_1 μ_1 => G cd_X12_load Q X 6 [(0, (2, v0)), (1, (0, v1)), (2, (0, v2)), (3, (0, v3)), (4, (0, v4))] [(0, z)] ε_1 μ_1) m_F
  intro hty
  replace h := h hty.1 (hty.2.1 _ (List.mem_of_getElem? (i := 1) rfl)) (hty.2.1 _ (List.mem_of_getElem? (i := 2) rfl)) (hty.2.1 _ (List.mem_of_getElem? (i := 3) rfl)) (hty.2.1 _ (List.mem_of_getElem? (i := 4) rfl))
  obtain ⟨k1, h⟩ := h
  refine And.intro k1 ?_
  exact h
theorem e_X12_load {Q X : m_Po} {v0 v1 v2 v3 v4 : Int} {ε : m_E} {μ : m_M} (h : TY ε μ → i32 v1 → i32 v2 → i32 v3 → i32 v4 → kd ε v0 = 11 ∧ o_X12_isPlace [(2, v0), (0, v1), (0, v2)] ε μ (fun z ε_1 μ_1 => G cd_X12_load Q X 6 [(0, (2, v0)), (1, (0, v1)), (2, (0, v2)), (3, (0, v3)), (4, (0, v4))] [(0, z)] ε_1 μ_1) m_F) : o_X12_load [(2, v0), (0, v1), (0, v2), (0, v3), (0, v4)] ε μ Q X := And.intro rfl (g_X12_load_0 h)
/-! ArchYardModel.slope(III)V -/
set_option maxRecDepth 20000 in
theorem g_X12_slope_36 {Q X : m_Po} {v0 v1 v2 v3 t t_1 : Int} {ε : m_E} {μ : m_M} (h : TY ε μ → i32 v1 → i32 v2 → i32 v3 → i32 t_1 → kd ε t = 11 ∧ ∀ μ_1 : m_M, μ_1 = st μ t 0 t_1 → kd ε v0 = 11 ∧ ((μ_1 v0 0) ≤ 0 → kd ε (fn ε v0 25) = 100 ∧ (0 : Int) ≤ v1 ∧ v1 < ln ε (fn ε v0 25) ∧ ∀ μ_2 : m_M, μ_2 = st μ_1 (fn ε v0 25) v1 v2 → kd ε (fn ε v0 26) = 100 ∧ v1 < ln ε (fn ε v0 26) ∧ ∀ μ_3 : m_M, μ_3 = st μ_2 (fn ε v0 26) v1 v3 → ∀ μ_4 : m_M, μ_4 = st μ_3 v0 66 (-1) → Q 0 ε μ_4) ∧ (0 < (μ_1 v0 0) → Q 0 ε μ_1)) : G cd_X12_slope Q X 36 [(0, (2, v0)), (1, (0, v1)), (2, (0, v2)), (3, (0, v3))] [(0, t_1), (2, t)] ε μ := by
  refine G_run (m_in [5, 36]) 13 _ _ _ _ ?_
  show m_ty [(0, (2, v0)), (1, (0, v1)), (2, (0, v2)), (3, (0, v3))] [(0, t_1), (2, t)] ε μ → (kd ε t = 11) ∧ ∀ μ_1 : m_M, μ_1 = st μ t 0 t_1 → (kd ε v0 = 11) ∧ ((μ_1 v0 0) ≤ 0 → (m_ty [(0, (2, v0)), (1, (0, v1)), (2, (0, v2)), (3, (0, v3))] [] ε μ_1 → (kd ε v0 = 11) ∧ (kd ε (fn ε v0 25) = 100) ∧ ((0 : Int) ≤ v1 ∧ v1 < ln ε (fn ε v0 25)) ∧ ∀ μ_2 : m_M, μ_2 = st μ_1 (fn ε v0 25) v1 v2 → (kd ε v0 = 11) ∧ (kd ε (fn ε v0 26) = 100) ∧ ((0 : Int) ≤ v1 ∧ v1 < ln ε (fn ε v0 26)) ∧ ∀ μ_3 : m_M, μ_3 = st μ_2 (fn ε v0 26) v1 v3 → (kd ε v0 = 11) ∧ ∀ μ_4 : m_M, μ_4 = st μ_3 v0 66 (-1) → Q 0 ε μ_4)) ∧ (0 < (μ_1 v0 0) → (m_ty [] [] ε μ_1 → Q 0 ε μ_1))
  intro hty
  replace h := h hty.1 (hty.2.1 _ (List.mem_of_getElem? (i := 1) rfl)) (hty.2.1 _ (List.mem_of_getElem? (i := 2) rfl)) (hty.2.1 _ (List.mem_of_getElem? (i := 3) rfl)) (hty.2.2 _ (List.mem_of_getElem? (i := 0) rfl))
  obtain ⟨k1, h⟩ := h
  refine And.intro k1 ?_
  intro μ_1 e_μ_1
  replace h := h μ_1 e_μ_1
  obtain ⟨k2, h⟩ := h
  refine And.intro k2 ?_
  obtain ⟨ha, hb⟩ := h
  refine And.intro (fun c7 => ?_) (fun c7 => ?_)
  · replace h := ha c7
    clear ha hb
    intro _
    refine And.intro k2 ?_
    obtain ⟨k3, h⟩ := h
    refine And.intro k3 ?_
    obtain ⟨k4, h⟩ := h
    obtain ⟨k5, h⟩ := h
    refine And.intro (And.intro k4 k5) ?_
    intro μ_2 e_μ_2
    replace h := h μ_2 e_μ_2
    refine And.intro k2 ?_
    obtain ⟨k6, h⟩ := h
    refine And.intro k6 ?_
    obtain ⟨k7, h⟩ := h
    refine And.intro (And.intro k4 k7) ?_
    intro μ_3 e_μ_3
    replace h := h μ_3 e_μ_3
    refine And.intro k2 ?_
    intro μ_4 e_μ_4
    replace h := h μ_4 e_μ_4
    exact h
  · replace h := hb c7
    clear ha hb
    intro _
    exact h
set_option maxRecDepth 20000 in
theorem g_X12_slope_5 {Q X : m_Po} {v0 v1 v2 v3 t : Int} {ε : m_E} {μ : m_M} (h : TY ε μ → i32 v1 → i32 v2 → i32 v3 → i32 t → (t ≠ 0 → ∀ t_1 : Int, t_1 = (if v2 < 0 then 2 else if (20 : Int) < v2 then 2 else if v3 < (1 : Int) then 2 else if v3 ≤ (20 : Int) then 0 else 2) → kd ε v0 = 11 ∧ ∀ μ_1 : m_M, μ_1 = st μ v0 0 t_1 → kd ε v0 = 11 ∧ ((μ_1 v0 0) ≤ 0 → kd ε (fn ε v0 25) = 100 ∧ (0 : Int) ≤ v1 ∧ v1 < ln ε (fn ε v0 25) ∧ ∀ μ_2 : m_M, μ_2 = st μ_1 (fn ε v0 25) v1 v2 → kd ε (fn ε v0 26) = 100 ∧ v1 < ln ε (fn ε v0 26) ∧ ∀ μ_3 : m_M, μ_3 = st μ_2 (fn ε v0 26) v1 v3 → ∀ μ_4 : m_M, μ_4 = st μ_3 v0 66 (-1) → Q 0 ε μ_4) ∧ (0 < (μ_1 v0 0) → Q 0 ε μ_1)) ∧ (t = 0 → Q 0 ε μ)) : G cd_X12_slope Q X 5 [(0, (2, v0)), (1, (0, v1)), (2, (0, v2)), (3, (0, v3))] [(0, t)] ε μ := by
  refine G_run (m_in [5, 36]) 13 _ _ _ _ ?_
  show m_ty [(0, (2, v0)), (1, (0, v1)), (2, (0, v2)), (3, (0, v3))] [(0, t)] ε μ → (t ≠ 0 → (m_ty [(0, (2, v0)), (1, (0, v1)), (2, (0, v2)), (3, (0, v3))] [] ε μ → (v2 < 0 → (m_ty [(0, (2, v0)), (1, (0, v1)), (2, (0, v2)), (3, (0, v3))] [(2, v0)] ε μ → G cd_X12_slope Q X 36 [(0, (2, v0)), (1, (0, v1)), (2, (0, v2)), (3, (0, v3))] [(0, 2), (2, v0)] ε μ)) ∧ (0 ≤ v2 → (m_ty [(0, (2, v0)), (1, (0, v1)), (2, (0, v2)), (3, (0, v3))] [(2, v0)] ε μ → ((20 : Int) < v2 → (m_ty [(0, (2, v0)), (1, (0, v1)), (2, (0, v2)), (3, (0, v3))] [(2, v0)] ε μ → G cd_X12_slope Q X 36 [(0, (2, v0)), (1, (0, v1)), (2, (0, v2)), (3, (0, v3))] [(0, 2), (2, v0)] ε μ)) ∧ (v2 ≤ (20 : Int) → (m_ty [(0, (2, v0)), (1, (0, v1)), (2, (0, v2)), (3, (0, v3))] [(2, v0)] ε μ → (v3 < (1 : Int) → (m_ty [(0, (2, v0)), (1, (0, v1)), (2, (0, v2)), (3, (0, v3))] [(2, v0)] ε μ → G cd_X12_slope Q X 36 [(0, (2, v0)), (1, (0, v1)), (2, (0, v2)), (3, (0, v3))] [(0, 2), (2, v0)] ε μ)) ∧ ((1 : Int) ≤ v3 → (m_ty [(0, (2, v0)), (1, (0, v1)), (2, (0, v2)), (3, (0, v3))] [(2, v0)] ε μ → (v3 ≤ (20 : Int) → (m_ty [(0, (2, v0)), (1, (0, v1)), (2, (0, v2)), (3, (0, v3))] [(2, v0)] ε μ → G cd_X12_slope Q X 36 [(0, (2, v0)), (1, (0, v1)), (2, (0, v2)), (3, (0, v3))] [(0, 0), (2, v0)] ε μ)) ∧ ((20 : Int) < v3 → (m_ty [(0, (2, v0)), (1, (0, v1)), (2, (0, v2)), (3, (0, v3))] [(2, v0)] ε μ → G cd_X12_slope Q X 36 [(0, (2, v0)), (1, (0, v1)), (2, (0, v2)), (3, (0, v3))] [(0, 2), (2, v0)] ε μ)))))))))) ∧ (t = 0 → (m_ty [] [] ε μ → Q 0 ε μ))
  intro hty
  replace h := h hty.1 (hty.2.1 _ (List.mem_of_getElem? (i := 1) rfl)) (hty.2.1 _ (List.mem_of_getElem? (i := 2) rfl)) (hty.2.1 _ (List.mem_of_getElem? (i := 3) rfl)) (hty.2.2 _ (List.mem_of_getElem? (i := 0) rfl))
  obtain ⟨ha, hb⟩ := h
  refine And.intro (fun c12 => ?_) (fun c12 => ?_)
  · replace h := ha c12
    clear ha hb
    intro _
    have hj := h
    refine And.intro (fun c0 => ?_) (fun c0 => ?_)
    · intro _
      exact g_X12_slope_36 (fun _ _ _ _ _ => (hj _ (((if_pos c0).trans rfl)).symm))
    · intro _
      refine And.intro (fun c1 => ?_) (fun c1 => ?_)
      · intro _
        exact g_X12_slope_36 (fun _ _ _ _ _ => (hj _ (((if_neg (Int.not_lt.mpr c0)).trans ((if_pos c1).trans rfl))).symm))
      · intro _
        refine And.intro (fun c2 => ?_) (fun c2 => ?_)
        · intro _
          exact g_X12_slope_36 (fun _ _ _ _ _ => (hj _ (((if_neg (Int.not_lt.mpr c0)).trans ((if_neg (Int.not_lt.mpr c1)).trans ((if_pos c2).trans rfl)))).symm))
        · intro _
          refine And.intro (fun c3 => ?_) (fun c3 => ?_)
          · intro _
            exact g_X12_slope_36 (fun _ _ _ _ _ => (hj _ (((if_neg (Int.not_lt.mpr c0)).trans ((if_neg (Int.not_lt.mpr c1)).trans ((if_neg (Int.not_lt.mpr c2)).trans ((if_pos c3).trans rfl))))).symm))
          · intro _
            exact g_X12_slope_36 (fun _ _ _ _ _ => (hj _ (((if_neg (Int.not_lt.mpr c0)).trans ((if_neg (Int.not_lt.mpr c1)).trans ((if_neg (Int.not_lt.mpr c2)).trans ((if_neg (Int.not_le.mpr c3)).trans rfl))))).symm))
  · replace h := hb c12
    clear ha hb
    intro _
    exact h
set_option maxRecDepth 20000 in
theorem g_X12_slope_0 {Q X : m_Po} {v0 v1 v2 v3 : Int} {ε : m_E} {μ : m_M} (h : TY ε μ → i32 v1 → i32 v2 → i32 v3 → kd ε v0 = 11 ∧ o_X12_isArch [(2, v0), (0, v1)] ε μ (fun z ε_1 μ_1 => G cd_X12_slope Q X 5 [(0, (2, v0)), (1, (0, v1)), (2, (0, v2)), (3, (0, v3))] [(0, z)] ε_1 μ_1) m_F) : G cd_X12_slope Q X 0 [(0, (2, v0)), (1, (0, v1)), (2, (0, v2)), (3, (0, v3))] [] ε μ := by
  refine G_run (m_in [5, 36]) 13 _ _ _ _ ?_
  show m_ty [(0, (2, v0)), (1, (0, v1)), (2, (0, v2)), (3, (0, v3))] [] ε μ → (kd ε v0 = 11) ∧ o_X12_isArch [(2, v0), (0, v1)] ε μ (fun z ε_1 μ_1 => G cd_X12_slope Q X 5 [(0, (2, v0)), (1, (0, v1)), (2, (0, v2)), (3, (0, v3))] [(0, z)] ε_1 μ_1) m_F
  intro hty
  replace h := h hty.1 (hty.2.1 _ (List.mem_of_getElem? (i := 1) rfl)) (hty.2.1 _ (List.mem_of_getElem? (i := 2) rfl)) (hty.2.1 _ (List.mem_of_getElem? (i := 3) rfl))
  obtain ⟨k1, h⟩ := h
  refine And.intro k1 ?_
  exact h
theorem e_X12_slope {Q X : m_Po} {v0 v1 v2 v3 : Int} {ε : m_E} {μ : m_M} (h : TY ε μ → i32 v1 → i32 v2 → i32 v3 → kd ε v0 = 11 ∧ o_X12_isArch [(2, v0), (0, v1)] ε μ (fun z ε_1 μ_1 => G cd_X12_slope Q X 5 [(0, (2, v0)), (1, (0, v1)), (2, (0, v2)), (3, (0, v3))] [(0, z)] ε_1 μ_1) m_F) : o_X12_slope [(2, v0), (0, v1), (0, v2), (0, v3)] ε μ Q X := And.intro rfl (g_X12_slope_0 h)
/-! ArchYardModel.facesOf(II)I -/
set_option maxRecDepth 20000 in
theorem g_X12_facesOf_67 {Q X : m_Po} {t : Int} {ε : m_E} {μ : m_M} (h : TY ε μ → i32 t → Q t ε μ) : G cd_X12_facesOf Q X 67 [] [(0, t)] ε μ := by
  refine G_run (m_in [14, 30, 40, 67]) 14 _ _ _ _ ?_
  show m_ty [] [(0, t)] ε μ → Q t ε μ
  intro hty
  replace h := h hty.1 (hty.2.2 _ (List.mem_of_getElem? (i := 0) rfl))
  exact h
set_option maxRecDepth 20000 in
theorem g_X12_facesOf_40 {Q X : m_Po} {t : Int} {ε : m_E} {μ : m_M} (h : TY ε μ → i32 t → Q t ε μ) : G cd_X12_facesOf Q X 40 [] [(0, t)] ε μ := by
  refine G_run (m_in [14, 30, 40, 67]) 14 _ _ _ _ ?_
  show m_ty [] [(0, t)] ε μ → Q t ε μ
  intro hty
  replace h := h hty.1 (hty.2.2 _ (List.mem_of_getElem? (i := 0) rfl))
  exact h
set_option maxRecDepth 20000 in
theorem g_X12_facesOf_30 {Q X : m_Po} {t t_1 t_2 : Int} {ε : m_E} {μ : m_M} (h : TY ε μ → i32 t_1 → i32 t_2 → kd ε t = 103 ∧ (0 : Int) ≤ w32 (t_1 + t_2) ∧ w32 (t_1 + t_2) < ln ε t ∧ ∀ t_3 : Int, t_3 = (if (μ t (w32 (t_1 + t_2))) = 0 then 0 else 1) → Q t_3 ε μ) : G cd_X12_facesOf Q X 30 [] [(0, t_2), (0, t_1), (2, t)] ε μ := by
  refine G_run (m_in [14, 30, 40, 67]) 14 _ _ _ _ ?_
  show m_ty [] [(0, t_2), (0, t_1), (2, t)] ε μ → (kd ε t = 103) ∧ ((0 : Int) ≤ w32 (t_1 + t_2) ∧ w32 (t_1 + t_2) < ln ε t) ∧ ((μ t (w32 (t_1 + t_2))) = 0 → (m_ty [] [] ε μ → G cd_X12_facesOf Q X 40 [] [(0, 0)] ε μ)) ∧ ((μ t (w32 (t_1 + t_2))) ≠ 0 → (m_ty [] [] ε μ → G cd_X12_facesOf Q X 40 [] [(0, 1)] ε μ))
  intro hty
  replace h := h hty.1 (hty.2.2 _ (List.mem_of_getElem? (i := 1) rfl)) (hty.2.2 _ (List.mem_of_getElem? (i := 0) rfl))
  obtain ⟨k1, h⟩ := h
  refine And.intro k1 ?_
  obtain ⟨k2, h⟩ := h
  obtain ⟨k3, h⟩ := h
  refine And.intro (And.intro k2 k3) ?_
  have hj := h
  refine And.intro (fun c3 => ?_) (fun c3 => ?_)
  · intro _
    exact g_X12_facesOf_40 (fun _ _ => (hj _ (((if_pos c3).trans rfl)).symm))
  · intro _
    exact g_X12_facesOf_40 (fun _ _ => (hj _ (((if_neg (c3)).trans rfl)).symm))
set_option maxRecDepth 20000 in
theorem g_X12_facesOf_14 {Q X : m_Po} {v0 v1 v2 : Int} {ε : m_E} {μ : m_M} (h : TY ε μ → i32 v1 → i32 v2 → kd ε v0 = 11 ∧ ∀ t : Int, t = (if 0 ≤ v2 then 1 else 0) → kd ε (fn ε v0 19) = 103 ∧ (0 : Int) ≤ w32 ((w32 (2 * v1)) + t) ∧ w32 ((w32 (2 * v1)) + t) < ln ε (fn ε v0 19) ∧ ∀ t_1 : Int, t_1 = (if (μ (fn ε v0 19) (w32 ((w32 (2 * v1)) + t))) = 0 then 0 else 1) → Q t_1 ε μ) : G cd_X12_facesOf Q X 14 [(0, (2, v0)), (1, (0, v1)), (2, (0, v2))] [] ε μ := by
  refine G_run (m_in [14, 30, 40, 67]) 14 _ _ _ _ ?_
  show m_ty [(0, (2, v0)), (1, (0, v1)), (2, (0, v2))] [] ε μ → (kd ε v0 = 11) ∧ (0 ≤ v2 → (m_ty [] [(0, w32 (2 * v1)), (2, fn ε v0 19)] ε μ → G cd_X12_facesOf Q X 30 [] [(0, 1), (0, w32 (2 * v1)), (2, fn ε v0 19)] ε μ)) ∧ (v2 < 0 → (m_ty [] [(0, w32 (2 * v1)), (2, fn ε v0 19)] ε μ → G cd_X12_facesOf Q X 30 [] [(0, 0), (0, w32 (2 * v1)), (2, fn ε v0 19)] ε μ))
  intro hty
  replace h := h hty.1 (hty.2.1 _ (List.mem_of_getElem? (i := 1) rfl)) (hty.2.1 _ (List.mem_of_getElem? (i := 2) rfl))
  obtain ⟨k1, h⟩ := h
  refine And.intro k1 ?_
  have hj := h
  refine And.intro (fun c1 => ?_) (fun c1 => ?_)
  · intro _
    exact g_X12_facesOf_30 (fun _ _ _ => (hj _ (((if_pos c1).trans rfl)).symm))
  · intro _
    exact g_X12_facesOf_30 (fun _ _ _ => (hj _ (((if_neg (Int.not_le.mpr c1)).trans rfl)).symm))
set_option maxRecDepth 20000 in
theorem g_X12_facesOf_0 {Q X : m_Po} {v0 v1 v2 : Int} {ε : m_E} {μ : m_M} (h : TY ε μ → i32 v1 → i32 v2 → (v2 < 0 → G cd_X12_facesOf Q X 14 [(0, (2, v0)), (1, (0, v1)), (2, (0, v2))] [] ε μ) ∧ (0 ≤ v2 → kd ε v0 = 11 ∧ kd ε (fn ε v0 17) = 100 ∧ (0 : Int) ≤ v1 ∧ v1 < ln ε (fn ε v0 17) ∧ (v2 ≠ (μ (fn ε v0 17) v1) → kd ε (fn ε v0 18) = 100 ∧ (0 : Int) ≤ w32 ((w32 (10 * v1)) + v2) ∧ w32 ((w32 (10 * v1)) + v2) < ln ε (fn ε v0 18) ∧ ∀ v3 : Int, v3 = μ (fn ε v0 18) (w32 ((w32 (10 * v1)) + v2)) → ((0 ≤ v3 → kd ε (fn ε v0 6) = 100 ∧ (0 : Int) ≤ v3 ∧ v3 < ln ε (fn ε v0 6))) ∧ ∀ t : Int, t = (if 0 ≤ v3 then μ (fn ε v0 6) v3 else 0) → Q t ε μ) ∧ (v2 = (μ (fn ε v0 17) v1) → G cd_X12_facesOf Q X 14 [(0, (2, v0)), (1, (0, v1)), (2, (0, v2))] [] ε μ))) : G cd_X12_facesOf Q X 0 [(0, (2, v0)), (1, (0, v1)), (2, (0, v2))] [] ε μ := by
  refine G_run (m_in [14, 30, 40, 67]) 14 _ _ _ _ ?_
  show m_ty [(0, (2, v0)), (1, (0, v1)), (2, (0, v2))] [] ε μ → (v2 < 0 → G cd_X12_facesOf Q X 14 [(0, (2, v0)), (1, (0, v1)), (2, (0, v2))] [] ε μ) ∧ (0 ≤ v2 → (m_ty [(0, (2, v0)), (1, (0, v1)), (2, (0, v2))] [] ε μ → (kd ε v0 = 11) ∧ (kd ε (fn ε v0 17) = 100) ∧ ((0 : Int) ≤ v1 ∧ v1 < ln ε (fn ε v0 17)) ∧ (v2 ≠ (μ (fn ε v0 17) v1) → (m_ty [(0, (2, v0)), (1, (0, v1)), (2, (0, v2))] [] ε μ → (kd ε v0 = 11) ∧ (kd ε (fn ε v0 18) = 100) ∧ ((0 : Int) ≤ w32 ((w32 (10 * v1)) + v2) ∧ w32 ((w32 (10 * v1)) + v2) < ln ε (fn ε v0 18)) ∧ ∀ v3 : Int, v3 = μ (fn ε v0 18) (w32 ((w32 (10 * v1)) + v2)) → (0 ≤ v3 → (m_ty [(0, (2, v0)), (3, (0, v3))] [] ε μ → (kd ε v0 = 11) ∧ (kd ε (fn ε v0 6) = 100) ∧ ((0 : Int) ≤ v3 ∧ v3 < ln ε (fn ε v0 6)) ∧ G cd_X12_facesOf Q X 67 [] [(0, μ (fn ε v0 6) v3)] ε μ)) ∧ (v3 < 0 → (m_ty [] [] ε μ → G cd_X12_facesOf Q X 67 [] [(0, 0)] ε μ)))) ∧ (v2 = (μ (fn ε v0 17) v1) → G cd_X12_facesOf Q X 14 [(0, (2, v0)), (1, (0, v1)), (2, (0, v2))] [] ε μ)))
  intro hty
  replace h := h hty.1 (hty.2.1 _ (List.mem_of_getElem? (i := 1) rfl)) (hty.2.1 _ (List.mem_of_getElem? (i := 2) rfl))
  obtain ⟨ha, hb⟩ := h
  refine And.intro (fun c12 => ?_) (fun c12 => ?_)
  · replace h := ha c12
    clear ha hb
    exact h
  · replace h := hb c12
    clear ha hb
    intro _
    obtain ⟨k1, h⟩ := h
    refine And.intro k1 ?_
    obtain ⟨k2, h⟩ := h
    refine And.intro k2 ?_
    obtain ⟨k3, h⟩ := h
    obtain ⟨k4, h⟩ := h
    refine And.intro (And.intro k3 k4) ?_
    obtain ⟨ha, hb⟩ := h
    refine And.intro (fun c11 => ?_) (fun c11 => ?_)
    · replace h := ha c11
      clear ha hb
      intro _
      refine And.intro k1 ?_
      obtain ⟨k5, h⟩ := h
      refine And.intro k5 ?_
      obtain ⟨k6, h⟩ := h
      obtain ⟨k7, h⟩ := h
      refine And.intro (And.intro k6 k7) ?_
      intro v3 e_v3
      replace h := h v3 e_v3
      obtain ⟨hc, hj⟩ := h
      refine And.intro (fun c7 => ?_) (fun c7 => ?_)
      · replace hc := hc c7
        intro _
        obtain ⟨k9, k10, k11⟩ := hc
        refine And.intro k1 ?_
        refine And.intro k9 ?_
        refine And.intro (And.intro k10 k11) ?_
        exact g_X12_facesOf_67 (fun _ _ => (hj _ (((if_pos c7).trans rfl)).symm))
      · intro _
        exact g_X12_facesOf_67 (fun _ _ => (hj _ (((if_neg (Int.not_le.mpr c7)).trans rfl)).symm))
    · replace h := hb c11
      clear ha hb
      exact h
theorem e_X12_facesOf {Q X : m_Po} {v0 v1 v2 : Int} {ε : m_E} {μ : m_M} (h : TY ε μ → i32 v1 → i32 v2 → (v2 < 0 → G cd_X12_facesOf Q X 14 [(0, (2, v0)), (1, (0, v1)), (2, (0, v2))] [] ε μ) ∧ (0 ≤ v2 → kd ε v0 = 11 ∧ kd ε (fn ε v0 17) = 100 ∧ (0 : Int) ≤ v1 ∧ v1 < ln ε (fn ε v0 17) ∧ (v2 ≠ (μ (fn ε v0 17) v1) → kd ε (fn ε v0 18) = 100 ∧ (0 : Int) ≤ w32 ((w32 (10 * v1)) + v2) ∧ w32 ((w32 (10 * v1)) + v2) < ln ε (fn ε v0 18) ∧ ∀ v3 : Int, v3 = μ (fn ε v0 18) (w32 ((w32 (10 * v1)) + v2)) → ((0 ≤ v3 → kd ε (fn ε v0 6) = 100 ∧ (0 : Int) ≤ v3 ∧ v3 < ln ε (fn ε v0 6))) ∧ ∀ t : Int, t = (if 0 ≤ v3 then μ (fn ε v0 6) v3 else 0) → Q t ε μ) ∧ (v2 = (μ (fn ε v0 17) v1) → G cd_X12_facesOf Q X 14 [(0, (2, v0)), (1, (0, v1)), (2, (0, v2))] [] ε μ))) : o_X12_facesOf [(2, v0), (0, v1), (0, v2)] ε μ Q X := And.intro rfl (g_X12_facesOf_0 h)
/-! ArchYardModel.faceAt(IIII)I -/
set_option maxRecDepth 20000 in
theorem g_X12_faceAt_104 {Q X : m_Po} {t : Int} {ε : m_E} {μ : m_M} (h : TY ε μ → i32 t → Q t ε μ) : G cd_X12_faceAt Q X 104 [] [(0, t)] ε μ := by
  refine G_run (m_in [14, 31, 77, 104]) 14 _ _ _ _ ?_
  show m_ty [] [(0, t)] ε μ → Q t ε μ
  intro hty
  replace h := h hty.1 (hty.2.2 _ (List.mem_of_getElem? (i := 0) rfl))
  exact h
set_option maxRecDepth 20000 in
theorem g_X12_faceAt_77 {Q X : m_Po} {v0 v4 t t_1 : Int} {ε : m_E} {μ : m_M} (h : TY ε μ → i32 v4 → i32 t → i32 t_1 → ∀ v6 : Int, v6 = w32 (t + t_1) → (((Int.tmod v4 2) ≠ 0 → kd ε v0 = 11 ∧ kd ε (fn ε v0 8) = 100 ∧ (0 : Int) ≤ v6 ∧ v6 < ln ε (fn ε v0 8)) ∧ ((Int.tmod v4 2) = 0 → kd ε v0 = 11 ∧ kd ε (fn ε v0 7) = 100 ∧ (0 : Int) ≤ v6 ∧ v6 < ln ε (fn ε v0 7))) ∧ ∀ t_2 : Int, t_2 = (if (Int.tmod v4 2) = 0 then μ (fn ε v0 7) v6 else μ (fn ε v0 8) v6) → Q t_2 ε μ) : G cd_X12_faceAt Q X 77 [(0, (2, v0)), (4, (0, v4))] [(0, t_1), (0, t)] ε μ := by
  refine G_run (m_in [14, 31, 77, 104]) 14 _ _ _ _ ?_
  show m_ty [(0, (2, v0)), (4, (0, v4))] [(0, t_1), (0, t)] ε μ → ∀ v6 : Int, v6 = w32 (t + t_1) → (2 : Int) ≠ 0 ∧ ((Int.tmod v4 2) ≠ 0 → (m_ty [(0, (2, v0)), (6, (0, v6))] [] ε μ → (kd ε v0 = 11) ∧ (kd ε (fn ε v0 8) = 100) ∧ ((0 : Int) ≤ v6 ∧ v6 < ln ε (fn ε v0 8)) ∧ G cd_X12_faceAt Q X 104 [] [(0, μ (fn ε v0 8) v6)] ε μ)) ∧ ((Int.tmod v4 2) = 0 → (m_ty [(0, (2, v0)), (6, (0, v6))] [] ε μ → (kd ε v0 = 11) ∧ (kd ε (fn ε v0 7) = 100) ∧ ((0 : Int) ≤ v6 ∧ v6 < ln ε (fn ε v0 7)) ∧ G cd_X12_faceAt Q X 104 [] [(0, μ (fn ε v0 7) v6)] ε μ))
  intro hty
  replace h := h hty.1 (hty.2.1 _ (List.mem_of_getElem? (i := 1) rfl)) (hty.2.2 _ (List.mem_of_getElem? (i := 1) rfl)) (hty.2.2 _ (List.mem_of_getElem? (i := 0) rfl))
  intro v6 e_v6
  replace h := h v6 e_v6
  refine And.intro (by decide) ?_
  obtain ⟨hc, hj⟩ := h
  obtain ⟨k10, k11⟩ := hc
  refine And.intro (fun c0 => ?_) (fun c0 => ?_)
  · replace k10 := k10 c0
    intro _
    obtain ⟨k2, k3, k4, k5⟩ := k10
    refine And.intro k2 ?_
    refine And.intro k3 ?_
    refine And.intro (And.intro k4 k5) ?_
    exact g_X12_faceAt_104 (fun _ _ => (hj _ (((if_neg (c0)).trans rfl)).symm))
  · replace k11 := k11 c0
    intro _
    obtain ⟨k6, k7, k8, k9⟩ := k11
    refine And.intro k6 ?_
    refine And.intro k7 ?_
    refine And.intro (And.intro k8 k9) ?_
    exact g_X12_faceAt_104 (fun _ _ => (hj _ (((if_pos c0).trans rfl)).symm))
set_option maxRecDepth 20000 in
theorem g_X12_faceAt_31 {Q X : m_Po} {v4 t t_1 t_2 t_3 : Int} {ε : m_E} {μ : m_M} (h : TY ε μ → i32 v4 → i32 t_1 → i32 t_2 → i32 t_3 → kd ε t = 100 ∧ (0 : Int) ≤ w32 ((w32 (t_1 * (w32 (t_2 + t_3)))) + v4) ∧ w32 ((w32 (t_1 * (w32 (t_2 + t_3)))) + v4) < ln ε t ∧ Q (μ t (w32 ((w32 (t_1 * (w32 (t_2 + t_3)))) + v4))) ε μ) : G cd_X12_faceAt Q X 31 [(4, (0, v4))] [(0, t_3), (0, t_2), (0, t_1), (2, t)] ε μ := by
  refine G_run (m_in [14, 31, 77, 104]) 14 _ _ _ _ ?_
  show m_ty [(4, (0, v4))] [(0, t_3), (0, t_2), (0, t_1), (2, t)] ε μ → (kd ε t = 100) ∧ ((0 : Int) ≤ w32 ((w32 (t_1 * (w32 (t_2 + t_3)))) + v4) ∧ w32 ((w32 (t_1 * (w32 (t_2 + t_3)))) + v4) < ln ε t) ∧ Q (μ t (w32 ((w32 (t_1 * (w32 (t_2 + t_3)))) + v4))) ε μ
  intro hty
  replace h := h hty.1 (hty.2.1 _ (List.mem_of_getElem? (i := 0) rfl)) (hty.2.2 _ (List.mem_of_getElem? (i := 2) rfl)) (hty.2.2 _ (List.mem_of_getElem? (i := 1) rfl)) (hty.2.2 _ (List.mem_of_getElem? (i := 0) rfl))
  obtain ⟨k1, h⟩ := h
  refine And.intro k1 ?_
  obtain ⟨k2, h⟩ := h
  obtain ⟨k3, h⟩ := h
  refine And.intro (And.intro k2 k3) ?_
  exact h
set_option maxRecDepth 20000 in
theorem g_X12_faceAt_14 {Q X : m_Po} {v0 v1 v2 v4 : Int} {ε : m_E} {μ : m_M} (h : TY ε μ → i32 v1 → i32 v2 → i32 v4 → kd ε v0 = 11 ∧ ∀ t : Int, t = (if 0 ≤ v2 then 1 else 0) → kd ε (fn ε v0 20) = 100 ∧ (0 : Int) ≤ w32 ((w32 (4 * (w32 ((w32 (2 * v1)) + t)))) + v4) ∧ w32 ((w32 (4 * (w32 ((w32 (2 * v1)) + t)))) + v4) < ln ε (fn ε v0 20) ∧ Q (μ (fn ε v0 20) (w32 ((w32 (4 * (w32 ((w32 (2 * v1)) + t)))) + v4))) ε μ) : G cd_X12_faceAt Q X 14 [(0, (2, v0)), (1, (0, v1)), (2, (0, v2)), (4, (0, v4))] [] ε μ := by
  refine G_run (m_in [14, 31, 77, 104]) 14 _ _ _ _ ?_
  show m_ty [(0, (2, v0)), (1, (0, v1)), (2, (0, v2)), (4, (0, v4))] [] ε μ → (kd ε v0 = 11) ∧ (0 ≤ v2 → (m_ty [(4, (0, v4))] [(0, w32 (2 * v1)), (0, 4), (2, fn ε v0 20)] ε μ → G cd_X12_faceAt Q X 31 [(4, (0, v4))] [(0, 1), (0, w32 (2 * v1)), (0, 4), (2, fn ε v0 20)] ε μ)) ∧ (v2 < 0 → (m_ty [(4, (0, v4))] [(0, w32 (2 * v1)), (0, 4), (2, fn ε v0 20)] ε μ → G cd_X12_faceAt Q X 31 [(4, (0, v4))] [(0, 0), (0, w32 (2 * v1)), (0, 4), (2, fn ε v0 20)] ε μ))
  intro hty
  replace h := h hty.1 (hty.2.1 _ (List.mem_of_getElem? (i := 1) rfl)) (hty.2.1 _ (List.mem_of_getElem? (i := 2) rfl)) (hty.2.1 _ (List.mem_of_getElem? (i := 3) rfl))
  obtain ⟨k1, h⟩ := h
  refine And.intro k1 ?_
  have hj := h
  refine And.intro (fun c1 => ?_) (fun c1 => ?_)
  · intro _
    exact g_X12_faceAt_31 (fun _ _ _ _ _ => (hj _ (((if_pos c1).trans rfl)).symm))
  · intro _
    exact g_X12_faceAt_31 (fun _ _ _ _ _ => (hj _ (((if_neg (Int.not_le.mpr c1)).trans rfl)).symm))
set_option maxRecDepth 20000 in
theorem g_X12_faceAt_0 {Q X : m_Po} {v0 v1 v2 v3 v4 : Int} {ε : m_E} {μ : m_M} (h : TY ε μ → i32 v1 → i32 v2 → i32 v3 → i32 v4 → (v2 < 0 → G cd_X12_faceAt Q X 14 [(0, (2, v0)), (1, (0, v1)), (2, (0, v2)), (4, (0, v4))] [] ε μ) ∧ (0 ≤ v2 → kd ε v0 = 11 ∧ kd ε (fn ε v0 17) = 100 ∧ (0 : Int) ≤ v1 ∧ v1 < ln ε (fn ε v0 17) ∧ (v2 ≠ (μ (fn ε v0 17) v1) → kd ε (fn ε v0 18) = 100 ∧ (0 : Int) ≤ w32 ((w32 (10 * v1)) + v2) ∧ w32 ((w32 (10 * v1)) + v2) < ln ε (fn ε v0 18) ∧ ∀ v5 : Int, v5 = μ (fn ε v0 18) (w32 ((w32 (10 * v1)) + v2)) → (((2 : Int) ≤ v4 → kd ε (fn ε v0 6) = 100 ∧ (0 : Int) ≤ v5 ∧ v5 < ln ε (fn ε v0 6) ∧ (μ (fn ε v0 6) v5) ≠ 0)) ∧ ∀ t : Int, t = (if (2 : Int) ≤ v4 then Int.tmod (w32 (v3 + 1)) (μ (fn ε v0 6) v5) else v3) → ∀ v6 : Int, v6 = w32 ((w32 (12 * v5)) + t) → (((Int.tmod v4 2) ≠ 0 → kd ε v0 = 11 ∧ kd ε (fn ε v0 8) = 100 ∧ (0 : Int) ≤ v6 ∧ v6 < ln ε (fn ε v0 8)) ∧ ((Int.tmod v4 2) = 0 → kd ε v0 = 11 ∧ kd ε (fn ε v0 7) = 100 ∧ (0 : Int) ≤ v6 ∧ v6 < ln ε (fn ε v0 7))) ∧ ∀ t_1 : Int, t_1 = (if (Int.tmod v4 2) = 0 then μ (fn ε v0 7) v6 else μ (fn ε v0 8) v6) → Q t_1 ε μ) ∧ (v2 = (μ (fn ε v0 17) v1) → G cd_X12_faceAt Q X 14 [(0, (2, v0)), (1, (0, v1)), (2, (0, v2)), (4, (0, v4))] [] ε μ))) : G cd_X12_faceAt Q X 0 [(0, (2, v0)), (1, (0, v1)), (2, (0, v2)), (3, (0, v3)), (4, (0, v4))] [] ε μ := by
  refine G_run (m_in [14, 31, 77, 104]) 14 _ _ _ _ ?_
  show m_ty [(0, (2, v0)), (1, (0, v1)), (2, (0, v2)), (3, (0, v3)), (4, (0, v4))] [] ε μ → (v2 < 0 → G cd_X12_faceAt Q X 14 [(0, (2, v0)), (1, (0, v1)), (2, (0, v2)), (4, (0, v4))] [] ε μ) ∧ (0 ≤ v2 → (m_ty [(0, (2, v0)), (1, (0, v1)), (2, (0, v2)), (3, (0, v3)), (4, (0, v4))] [] ε μ → (kd ε v0 = 11) ∧ (kd ε (fn ε v0 17) = 100) ∧ ((0 : Int) ≤ v1 ∧ v1 < ln ε (fn ε v0 17)) ∧ (v2 ≠ (μ (fn ε v0 17) v1) → (m_ty [(0, (2, v0)), (1, (0, v1)), (2, (0, v2)), (3, (0, v3)), (4, (0, v4))] [] ε μ → (kd ε v0 = 11) ∧ (kd ε (fn ε v0 18) = 100) ∧ ((0 : Int) ≤ w32 ((w32 (10 * v1)) + v2) ∧ w32 ((w32 (10 * v1)) + v2) < ln ε (fn ε v0 18)) ∧ ∀ v5 : Int, v5 = μ (fn ε v0 18) (w32 ((w32 (10 * v1)) + v2)) → ((2 : Int) ≤ v4 → (m_ty [(0, (2, v0)), (3, (0, v3)), (4, (0, v4)), (5, (0, v5))] [(0, w32 (12 * v5))] ε μ → (kd ε v0 = 11) ∧ (kd ε (fn ε v0 6) = 100) ∧ ((0 : Int) ≤ v5 ∧ v5 < ln ε (fn ε v0 6)) ∧ ((μ (fn ε v0 6) v5) ≠ 0) ∧ G cd_X12_faceAt Q X 77 [(0, (2, v0)), (4, (0, v4))] [(0, Int.tmod (w32 (v3 + 1)) (μ (fn ε v0 6) v5)), (0, w32 (12 * v5))] ε μ)) ∧ (v4 < (2 : Int) → (m_ty [(0, (2, v0)), (3, (0, v3)), (4, (0, v4))] [(0, w32 (12 * v5))] ε μ → G cd_X12_faceAt Q X 77 [(0, (2, v0)), (4, (0, v4))] [(0, v3), (0, w32 (12 * v5))] ε μ)))) ∧ (v2 = (μ (fn ε v0 17) v1) → G cd_X12_faceAt Q X 14 [(0, (2, v0)), (1, (0, v1)), (2, (0, v2)), (4, (0, v4))] [] ε μ)))
  intro hty
  replace h := h hty.1 (hty.2.1 _ (List.mem_of_getElem? (i := 1) rfl)) (hty.2.1 _ (List.mem_of_getElem? (i := 2) rfl)) (hty.2.1 _ (List.mem_of_getElem? (i := 3) rfl)) (hty.2.1 _ (List.mem_of_getElem? (i := 4) rfl))
  obtain ⟨ha, hb⟩ := h
  refine And.intro (fun c24 => ?_) (fun c24 => ?_)
  · replace h := ha c24
    clear ha hb
    exact h
  · replace h := hb c24
    clear ha hb
    intro _
    obtain ⟨k1, h⟩ := h
    refine And.intro k1 ?_
    obtain ⟨k2, h⟩ := h
    refine And.intro k2 ?_
    obtain ⟨k3, h⟩ := h
    obtain ⟨k4, h⟩ := h
    refine And.intro (And.intro k3 k4) ?_
    obtain ⟨ha, hb⟩ := h
    refine And.intro (fun c23 => ?_) (fun c23 => ?_)
    · replace h := ha c23
      clear ha hb
      intro _
      refine And.intro k1 ?_
      obtain ⟨k5, h⟩ := h
      refine And.intro k5 ?_
      obtain ⟨k6, h⟩ := h
      obtain ⟨k7, h⟩ := h
      refine And.intro (And.intro k6 k7) ?_
      intro v5 e_v5
      replace h := h v5 e_v5
      obtain ⟨hc, hj⟩ := h
      refine And.intro (fun c7 => ?_) (fun c7 => ?_)
      · replace hc := hc c7
        intro _
        obtain ⟨k9, k10, k11, k12⟩ := hc
        refine And.intro k1 ?_
        refine And.intro k9 ?_
        refine And.intro (And.intro k10 k11) ?_
        refine And.intro k12 ?_
        exact g_X12_faceAt_77 (fun _ _ _ _ => (hj _ (((if_pos c7).trans rfl)).symm))
      · intro _
        exact g_X12_faceAt_77 (fun _ _ _ _ => (hj _ (((if_neg (Int.not_le.mpr c7)).trans rfl)).symm))
    · replace h := hb c23
      clear ha hb
      exact h
theorem e_X12_faceAt {Q X : m_Po} {v0 v1 v2 v3 v4 : Int} {ε : m_E} {μ : m_M} (h : TY ε μ → i32 v1 → i32 v2 → i32 v3 → i32 v4 → (v2 < 0 → G cd_X12_faceAt Q X 14 [(0, (2, v0)), (1, (0, v1)), (2, (0, v2)), (4, (0, v4))] [] ε μ) ∧ (0 ≤ v2 → kd ε v0 = 11 ∧ kd ε (fn ε v0 17) = 100 ∧ (0 : Int) ≤ v1 ∧ v1 < ln ε (fn ε v0 17) ∧ (v2 ≠ (μ (fn ε v0 17) v1) → kd ε (fn ε v0 18) = 100 ∧ (0 : Int) ≤ w32 ((w32 (10 * v1)) + v2) ∧ w32 ((w32 (10 * v1)) + v2) < ln ε (fn ε v0 18) ∧ ∀ v5 : Int, v5 = μ (fn ε v0 18) (w32 ((w32 (10 * v1)) + v2)) → (((2 : Int) ≤ v4 → kd ε (fn ε v0 6) = 100 ∧ (0 : Int) ≤ v5 ∧ v5 < ln ε (fn ε v0 6) ∧ (μ (fn ε v0 6) v5) ≠ 0)) ∧ ∀ t : Int, t = (if (2 : Int) ≤ v4 then Int.tmod (w32 (v3 + 1)) (μ (fn ε v0 6) v5) else v3) → ∀ v6 : Int, v6 = w32 ((w32 (12 * v5)) + t) → (((Int.tmod v4 2) ≠ 0 → kd ε v0 = 11 ∧ kd ε (fn ε v0 8) = 100 ∧ (0 : Int) ≤ v6 ∧ v6 < ln ε (fn ε v0 8)) ∧ ((Int.tmod v4 2) = 0 → kd ε v0 = 11 ∧ kd ε (fn ε v0 7) = 100 ∧ (0 : Int) ≤ v6 ∧ v6 < ln ε (fn ε v0 7))) ∧ ∀ t_1 : Int, t_1 = (if (Int.tmod v4 2) = 0 then μ (fn ε v0 7) v6 else μ (fn ε v0 8) v6) → Q t_1 ε μ) ∧ (v2 = (μ (fn ε v0 17) v1) → G cd_X12_faceAt Q X 14 [(0, (2, v0)), (1, (0, v1)), (2, (0, v2)), (4, (0, v4))] [] ε μ))) : o_X12_faceAt [(2, v0), (0, v1), (0, v2), (0, v3), (0, v4)] ε μ Q X := And.intro rfl (g_X12_faceAt_0 h)
/-! ArchYardModel.shares(IIII)Z -/
set_option maxRecDepth 20000 in
theorem g_X12_shares_336 {Q X : m_Po} {t t_1 t_2 : Int} {ε : m_E} {μ : m_M} (h : TY ε μ → i32 t_1 → i32 t_2 → kd ε t = 100 ∧ (0 : Int) ≤ t_1 ∧ t_1 < ln ε t ∧ ∀ μ_1 : m_M, μ_1 = st μ t t_1 t_2 → Q 1 ε μ_1) : G cd_X12_shares Q X 336 [] [(0, t_2), (0, t_1), (2, t)] ε μ := by
  refine G_run (m_in [10, 22, 34, 46, 57, 68, 79, 90, 107, 125, 144, 198, 228, 242, 266, 288, 312, 336]) 39 _ _ _ _ ?_
  show m_ty [] [(0, t_2), (0, t_1), (2, t)] ε μ → (kd ε t = 100) ∧ ((0 : Int) ≤ t_1 ∧ t_1 < ln ε t) ∧ ∀ μ_1 : m_M, μ_1 = st μ t t_1 t_2 → (1 = 0 ∨ 1 = 1) ∧ Q 1 ε μ_1
  intro hty
  replace h := h hty.1 (hty.2.2 _ (List.mem_of_getElem? (i := 1) rfl)) (hty.2.2 _ (List.mem_of_getElem? (i := 0) rfl))
  obtain ⟨k1, h⟩ := h
  refine And.intro k1 ?_
  obtain ⟨k2, h⟩ := h
  obtain ⟨k3, h⟩ := h
  refine And.intro (And.intro k2 k3) ?_
  intro μ_1 e_μ_1
  replace h := h μ_1 e_μ_1
  refine And.intro (Or.inr rfl) ?_
  exact h
set_option maxRecDepth 20000 in
theorem g_X12_shares_312 {Q X : m_Po} {v0 v2 v8 v10 v15 v17 t t_1 t_2 : Int} {ε : m_E} {μ : m_M} (h : TY ε μ → i32 v2 → i32 v8 → i32 v10 → i32 v15 → i32 v17 → i32 t_1 → i32 t_2 → kd ε t = 100 ∧ (0 : Int) ≤ t_1 ∧ t_1 < ln ε t ∧ ∀ μ_1 : m_M, μ_1 = st μ t t_1 t_2 → kd ε v0 = 11 ∧ ∀ t_3 : Int, t_3 = (if v15 ≤ v17 then v8 else v10) → kd ε (fn ε v0 28) = 100 ∧ (0 : Int) ≤ (w32 ((w32 (4 * v2)) + 3)) ∧ (w32 ((w32 (4 * v2)) + 3)) < ln ε (fn ε v0 28) ∧ ∀ μ_2 : m_M, μ_2 = st μ_1 (fn ε v0 28) (w32 ((w32 (4 * v2)) + 3)) t_3 → Q 1 ε μ_2) : G cd_X12_shares Q X 312 [(0, (2, v0)), (2, (0, v2)), (8, (0, v8)), (10, (0, v10)), (15, (0, v15)), (17, (0, v17))] [(0, t_2), (0, t_1), (2, t)] ε μ := by
  refine G_run (m_in [10, 22, 34, 46, 57, 68, 79, 90, 107, 125, 144, 198, 228, 242, 266, 288, 312, 336]) 39 _ _ _ _ ?_
  show m_ty [(0, (2, v0)), (2, (0, v2)), (8, (0, v8)), (10, (0, v10)), (15, (0, v15)), (17, (0, v17))] [(0, t_2), (0, t_1), (2, t)] ε μ → (kd ε t = 100) ∧ ((0 : Int) ≤ t_1 ∧ t_1 < ln ε t) ∧ ∀ μ_1 : m_M, μ_1 = st μ t t_1 t_2 → (kd ε v0 = 11) ∧ (v15 ≤ v17 → (m_ty [(8, (0, v8))] [(0, w32 ((w32 (4 * v2)) + 3)), (2, fn ε v0 28)] ε μ_1 → G cd_X12_shares Q X 336 [] [(0, v8), (0, w32 ((w32 (4 * v2)) + 3)), (2, fn ε v0 28)] ε μ_1)) ∧ (v17 < v15 → (m_ty [(10, (0, v10))] [(0, w32 ((w32 (4 * v2)) + 3)), (2, fn ε v0 28)] ε μ_1 → G cd_X12_shares Q X 336 [] [(0, v10), (0, w32 ((w32 (4 * v2)) + 3)), (2, fn ε v0 28)] ε μ_1))
  intro hty
  replace h := h hty.1 (hty.2.1 _ (List.mem_of_getElem? (i := 1) rfl)) (hty.2.1 _ (List.mem_of_getElem? (i := 2) rfl)) (hty.2.1 _ (List.mem_of_getElem? (i := 3) rfl)) (hty.2.1 _ (List.mem_of_getElem? (i := 4) rfl)) (hty.2.1 _ (List.mem_of_getElem? (i := 5) rfl)) (hty.2.2 _ (List.mem_of_getElem? (i := 1) rfl)) (hty.2.2 _ (List.mem_of_getElem? (i := 0) rfl))
  obtain ⟨k1, h⟩ := h
  refine And.intro k1 ?_
  obtain ⟨k2, h⟩ := h
  obtain ⟨k3, h⟩ := h
  refine And.intro (And.intro k2 k3) ?_
  intro μ_1 e_μ_1
  replace h := h μ_1 e_μ_1
  obtain ⟨k4, h⟩ := h
  refine And.intro k4 ?_
  have hj := h
  refine And.intro (fun c4 => ?_) (fun c4 => ?_)
  · intro _
    exact g_X12_shares_336 (fun _ _ _ => (hj _ (((if_pos c4).trans rfl)).symm))
  · intro _
    exact g_X12_shares_336 (fun _ _ _ => (hj _ (((if_neg (Int.not_le.mpr c4)).trans rfl)).symm))
set_option maxRecDepth 20000 in
theorem g_X12_shares_288 {Q X : m_Po} {v0 v2 v7 v8 v9 v10 v15 v17 t t_1 t_2 : Int} {ε : m_E} {μ : m_M} (h : TY ε μ → i32 v2 → i32 v7 → i32 v8 → i32 v9 → i32 v10 → i32 v15 → i32 v17 → i32 t_1 → i32 t_2 → kd ε t = 100 ∧ (0 : Int) ≤ t_1 ∧ t_1 < ln ε t ∧ ∀ μ_1 : m_M, μ_1 = st μ t t_1 t_2 → kd ε v0 = 11 ∧ ∀ t_3 : Int, t_3 = (if v15 ≤ v17 then v7 else v9) → kd ε (fn ε v0 28) = 100 ∧ (0 : Int) ≤ (w32 ((w32 (4 * v2)) + 2)) ∧ (w32 ((w32 (4 * v2)) + 2)) < ln ε (fn ε v0 28) ∧ ∀ μ_2 : m_M, μ_2 = st μ_1 (fn ε v0 28) (w32 ((w32 (4 * v2)) + 2)) t_3 → kd ε v0 = 11 ∧ ∀ t_4 : Int, t_4 = (if v15 ≤ v17 then v8 else v10) → kd ε (fn ε v0 28) = 100 ∧ (0 : Int) ≤ (w32 ((w32 (4 * v2)) + 3)) ∧ (w32 ((w32 (4 * v2)) + 3)) < ln ε (fn ε v0 28) ∧ ∀ μ_3 : m_M, μ_3 = st μ_2 (fn ε v0 28) (w32 ((w32 (4 * v2)) + 3)) t_4 → Q 1 ε μ_3) : G cd_X12_shares Q X 288 [(0, (2, v0)), (2, (0, v2)), (7, (0, v7)), (8, (0, v8)), (9, (0, v9)), (10, (0, v10)), (15, (0, v15)), (17, (0, v17))] [(0, t_2), (0, t_1), (2, t)] ε μ := by
  refine G_run (m_in [10, 22, 34, 46, 57, 68, 79, 90, 107, 125, 144, 198, 228, 242, 266, 288, 312, 336]) 39 _ _ _ _ ?_
  show m_ty [(0, (2, v0)), (2, (0, v2)), (7, (0, v7)), (8, (0, v8)), (9, (0, v9)), (10, (0, v10)), (15, (0, v15)), (17, (0, v17))] [(0, t_2), (0, t_1), (2, t)] ε μ → (kd ε t = 100) ∧ ((0 : Int) ≤ t_1 ∧ t_1 < ln ε t) ∧ ∀ μ_1 : m_M, μ_1 = st μ t t_1 t_2 → (kd ε v0 = 11) ∧ (v15 ≤ v17 → (m_ty [(0, (2, v0)), (2, (0, v2)), (7, (0, v7)), (8, (0, v8)), (10, (0, v10)), (15, (0, v15)), (17, (0, v17))] [(0, w32 ((w32 (4 * v2)) + 2)), (2, fn ε v0 28)] ε μ_1 → G cd_X12_shares Q X 312 [(0, (2, v0)), (2, (0, v2)), (8, (0, v8)), (10, (0, v10)), (15, (0, v15)), (17, (0, v17))] [(0, v7), (0, w32 ((w32 (4 * v2)) + 2)), (2, fn ε v0 28)] ε μ_1)) ∧ (v17 < v15 → (m_ty [(0, (2, v0)), (2, (0, v2)), (8, (0, v8)), (9, (0, v9)), (10, (0, v10)), (15, (0, v15)), (17, (0, v17))] [(0, w32 ((w32 (4 * v2)) + 2)), (2, fn ε v0 28)] ε μ_1 → G cd_X12_shares Q X 312 [(0, (2, v0)), (2, (0, v2)), (8, (0, v8)), (10, (0, v10)), (15, (0, v15)), (17, (0, v17))] [(0, v9), (0, w32 ((w32 (4 * v2)) + 2)), (2, fn ε v0 28)] ε μ_1))
  intro hty
  replace h := h hty.1 (hty.2.1 _ (List.mem_of_getElem? (i := 1) rfl)) (hty.2.1 _ (List.mem_of_getElem? (i := 2) rfl)) (hty.2.1 _ (List.mem_of_getElem? (i := 3) rfl)) (hty.2.1 _ (List.mem_of_getElem? (i := 4) rfl)) (hty.2.1 _ (List.mem_of_getElem? (i := 5) rfl)) (hty.2.1 _ (List.mem_of_getElem? (i := 6) rfl)) (hty.2.1 _ (List.mem_of_getElem? (i := 7) rfl)) (hty.2.2 _ (List.mem_of_getElem? (i := 1) rfl)) (hty.2.2 _ (List.mem_of_getElem? (i := 0) rfl))
  obtain ⟨k1, h⟩ := h
  refine And.intro k1 ?_
  obtain ⟨k2, h⟩ := h
  obtain ⟨k3, h⟩ := h
  refine And.intro (And.intro k2 k3) ?_
  intro μ_1 e_μ_1
  replace h := h μ_1 e_μ_1
  obtain ⟨k4, h⟩ := h
  refine And.intro k4 ?_
  have hj := h
  refine And.intro (fun c4 => ?_) (fun c4 => ?_)
  · intro _
    exact g_X12_shares_312 (fun _ _ _ _ _ _ _ _ => (hj _ (((if_pos c4).trans rfl)).symm))
  · intro _
    exact g_X12_shares_312 (fun _ _ _ _ _ _ _ _ => (hj _ (((if_neg (Int.not_le.mpr c4)).trans rfl)).symm))
set_option maxRecDepth 20000 in
theorem g_X12_shares_266 {Q X : m_Po} {v0 v2 v6 v7 v8 v9 v10 v12 v15 v16 v17 t t_1 t_2 : Int} {ε : m_E} {μ : m_M} (h : TY ε μ → i32 v2 → i32 v6 → i32 v7 → i32 v8 → i32 v9 → i32 v10 → i32 v12 → i32 v15 → i32 v16 → i32 v17 → i32 t_1 → i32 t_2 → kd ε t = 100 ∧ (0 : Int) ≤ t_1 ∧ t_1 < ln ε t ∧ ∀ μ_1 : m_M, μ_1 = st μ t t_1 t_2 → kd ε v0 = 11 ∧ ∀ t_3 : Int, t_3 = (if v16 ≤ 0 then v6 else v12) → kd ε (fn ε v0 28) = 100 ∧ (0 : Int) ≤ (w32 ((w32 (4 * v2)) + 1)) ∧ (w32 ((w32 (4 * v2)) + 1)) < ln ε (fn ε v0 28) ∧ ∀ μ_2 : m_M, μ_2 = st μ_1 (fn ε v0 28) (w32 ((w32 (4 * v2)) + 1)) t_3 → kd ε v0 = 11 ∧ ∀ t_4 : Int, t_4 = (if v15 ≤ v17 then v7 else v9) → kd ε (fn ε v0 28) = 100 ∧ (0 : Int) ≤ (w32 ((w32 (4 * v2)) + 2)) ∧ (w32 ((w32 (4 * v2)) + 2)) < ln ε (fn ε v0 28) ∧ ∀ μ_3 : m_M, μ_3 = st μ_2 (fn ε v0 28) (w32 ((w32 (4 * v2)) + 2)) t_4 → kd ε v0 = 11 ∧ ∀ t_5 : Int, t_5 = (if v15 ≤ v17 then v8 else v10) → kd ε (fn ε v0 28) = 100 ∧ (0 : Int) ≤ (w32 ((w32 (4 * v2)) + 3)) ∧ (w32 ((w32 (4 * v2)) + 3)) < ln ε (fn ε v0 28) ∧ ∀ μ_4 : m_M, μ_4 = st μ_3 (fn ε v0 28) (w32 ((w32 (4 * v2)) + 3)) t_5 → Q 1 ε μ_4) : G cd_X12_shares Q X 266 [(0, (2, v0)), (2, (0, v2)), (6, (0, v6)), (7, (0, v7)), (8, (0, v8)), (9, (0, v9)), (10, (0, v10)), (12, (0, v12)), (15, (0, v15)), (16, (0, v16)), (17, (0, v17))] [(0, t_2), (0, t_1), (2, t)] ε μ := by
  refine G_run (m_in [10, 22, 34, 46, 57, 68, 79, 90, 107, 125, 144, 198, 228, 242, 266, 288, 312, 336]) 39 _ _ _ _ ?_
  show m_ty [(0, (2, v0)), (2, (0, v2)), (6, (0, v6)), (7, (0, v7)), (8, (0, v8)), (9, (0, v9)), (10, (0, v10)), (12, (0, v12)), (15, (0, v15)), (16, (0, v16)), (17, (0, v17))] [(0, t_2), (0, t_1), (2, t)] ε μ → (kd ε t = 100) ∧ ((0 : Int) ≤ t_1 ∧ t_1 < ln ε t) ∧ ∀ μ_1 : m_M, μ_1 = st μ t t_1 t_2 → (kd ε v0 = 11) ∧ (v16 ≤ 0 → (m_ty [(0, (2, v0)), (2, (0, v2)), (6, (0, v6)), (7, (0, v7)), (8, (0, v8)), (9, (0, v9)), (10, (0, v10)), (15, (0, v15)), (17, (0, v17))] [(0, w32 ((w32 (4 * v2)) + 1)), (2, fn ε v0 28)] ε μ_1 → G cd_X12_shares Q X 288 [(0, (2, v0)), (2, (0, v2)), (7, (0, v7)), (8, (0, v8)), (9, (0, v9)), (10, (0, v10)), (15, (0, v15)), (17, (0, v17))] [(0, v6), (0, w32 ((w32 (4 * v2)) + 1)), (2, fn ε v0 28)] ε μ_1)) ∧ (0 < v16 → (m_ty [(0, (2, v0)), (2, (0, v2)), (7, (0, v7)), (8, (0, v8)), (9, (0, v9)), (10, (0, v10)), (12, (0, v12)), (15, (0, v15)), (17, (0, v17))] [(0, w32 ((w32 (4 * v2)) + 1)), (2, fn ε v0 28)] ε μ_1 → G cd_X12_shares Q X 288 [(0, (2, v0)), (2, (0, v2)), (7, (0, v7)), (8, (0, v8)), (9, (0, v9)), (10, (0, v10)), (15, (0, v15)), (17, (0, v17))] [(0, v12), (0, w32 ((w32 (4 * v2)) + 1)), (2, fn ε v0 28)] ε μ_1))
  intro hty
  replace h := h hty.1 (hty.2.1 _ (List.mem_of_getElem? (i := 1) rfl)) (hty.2.1 _ (List.mem_of_getElem? (i := 2) rfl)) (hty.2.1 _ (List.mem_of_getElem? (i := 3) rfl)) (hty.2.1 _ (List.mem_of_getElem? (i := 4) rfl)) (hty.2.1 _ (List.mem_of_getElem? (i := 5) rfl)) (hty.2.1 _ (List.mem_of_getElem? (i := 6) rfl)) (hty.2.1 _ (List.mem_of_getElem? (i := 7) rfl)) (hty.2.1 _ (List.mem_of_getElem? (i := 8) rfl)) (hty.2.1 _ (List.mem_of_getElem? (i := 9) rfl)) (hty.2.1 _ (List.mem_of_getElem? (i := 10) rfl)) (hty.2.2 _ (List.mem_of_getElem? (i := 1) rfl)) (hty.2.2 _ (List.mem_of_getElem? (i := 0) rfl))
  obtain ⟨k1, h⟩ := h
  refine And.intro k1 ?_
  obtain ⟨k2, h⟩ := h
  obtain ⟨k3, h⟩ := h
  refine And.intro (And.intro k2 k3) ?_
  intro μ_1 e_μ_1
  replace h := h μ_1 e_μ_1
  obtain ⟨k4, h⟩ := h
  refine And.intro k4 ?_
  have hj := h
  refine And.intro (fun c4 => ?_) (fun c4 => ?_)
  · intro _
    exact g_X12_shares_288 (fun _ _ _ _ _ _ _ _ _ _ => (hj _ (((if_pos c4).trans rfl)).symm))
  · intro _
    exact g_X12_shares_288 (fun _ _ _ _ _ _ _ _ _ _ => (hj _ (((if_neg (Int.not_le.mpr c4)).trans rfl)).symm))
set_option maxRecDepth 20000 in
theorem g_X12_shares_242 {Q X : m_Po} {v0 v2 v5 v6 v7 v8 v9 v10 v11 v12 v15 v16 v17 t t_1 : Int} {ε : m_E} {μ : m_M} (h : TY ε μ → i32 v2 → i32 v5 → i32 v6 → i32 v7 → i32 v8 → i32 v9 → i32 v10 → i32 v11 → i32 v12 → i32 v15 → i32 v16 → i32 v17 → i32 t → i32 t_1 → (t < t_1 → kd ε v0 = 11 ∧ ∀ t_2 : Int, t_2 = (if v16 ≤ 0 then v5 else v11) → kd ε (fn ε v0 28) = 100 ∧ (0 : Int) ≤ (w32 (4 * v2)) ∧ (w32 (4 * v2)) < ln ε (fn ε v0 28) ∧ ∀ μ_1 : m_M, μ_1 = st μ (fn ε v0 28) (w32 (4 * v2)) t_2 → kd ε v0 = 11 ∧ ∀ t_3 : Int, t_3 = (if v16 ≤ 0 then v6 else v12) → kd ε (fn ε v0 28) = 100 ∧ (0 : Int) ≤ (w32 ((w32 (4 * v2)) + 1)) ∧ (w32 ((w32 (4 * v2)) + 1)) < ln ε (fn ε v0 28) ∧ ∀ μ_2 : m_M, μ_2 = st μ_1 (fn ε v0 28) (w32 ((w32 (4 * v2)) + 1)) t_3 → kd ε v0 = 11 ∧ ∀ t_4 : Int, t_4 = (if v15 ≤ v17 then v7 else v9) → kd ε (fn ε v0 28) = 100 ∧ (0 : Int) ≤ (w32 ((w32 (4 * v2)) + 2)) ∧ (w32 ((w32 (4 * v2)) + 2)) < ln ε (fn ε v0 28) ∧ ∀ μ_3 : m_M, μ_3 = st μ_2 (fn ε v0 28) (w32 ((w32 (4 * v2)) + 2)) t_4 → kd ε v0 = 11 ∧ ∀ t_5 : Int, t_5 = (if v15 ≤ v17 then v8 else v10) → kd ε (fn ε v0 28) = 100 ∧ (0 : Int) ≤ (w32 ((w32 (4 * v2)) + 3)) ∧ (w32 ((w32 (4 * v2)) + 3)) < ln ε (fn ε v0 28) ∧ ∀ μ_4 : m_M, μ_4 = st μ_3 (fn ε v0 28) (w32 ((w32 (4 * v2)) + 3)) t_5 → Q 1 ε μ_4) ∧ (t_1 ≤ t → Q 0 ε μ)) : G cd_X12_shares Q X 242 [(0, (2, v0)), (2, (0, v2)), (5, (0, v5)), (6, (0, v6)), (7, (0, v7)), (8, (0, v8)), (9, (0, v9)), (10, (0, v10)), (11, (0, v11)), (12, (0, v12)), (15, (0, v15)), (16, (0, v16)), (17, (0, v17))] [(0, t_1), (0, t)] ε μ := by
  refine G_run (m_in [10, 22, 34, 46, 57, 68, 79, 90, 107, 125, 144, 198, 228, 242, 266, 288, 312, 336]) 39 _ _ _ _ ?_
  show m_ty [(0, (2, v0)), (2, (0, v2)), (5, (0, v5)), (6, (0, v6)), (7, (0, v7)), (8, (0, v8)), (9, (0, v9)), (10, (0, v10)), (11, (0, v11)), (12, (0, v12)), (15, (0, v15)), (16, (0, v16)), (17, (0, v17))] [(0, t_1), (0, t)] ε μ → (t < t_1 → (m_ty [(0, (2, v0)), (2, (0, v2)), (5, (0, v5)), (6, (0, v6)), (7, (0, v7)), (8, (0, v8)), (9, (0, v9)), (10, (0, v10)), (11, (0, v11)), (12, (0, v12)), (15, (0, v15)), (16, (0, v16)), (17, (0, v17))] [] ε μ → (kd ε v0 = 11) ∧ (v16 ≤ 0 → (m_ty [(0, (2, v0)), (2, (0, v2)), (5, (0, v5)), (6, (0, v6)), (7, (0, v7)), (8, (0, v8)), (9, (0, v9)), (10, (0, v10)), (12, (0, v12)), (15, (0, v15)), (16, (0, v16)), (17, (0, v17))] [(0, w32 (4 * v2)), (2, fn ε v0 28)] ε μ → G cd_X12_shares Q X 266 [(0, (2, v0)), (2, (0, v2)), (6, (0, v6)), (7, (0, v7)), (8, (0, v8)), (9, (0, v9)), (10, (0, v10)), (12, (0, v12)), (15, (0, v15)), (16, (0, v16)), (17, (0, v17))] [(0, v5), (0, w32 (4 * v2)), (2, fn ε v0 28)] ε μ)) ∧ (0 < v16 → (m_ty [(0, (2, v0)), (2, (0, v2)), (6, (0, v6)), (7, (0, v7)), (8, (0, v8)), (9, (0, v9)), (10, (0, v10)), (11, (0, v11)), (12, (0, v12)), (15, (0, v15)), (16, (0, v16)), (17, (0, v17))] [(0, w32 (4 * v2)), (2, fn ε v0 28)] ε μ → G cd_X12_shares Q X 266 [(0, (2, v0)), (2, (0, v2)), (6, (0, v6)), (7, (0, v7)), (8, (0, v8)), (9, (0, v9)), (10, (0, v10)), (12, (0, v12)), (15, (0, v15)), (16, (0, v16)), (17, (0, v17))] [(0, v11), (0, w32 (4 * v2)), (2, fn ε v0 28)] ε μ)))) ∧ (t_1 ≤ t → (m_ty [] [] ε μ → (0 = 0 ∨ 0 = 1) ∧ Q 0 ε μ))
  intro hty
  replace h := h hty.1 (hty.2.1 _ (List.mem_of_getElem? (i := 1) rfl)) (hty.2.1 _ (List.mem_of_getElem? (i := 2) rfl)) (hty.2.1 _ (List.mem_of_getElem? (i := 3) rfl)) (hty.2.1 _ (List.mem_of_getElem? (i := 4) rfl)) (hty.2.1 _ (List.mem_of_getElem? (i := 5) rfl)) (hty.2.1 _ (List.mem_of_getElem? (i := 6) rfl)) (hty.2.1 _ (List.mem_of_getElem? (i := 7) rfl)) (hty.2.1 _ (List.mem_of_getElem? (i := 8) rfl)) (hty.2.1 _ (List.mem_of_getElem? (i := 9) rfl)) (hty.2.1 _ (List.mem_of_getElem? (i := 10) rfl)) (hty.2.1 _ (List.mem_of_getElem? (i := 11) rfl)) (hty.2.1 _ (List.mem_of_getElem? (i := 12) rfl)) (hty.2.2 _ (List.mem_of_getElem? (i := 1) rfl)) (hty.2.2 _ (List.mem_of_getElem? (i := 0) rfl))
  obtain ⟨ha, hb⟩ := h
  refine And.intro (fun c20 => ?_) (fun c20 => ?_)
  · replace h := ha c20
    clear ha hb
    intro _
    obtain ⟨k1, h⟩ := h
    refine And.intro k1 ?_
    have hj := h
    refine And.intro (fun c1 => ?_) (fun c1 => ?_)
    · intro _
      exact g_X12_shares_266 (fun _ _ _ _ _ _ _ _ _ _ _ _ _ => (hj _ (((if_pos c1).trans rfl)).symm))
    · intro _
      exact g_X12_shares_266 (fun _ _ _ _ _ _ _ _ _ _ _ _ _ => (hj _ (((if_neg (Int.not_le.mpr c1)).trans rfl)).symm))
  · replace h := hb c20
    clear ha hb
    intro _
    refine And.intro (Or.inl rfl) ?_
    exact h
set_option maxRecDepth 20000 in
theorem g_X12_shares_228 {Q X : m_Po} {v0 v2 v5 v6 v7 v8 v9 v10 v11 v12 v15 v16 v17 t : Int} {ε : m_E} {μ : m_M} (h : TY ε μ → i32 v2 → i32 v5 → i32 v6 → i32 v7 → i32 v8 → i32 v9 → i32 v10 → i32 v11 → i32 v12 → i32 v15 → i32 v16 → i32 v17 → i32 t → ∀ t_1 : Int, t_1 = (if v15 ≤ v17 then v15 else v17) → (t < t_1 → kd ε v0 = 11 ∧ ∀ t_2 : Int, t_2 = (if v16 ≤ 0 then v5 else v11) → kd ε (fn ε v0 28) = 100 ∧ (0 : Int) ≤ (w32 (4 * v2)) ∧ (w32 (4 * v2)) < ln ε (fn ε v0 28) ∧ ∀ μ_1 : m_M, μ_1 = st μ (fn ε v0 28) (w32 (4 * v2)) t_2 → kd ε v0 = 11 ∧ ∀ t_3 : Int, t_3 = (if v16 ≤ 0 then v6 else v12) → kd ε (fn ε v0 28) = 100 ∧ (0 : Int) ≤ (w32 ((w32 (4 * v2)) + 1)) ∧ (w32 ((w32 (4 * v2)) + 1)) < ln ε (fn ε v0 28) ∧ ∀ μ_2 : m_M, μ_2 = st μ_1 (fn ε v0 28) (w32 ((w32 (4 * v2)) + 1)) t_3 → kd ε v0 = 11 ∧ ∀ t_4 : Int, t_4 = (if v15 ≤ v17 then v7 else v9) → kd ε (fn ε v0 28) = 100 ∧ (0 : Int) ≤ (w32 ((w32 (4 * v2)) + 2)) ∧ (w32 ((w32 (4 * v2)) + 2)) < ln ε (fn ε v0 28) ∧ ∀ μ_3 : m_M, μ_3 = st μ_2 (fn ε v0 28) (w32 ((w32 (4 * v2)) + 2)) t_4 → kd ε v0 = 11 ∧ ∀ t_5 : Int, t_5 = (if v15 ≤ v17 then v8 else v10) → kd ε (fn ε v0 28) = 100 ∧ (0 : Int) ≤ (w32 ((w32 (4 * v2)) + 3)) ∧ (w32 ((w32 (4 * v2)) + 3)) < ln ε (fn ε v0 28) ∧ ∀ μ_4 : m_M, μ_4 = st μ_3 (fn ε v0 28) (w32 ((w32 (4 * v2)) + 3)) t_5 → Q 1 ε μ_4) ∧ (t_1 ≤ t → Q 0 ε μ)) : G cd_X12_shares Q X 228 [(0, (2, v0)), (2, (0, v2)), (5, (0, v5)), (6, (0, v6)), (7, (0, v7)), (8, (0, v8)), (9, (0, v9)), (10, (0, v10)), (11, (0, v11)), (12, (0, v12)), (15, (0, v15)), (16, (0, v16)), (17, (0, v17))] [(0, t)] ε μ := by
  refine G_run (m_in [10, 22, 34, 46, 57, 68, 79, 90, 107, 125, 144, 198, 228, 242, 266, 288, 312, 336]) 39 _ _ _ _ ?_
  show m_ty [(0, (2, v0)), (2, (0, v2)), (5, (0, v5)), (6, (0, v6)), (7, (0, v7)), (8, (0, v8)), (9, (0, v9)), (10, (0, v10)), (11, (0, v11)), (12, (0, v12)), (15, (0, v15)), (16, (0, v16)), (17, (0, v17))] [(0, t)] ε μ → (v15 ≤ v17 → (m_ty [(0, (2, v0)), (2, (0, v2)), (5, (0, v5)), (6, (0, v6)), (7, (0, v7)), (8, (0, v8)), (9, (0, v9)), (10, (0, v10)), (11, (0, v11)), (12, (0, v12)), (15, (0, v15)), (16, (0, v16)), (17, (0, v17))] [(0, t)] ε μ → G cd_X12_shares Q X 242 [(0, (2, v0)), (2, (0, v2)), (5, (0, v5)), (6, (0, v6)), (7, (0, v7)), (8, (0, v8)), (9, (0, v9)), (10, (0, v10)), (11, (0, v11)), (12, (0, v12)), (15, (0, v15)), (16, (0, v16)), (17, (0, v17))] [(0, v15), (0, t)] ε μ)) ∧ (v17 < v15 → (m_ty [(0, (2, v0)), (2, (0, v2)), (5, (0, v5)), (6, (0, v6)), (7, (0, v7)), (8, (0, v8)), (9, (0, v9)), (10, (0, v10)), (11, (0, v11)), (12, (0, v12)), (15, (0, v15)), (16, (0, v16)), (17, (0, v17))] [(0, t)] ε μ → G cd_X12_shares Q X 242 [(0, (2, v0)), (2, (0, v2)), (5, (0, v5)), (6, (0, v6)), (7, (0, v7)), (8, (0, v8)), (9, (0, v9)), (10, (0, v10)), (11, (0, v11)), (12, (0, v12)), (15, (0, v15)), (16, (0, v16)), (17, (0, v17))] [(0, v17), (0, t)] ε μ))
  intro hty
  replace h := h hty.1 (hty.2.1 _ (List.mem_of_getElem? (i := 1) rfl)) (hty.2.1 _ (List.mem_of_getElem? (i := 2) rfl)) (hty.2.1 _ (List.mem_of_getElem? (i := 3) rfl)) (hty.2.1 _ (List.mem_of_getElem? (i := 4) rfl)) (hty.2.1 _ (List.mem_of_getElem? (i := 5) rfl)) (hty.2.1 _ (List.mem_of_getElem? (i := 6) rfl)) (hty.2.1 _ (List.mem_of_getElem? (i := 7) rfl)) (hty.2.1 _ (List.mem_of_getElem? (i := 8) rfl)) (hty.2.1 _ (List.mem_of_getElem? (i := 9) rfl)) (hty.2.1 _ (List.mem_of_getElem? (i := 10) rfl)) (hty.2.1 _ (List.mem_of_getElem? (i := 11) rfl)) (hty.2.1 _ (List.mem_of_getElem? (i := 12) rfl)) (hty.2.2 _ (List.mem_of_getElem? (i := 0) rfl))
  have hj := h
  refine And.intro (fun c0 => ?_) (fun c0 => ?_)
  · intro _
    exact g_X12_shares_242 (fun _ _ _ _ _ _ _ _ _ _ _ _ _ _ _ => (hj _ (((if_pos c0).trans rfl)).symm))
  · intro _
    exact g_X12_shares_242 (fun _ _ _ _ _ _ _ _ _ _ _ _ _ _ _ => (hj _ (((if_neg (Int.not_le.mpr c0)).trans rfl)).symm))
set_option maxRecDepth 20000 in
theorem g_X12_shares_198 {Q X : m_Po} {v0 v2 v5 v6 v7 v8 v9 v10 v11 v12 v13 v14 v15 v16 : Int} {ε : m_E} {μ : m_M} (h : TY ε μ → i32 v2 → i32 v5 → i32 v6 → i32 v7 → i32 v8 → i32 v9 → i32 v10 → i32 v11 → i32 v12 → i32 v13 → i32 v14 → i32 v15 → i32 v16 → ∀ v17 : Int, v17 = w32 ((w32 (v13 * (w32 (v9 - v5)))) + (w32 (v14 * (w32 (v10 - v6))))) → ∀ t : Int, t = (if v16 ≤ 0 then 0 else v16) → ∀ t_1 : Int, t_1 = (if v15 ≤ v17 then v15 else v17) → (t < t_1 → kd ε v0 = 11 ∧ ∀ t_2 : Int, t_2 = (if v16 ≤ 0 then v5 else v11) → kd ε (fn ε v0 28) = 100 ∧ (0 : Int) ≤ (w32 (4 * v2)) ∧ (w32 (4 * v2)) < ln ε (fn ε v0 28) ∧ ∀ μ_1 : m_M, μ_1 = st μ (fn ε v0 28) (w32 (4 * v2)) t_2 → kd ε v0 = 11 ∧ ∀ t_3 : Int, t_3 = (if v16 ≤ 0 then v6 else v12) → kd ε (fn ε v0 28) = 100 ∧ (0 : Int) ≤ (w32 ((w32 (4 * v2)) + 1)) ∧ (w32 ((w32 (4 * v2)) + 1)) < ln ε (fn ε v0 28) ∧ ∀ μ_2 : m_M, μ_2 = st μ_1 (fn ε v0 28) (w32 ((w32 (4 * v2)) + 1)) t_3 → kd ε v0 = 11 ∧ ∀ t_4 : Int, t_4 = (if v15 ≤ v17 then v7 else v9) → kd ε (fn ε v0 28) = 100 ∧ (0 : Int) ≤ (w32 ((w32 (4 * v2)) + 2)) ∧ (w32 ((w32 (4 * v2)) + 2)) < ln ε (fn ε v0 28) ∧ ∀ μ_3 : m_M, μ_3 = st μ_2 (fn ε v0 28) (w32 ((w32 (4 * v2)) + 2)) t_4 → kd ε v0 = 11 ∧ ∀ t_5 : Int, t_5 = (if v15 ≤ v17 then v8 else v10) → kd ε (fn ε v0 28) = 100 ∧ (0 : Int) ≤ (w32 ((w32 (4 * v2)) + 3)) ∧ (w32 ((w32 (4 * v2)) + 3)) < ln ε (fn ε v0 28) ∧ ∀ μ_4 : m_M, μ_4 = st μ_3 (fn ε v0 28) (w32 ((w32 (4 * v2)) + 3)) t_5 → Q 1 ε μ_4) ∧ (t_1 ≤ t → Q 0 ε μ)) : G cd_X12_shares Q X 198 [(0, (2, v0)), (2, (0, v2)), (5, (0, v5)), (6, (0, v6)), (7, (0, v7)), (8, (0, v8)), (9, (0, v9)), (10, (0, v10)), (11, (0, v11)), (12, (0, v12)), (13, (0, v13)), (14, (0, v14)), (15, (0, v15)), (16, (0, v16))] [] ε μ := by
  refine G_run (m_in [10, 22, 34, 46, 57, 68, 79, 90, 107, 125, 144, 198, 228, 242, 266, 288, 312, 336]) 39 _ _ _ _ ?_
  show m_ty [(0, (2, v0)), (2, (0, v2)), (5, (0, v5)), (6, (0, v6)), (7, (0, v7)), (8, (0, v8)), (9, (0, v9)), (10, (0, v10)), (11, (0, v11)), (12, (0, v12)), (13, (0, v13)), (14, (0, v14)), (15, (0, v15)), (16, (0, v16))] [] ε μ → ∀ v17 : Int, v17 = w32 ((w32 (v13 * (w32 (v9 - v5)))) + (w32 (v14 * (w32 (v10 - v6))))) → (v16 ≤ 0 → (m_ty [(0, (2, v0)), (2, (0, v2)), (5, (0, v5)), (6, (0, v6)), (7, (0, v7)), (8, (0, v8)), (9, (0, v9)), (10, (0, v10)), (11, (0, v11)), (12, (0, v12)), (15, (0, v15)), (16, (0, v16)), (17, (0, v17))] [] ε μ → G cd_X12_shares Q X 228 [(0, (2, v0)), (2, (0, v2)), (5, (0, v5)), (6, (0, v6)), (7, (0, v7)), (8, (0, v8)), (9, (0, v9)), (10, (0, v10)), (11, (0, v11)), (12, (0, v12)), (15, (0, v15)), (16, (0, v16)), (17, (0, v17))] [(0, 0)] ε μ)) ∧ (0 < v16 → (m_ty [(0, (2, v0)), (2, (0, v2)), (5, (0, v5)), (6, (0, v6)), (7, (0, v7)), (8, (0, v8)), (9, (0, v9)), (10, (0, v10)), (11, (0, v11)), (12, (0, v12)), (15, (0, v15)), (16, (0, v16)), (17, (0, v17))] [] ε μ → G cd_X12_shares Q X 228 [(0, (2, v0)), (2, (0, v2)), (5, (0, v5)), (6, (0, v6)), (7, (0, v7)), (8, (0, v8)), (9, (0, v9)), (10, (0, v10)), (11, (0, v11)), (12, (0, v12)), (15, (0, v15)), (16, (0, v16)), (17, (0, v17))] [(0, v16)] ε μ))
  intro hty
  replace h := h hty.1 (hty.2.1 _ (List.mem_of_getElem? (i := 1) rfl)) (hty.2.1 _ (List.mem_of_getElem? (i := 2) rfl)) (hty.2.1 _ (List.mem_of_getElem? (i := 3) rfl)) (hty.2.1 _ (List.mem_of_getElem? (i := 4) rfl)) (hty.2.1 _ (List.mem_of_getElem? (i := 5) rfl)) (hty.2.1 _ (List.mem_of_getElem? (i := 6) rfl)) (hty.2.1 _ (List.mem_of_getElem? (i := 7) rfl)) (hty.2.1 _ (List.mem_of_getElem? (i := 8) rfl)) (hty.2.1 _ (List.mem_of_getElem? (i := 9) rfl)) (hty.2.1 _ (List.mem_of_getElem? (i := 10) rfl)) (hty.2.1 _ (List.mem_of_getElem? (i := 11) rfl)) (hty.2.1 _ (List.mem_of_getElem? (i := 12) rfl)) (hty.2.1 _ (List.mem_of_getElem? (i := 13) rfl))
  intro v17 e_v17
  replace h := h v17 e_v17
  have hj := h
  refine And.intro (fun c0 => ?_) (fun c0 => ?_)
  · intro _
    exact g_X12_shares_228 (fun _ _ _ _ _ _ _ _ _ _ _ _ _ _ => (hj _ (((if_pos c0).trans rfl)).symm))
  · intro _
    exact g_X12_shares_228 (fun _ _ _ _ _ _ _ _ _ _ _ _ _ _ => (hj _ (((if_neg (Int.not_le.mpr c0)).trans rfl)).symm))
set_option maxRecDepth 20000 in
theorem g_X12_shares_144 {Q X : m_Po} {v0 v2 v5 v6 v7 v8 v9 v10 v11 v12 v13 v14 : Int} {ε : m_E} {μ : m_M} (h : TY ε μ → i32 v2 → i32 v5 → i32 v6 → i32 v7 → i32 v8 → i32 v9 → i32 v10 → i32 v11 → i32 v12 → i32 v13 → i32 v14 → ((w32 ((w32 (v13 * (w32 (v11 - v9)))) + (w32 (v14 * (w32 (v12 - v10)))))) < 0 → ∀ v15 : Int, v15 = w32 ((w32 (v13 * v13)) + (w32 (v14 * v14))) → ∀ v16 : Int, v16 = w32 ((w32 (v13 * (w32 (v11 - v5)))) + (w32 (v14 * (w32 (v12 - v6))))) → ∀ v17 : Int, v17 = w32 ((w32 (v13 * (w32 (v9 - v5)))) + (w32 (v14 * (w32 (v10 - v6))))) → ∀ t : Int, t = (if v16 ≤ 0 then 0 else v16) → ∀ t_1 : Int, t_1 = (if v15 ≤ v17 then v15 else v17) → (t < t_1 → kd ε v0 = 11 ∧ ∀ t_2 : Int, t_2 = (if v16 ≤ 0 then v5 else v11) → kd ε (fn ε v0 28) = 100 ∧ (0 : Int) ≤ (w32 (4 * v2)) ∧ (w32 (4 * v2)) < ln ε (fn ε v0 28) ∧ ∀ μ_1 : m_M, μ_1 = st μ (fn ε v0 28) (w32 (4 * v2)) t_2 → kd ε v0 = 11 ∧ ∀ t_3 : Int, t_3 = (if v16 ≤ 0 then v6 else v12) → kd ε (fn ε v0 28) = 100 ∧ (0 : Int) ≤ (w32 ((w32 (4 * v2)) + 1)) ∧ (w32 ((w32 (4 * v2)) + 1)) < ln ε (fn ε v0 28) ∧ ∀ μ_2 : m_M, μ_2 = st μ_1 (fn ε v0 28) (w32 ((w32 (4 * v2)) + 1)) t_3 → kd ε v0 = 11 ∧ ∀ t_4 : Int, t_4 = (if v15 ≤ v17 then v7 else v9) → kd ε (fn ε v0 28) = 100 ∧ (0 : Int) ≤ (w32 ((w32 (4 * v2)) + 2)) ∧ (w32 ((w32 (4 * v2)) + 2)) < ln ε (fn ε v0 28) ∧ ∀ μ_3 : m_M, μ_3 = st μ_2 (fn ε v0 28) (w32 ((w32 (4 * v2)) + 2)) t_4 → kd ε v0 = 11 ∧ ∀ t_5 : Int, t_5 = (if v15 ≤ v17 then v8 else v10) → kd ε (fn ε v0 28) = 100 ∧ (0 : Int) ≤ (w32 ((w32 (4 * v2)) + 3)) ∧ (w32 ((w32 (4 * v2)) + 3)) < ln ε (fn ε v0 28) ∧ ∀ μ_4 : m_M, μ_4 = st μ_3 (fn ε v0 28) (w32 ((w32 (4 * v2)) + 3)) t_5 → Q 1 ε μ_4) ∧ (t_1 ≤ t → Q 0 ε μ)) ∧ (0 ≤ (w32 ((w32 (v13 * (w32 (v11 - v9)))) + (w32 (v14 * (w32 (v12 - v10)))))) → Q 0 ε μ)) : G cd_X12_shares Q X 144 [(0, (2, v0)), (2, (0, v2)), (5, (0, v5)), (6, (0, v6)), (7, (0, v7)), (8, (0, v8)), (9, (0, v9)), (10, (0, v10)), (11, (0, v11)), (12, (0, v12)), (13, (0, v13)), (14, (0, v14))] [] ε μ := by
  refine G_run (m_in [10, 22, 34, 46, 57, 68, 79, 90, 107, 125, 144, 198, 228, 242, 266, 288, 312, 336]) 39 _ _ _ _ ?_
  show m_ty [(0, (2, v0)), (2, (0, v2)), (5, (0, v5)), (6, (0, v6)), (7, (0, v7)), (8, (0, v8)), (9, (0, v9)), (10, (0, v10)), (11, (0, v11)), (12, (0, v12)), (13, (0, v13)), (14, (0, v14))] [] ε μ → ((w32 ((w32 (v13 * (w32 (v11 - v9)))) + (w32 (v14 * (w32 (v12 - v10)))))) < 0 → (m_ty [(0, (2, v0)), (2, (0, v2)), (5, (0, v5)), (6, (0, v6)), (7, (0, v7)), (8, (0, v8)), (9, (0, v9)), (10, (0, v10)), (11, (0, v11)), (12, (0, v12)), (13, (0, v13)), (14, (0, v14))] [] ε μ → ∀ v15 : Int, v15 = w32 ((w32 (v13 * v13)) + (w32 (v14 * v14))) → ∀ v16 : Int, v16 = w32 ((w32 (v13 * (w32 (v11 - v5)))) + (w32 (v14 * (w32 (v12 - v6))))) → G cd_X12_shares Q X 198 [(0, (2, v0)), (2, (0, v2)), (5, (0, v5)), (6, (0, v6)), (7, (0, v7)), (8, (0, v8)), (9, (0, v9)), (10, (0, v10)), (11, (0, v11)), (12, (0, v12)), (13, (0, v13)), (14, (0, v14)), (15, (0, v15)), (16, (0, v16))] [] ε μ)) ∧ (0 ≤ (w32 ((w32 (v13 * (w32 (v11 - v9)))) + (w32 (v14 * (w32 (v12 - v10)))))) → (m_ty [] [] ε μ → (0 = 0 ∨ 0 = 1) ∧ Q 0 ε μ))
  intro hty
  replace h := h hty.1 (hty.2.1 _ (List.mem_of_getElem? (i := 1) rfl)) (hty.2.1 _ (List.mem_of_getElem? (i := 2) rfl)) (hty.2.1 _ (List.mem_of_getElem? (i := 3) rfl)) (hty.2.1 _ (List.mem_of_getElem? (i := 4) rfl)) (hty.2.1 _ (List.mem_of_getElem? (i := 5) rfl)) (hty.2.1 _ (List.mem_of_getElem? (i := 6) rfl)) (hty.2.1 _ (List.mem_of_getElem? (i := 7) rfl)) (hty.2.1 _ (List.mem_of_getElem? (i := 8) rfl)) (hty.2.1 _ (List.mem_of_getElem? (i := 9) rfl)) (hty.2.1 _ (List.mem_of_getElem? (i := 10) rfl)) (hty.2.1 _ (List.mem_of_getElem? (i := 11) rfl))
  obtain ⟨ha, hb⟩ := h
  refine And.intro (fun c23 => ?_) (fun c23 => ?_)
  · replace h := ha c23
    clear ha hb
    intro _
    intro v15 e_v15
    replace h := h v15 e_v15
    intro v16 e_v16
    replace h := h v16 e_v16
    exact g_X12_shares_198 (fun _ _ _ _ _ _ _ _ _ _ _ _ _ _ => h)
  · replace h := hb c23
    clear ha hb
    intro _
    refine And.intro (Or.inl rfl) ?_
    exact h
set_option maxRecDepth 20000 in
theorem g_X12_shares_125 {Q X : m_Po} {v0 v2 v5 v6 v7 v8 v9 v10 v11 v12 t : Int} {ε : m_E} {μ : m_M} (h : TY ε μ → i32 v2 → i32 v5 → i32 v6 → i32 v7 → i32 v8 → i32 v9 → i32 v10 → i32 v11 → i32 v12 → i32 t → (t = 0 → ∀ v13 : Int, v13 = w32 (v7 - v5) → ∀ v14 : Int, v14 = w32 (v8 - v6) → ((w32 ((w32 (v13 * (w32 (v11 - v9)))) + (w32 (v14 * (w32 (v12 - v10)))))) < 0 → ∀ v15 : Int, v15 = w32 ((w32 (v13 * v13)) + (w32 (v14 * v14))) → ∀ v16 : Int, v16 = w32 ((w32 (v13 * (w32 (v11 - v5)))) + (w32 (v14 * (w32 (v12 - v6))))) → ∀ v17 : Int, v17 = w32 ((w32 (v13 * (w32 (v9 - v5)))) + (w32 (v14 * (w32 (v10 - v6))))) → ∀ t_1 : Int, t_1 = (if v16 ≤ 0 then 0 else v16) → ∀ t_2 : Int, t_2 = (if v15 ≤ v17 then v15 else v17) → (t_1 < t_2 → kd ε v0 = 11 ∧ ∀ t_3 : Int, t_3 = (if v16 ≤ 0 then v5 else v11) → kd ε (fn ε v0 28) = 100 ∧ (0 : Int) ≤ (w32 (4 * v2)) ∧ (w32 (4 * v2)) < ln ε (fn ε v0 28) ∧ ∀ μ_1 : m_M, μ_1 = st μ (fn ε v0 28) (w32 (4 * v2)) t_3 → kd ε v0 = 11 ∧ ∀ t_4 : Int, t_4 = (if v16 ≤ 0 then v6 else v12) → kd ε (fn ε v0 28) = 100 ∧ (0 : Int) ≤ (w32 ((w32 (4 * v2)) + 1)) ∧ (w32 ((w32 (4 * v2)) + 1)) < ln ε (fn ε v0 28) ∧ ∀ μ_2 : m_M, μ_2 = st μ_1 (fn ε v0 28) (w32 ((w32 (4 * v2)) + 1)) t_4 → kd ε v0 = 11 ∧ ∀ t_5 : Int, t_5 = (if v15 ≤ v17 then v7 else v9) → kd ε (fn ε v0 28) = 100 ∧ (0 : Int) ≤ (w32 ((w32 (4 * v2)) + 2)) ∧ (w32 ((w32 (4 * v2)) + 2)) < ln ε (fn ε v0 28) ∧ ∀ μ_3 : m_M, μ_3 = st μ_2 (fn ε v0 28) (w32 ((w32 (4 * v2)) + 2)) t_5 → kd ε v0 = 11 ∧ ∀ t_6 : Int, t_6 = (if v15 ≤ v17 then v8 else v10) → kd ε (fn ε v0 28) = 100 ∧ (0 : Int) ≤ (w32 ((w32 (4 * v2)) + 3)) ∧ (w32 ((w32 (4 * v2)) + 3)) < ln ε (fn ε v0 28) ∧ ∀ μ_4 : m_M, μ_4 = st μ_3 (fn ε v0 28) (w32 ((w32 (4 * v2)) + 3)) t_6 → Q 1 ε μ_4) ∧ (t_2 ≤ t_1 → Q 0 ε μ)) ∧ (0 ≤ (w32 ((w32 (v13 * (w32 (v11 - v9)))) + (w32 (v14 * (w32 (v12 - v10)))))) → Q 0 ε μ)) ∧ (t ≠ 0 → Q 0 ε μ)) : G cd_X12_shares Q X 125 [(0, (2, v0)), (2, (0, v2)), (5, (0, v5)), (6, (0, v6)), (7, (0, v7)), (8, (0, v8)), (9, (0, v9)), (10, (0, v10)), (11, (0, v11)), (12, (0, v12))] [(0, t)] ε μ := by
  refine G_run (m_in [10, 22, 34, 46, 57, 68, 79, 90, 107, 125, 144, 198, 228, 242, 266, 288, 312, 336]) 39 _ _ _ _ ?_
  show m_ty [(0, (2, v0)), (2, (0, v2)), (5, (0, v5)), (6, (0, v6)), (7, (0, v7)), (8, (0, v8)), (9, (0, v9)), (10, (0, v10)), (11, (0, v11)), (12, (0, v12))] [(0, t)] ε μ → (t = 0 → (m_ty [(0, (2, v0)), (2, (0, v2)), (5, (0, v5)), (6, (0, v6)), (7, (0, v7)), (8, (0, v8)), (9, (0, v9)), (10, (0, v10)), (11, (0, v11)), (12, (0, v12))] [] ε μ → ∀ v13 : Int, v13 = w32 (v7 - v5) → ∀ v14 : Int, v14 = w32 (v8 - v6) → G cd_X12_shares Q X 144 [(0, (2, v0)), (2, (0, v2)), (5, (0, v5)), (6, (0, v6)), (7, (0, v7)), (8, (0, v8)), (9, (0, v9)), (10, (0, v10)), (11, (0, v11)), (12, (0, v12)), (13, (0, v13)), (14, (0, v14))] [] ε μ)) ∧ (t ≠ 0 → (m_ty [] [] ε μ → (0 = 0 ∨ 0 = 1) ∧ Q 0 ε μ))
  intro hty
  replace h := h hty.1 (hty.2.1 _ (List.mem_of_getElem? (i := 1) rfl)) (hty.2.1 _ (List.mem_of_getElem? (i := 2) rfl)) (hty.2.1 _ (List.mem_of_getElem? (i := 3) rfl)) (hty.2.1 _ (List.mem_of_getElem? (i := 4) rfl)) (hty.2.1 _ (List.mem_of_getElem? (i := 5) rfl)) (hty.2.1 _ (List.mem_of_getElem? (i := 6) rfl)) (hty.2.1 _ (List.mem_of_getElem? (i := 7) rfl)) (hty.2.1 _ (List.mem_of_getElem? (i := 8) rfl)) (hty.2.1 _ (List.mem_of_getElem? (i := 9) rfl)) (hty.2.2 _ (List.mem_of_getElem? (i := 0) rfl))
  obtain ⟨ha, hb⟩ := h
  refine And.intro (fun c24 => ?_) (fun c24 => ?_)
  · replace h := ha c24
    clear ha hb
    intro _
    intro v13 e_v13
    replace h := h v13 e_v13
    intro v14 e_v14
    replace h := h v14 e_v14
    exact g_X12_shares_144 (fun _ _ _ _ _ _ _ _ _ _ _ _ => h)
  · replace h := hb c24
    clear ha hb
    intro _
    refine And.intro (Or.inl rfl) ?_
    exact h
set_option maxRecDepth 20000 in
theorem g_X12_shares_107 {Q X : m_Po} {v0 v2 v5 v6 v7 v8 v9 v10 v11 v12 t : Int} {ε : m_E} {μ : m_M} (h : TY ε μ → i32 v2 → i32 v5 → i32 v6 → i32 v7 → i32 v8 → i32 v9 → i32 v10 → i32 v11 → i32 v12 → i32 t → (t ≠ 0 → Q 0 ε μ) ∧ (t = 0 → o_X12_turn [(0, v5), (0, v6), (0, v7), (0, v8), (0, v11), (0, v12)] ε μ (fun z ε_1 μ_1 => G cd_X12_shares Q X 125 [(0, (2, v0)), (2, (0, v2)), (5, (0, v5)), (6, (0, v6)), (7, (0, v7)), (8, (0, v8)), (9, (0, v9)), (10, (0, v10)), (11, (0, v11)), (12, (0, v12))] [(0, z)] ε_1 μ_1) m_F)) : G cd_X12_shares Q X 107 [(0, (2, v0)), (2, (0, v2)), (5, (0, v5)), (6, (0, v6)), (7, (0, v7)), (8, (0, v8)), (9, (0, v9)), (10, (0, v10)), (11, (0, v11)), (12, (0, v12))] [(0, t)] ε μ := by
  refine G_run (m_in [10, 22, 34, 46, 57, 68, 79, 90, 107, 125, 144, 198, 228, 242, 266, 288, 312, 336]) 39 _ _ _ _ ?_
  show m_ty [(0, (2, v0)), (2, (0, v2)), (5, (0, v5)), (6, (0, v6)), (7, (0, v7)), (8, (0, v8)), (9, (0, v9)), (10, (0, v10)), (11, (0, v11)), (12, (0, v12))] [(0, t)] ε μ → (t ≠ 0 → (m_ty [] [] ε μ → (0 = 0 ∨ 0 = 1) ∧ Q 0 ε μ)) ∧ (t = 0 → (m_ty [(0, (2, v0)), (2, (0, v2)), (5, (0, v5)), (6, (0, v6)), (7, (0, v7)), (8, (0, v8)), (9, (0, v9)), (10, (0, v10)), (11, (0, v11)), (12, (0, v12))] [] ε μ → o_X12_turn [(0, v5), (0, v6), (0, v7), (0, v8), (0, v11), (0, v12)] ε μ (fun z ε_1 μ_1 => G cd_X12_shares Q X 125 [(0, (2, v0)), (2, (0, v2)), (5, (0, v5)), (6, (0, v6)), (7, (0, v7)), (8, (0, v8)), (9, (0, v9)), (10, (0, v10)), (11, (0, v11)), (12, (0, v12))] [(0, z)] ε_1 μ_1) m_F))
  intro hty
  replace h := h hty.1 (hty.2.1 _ (List.mem_of_getElem? (i := 1) rfl)) (hty.2.1 _ (List.mem_of_getElem? (i := 2) rfl)) (hty.2.1 _ (List.mem_of_getElem? (i := 3) rfl)) (hty.2.1 _ (List.mem_of_getElem? (i := 4) rfl)) (hty.2.1 _ (List.mem_of_getElem? (i := 5) rfl)) (hty.2.1 _ (List.mem_of_getElem? (i := 6) rfl)) (hty.2.1 _ (List.mem_of_getElem? (i := 7) rfl)) (hty.2.1 _ (List.mem_of_getElem? (i := 8) rfl)) (hty.2.1 _ (List.mem_of_getElem? (i := 9) rfl)) (hty.2.2 _ (List.mem_of_getElem? (i := 0) rfl))
  obtain ⟨ha, hb⟩ := h
  refine And.intro (fun c0 => ?_) (fun c0 => ?_)
  · replace h := ha c0
    clear ha hb
    intro _
    refine And.intro (Or.inl rfl) ?_
    exact h
  · replace h := hb c0
    clear ha hb
    intro _
    exact h
set_option maxRecDepth 20000 in
theorem g_X12_shares_90 {Q X : m_Po} {v0 v2 v5 v6 v7 v8 v9 v10 v11 t : Int} {ε : m_E} {μ : m_M} (h : TY ε μ → i32 v2 → i32 v5 → i32 v6 → i32 v7 → i32 v8 → i32 v9 → i32 v10 → i32 v11 → i32 t → ∀ v12 : Int, v12 = t → o_X12_turn [(0, v5), (0, v6), (0, v7), (0, v8), (0, v9), (0, v10)] ε μ (fun z ε_1 μ_1 => G cd_X12_shares Q X 107 [(0, (2, v0)), (2, (0, v2)), (5, (0, v5)), (6, (0, v6)), (7, (0, v7)), (8, (0, v8)), (9, (0, v9)), (10, (0, v10)), (11, (0, v11)), (12, (0, v12))] [(0, z)] ε_1 μ_1) m_F) : G cd_X12_shares Q X 90 [(0, (2, v0)), (2, (0, v2)), (5, (0, v5)), (6, (0, v6)), (7, (0, v7)), (8, (0, v8)), (9, (0, v9)), (10, (0, v10)), (11, (0, v11))] [(0, t)] ε μ := by
  refine G_run (m_in [10, 22, 34, 46, 57, 68, 79, 90, 107, 125, 144, 198, 228, 242, 266, 288, 312, 336]) 39 _ _ _ _ ?_
  show m_ty [(0, (2, v0)), (2, (0, v2)), (5, (0, v5)), (6, (0, v6)), (7, (0, v7)), (8, (0, v8)), (9, (0, v9)), (10, (0, v10)), (11, (0, v11))] [(0, t)] ε μ → ∀ v12 : Int, v12 = t → o_X12_turn [(0, v5), (0, v6), (0, v7), (0, v8), (0, v9), (0, v10)] ε μ (fun z ε_1 μ_1 => G cd_X12_shares Q X 107 [(0, (2, v0)), (2, (0, v2)), (5, (0, v5)), (6, (0, v6)), (7, (0, v7)), (8, (0, v8)), (9, (0, v9)), (10, (0, v10)), (11, (0, v11)), (12, (0, v12))] [(0, z)] ε_1 μ_1) m_F
  intro hty
  replace h := h hty.1 (hty.2.1 _ (List.mem_of_getElem? (i := 1) rfl)) (hty.2.1 _ (List.mem_of_getElem? (i := 2) rfl)) (hty.2.1 _ (List.mem_of_getElem? (i := 3) rfl)) (hty.2.1 _ (List.mem_of_getElem? (i := 4) rfl)) (hty.2.1 _ (List.mem_of_getElem? (i := 5) rfl)) (hty.2.1 _ (List.mem_of_getElem? (i := 6) rfl)) (hty.2.1 _ (List.mem_of_getElem? (i := 7) rfl)) (hty.2.1 _ (List.mem_of_getElem? (i := 8) rfl)) (hty.2.2 _ (List.mem_of_getElem? (i := 0) rfl))
  intro v12 e_v12
  replace h := h v12 e_v12
  exact h
set_option maxRecDepth 20000 in
theorem g_X12_shares_79 {Q X : m_Po} {v0 v1 v2 v4 v5 v6 v7 v8 v9 v10 t : Int} {ε : m_E} {μ : m_M} (h : TY ε μ → i32 v1 → i32 v2 → i32 v4 → i32 v5 → i32 v6 → i32 v7 → i32 v8 → i32 v9 → i32 v10 → i32 t → ∀ v11 : Int, v11 = t → kd ε v0 = 11 ∧ o_X12_faceAt [(2, v0), (0, v1), (0, v2), (0, v4), (0, 3)] ε μ (fun z ε_1 μ_1 => G cd_X12_shares Q X 90 [(0, (2, v0)), (2, (0, v2)), (5, (0, v5)), (6, (0, v6)), (7, (0, v7)), (8, (0, v8)), (9, (0, v9)), (10, (0, v10)), (11, (0, v11))] [(0, z)] ε_1 μ_1) m_F) : G cd_X12_shares Q X 79 [(0, (2, v0)), (1, (0, v1)), (2, (0, v2)), (4, (0, v4)), (5, (0, v5)), (6, (0, v6)), (7, (0, v7)), (8, (0, v8)), (9, (0, v9)), (10, (0, v10))] [(0, t)] ε μ := by
  refine G_run (m_in [10, 22, 34, 46, 57, 68, 79, 90, 107, 125, 144, 198, 228, 242, 266, 288, 312, 336]) 39 _ _ _ _ ?_
  show m_ty [(0, (2, v0)), (1, (0, v1)), (2, (0, v2)), (4, (0, v4)), (5, (0, v5)), (6, (0, v6)), (7, (0, v7)), (8, (0, v8)), (9, (0, v9)), (10, (0, v10))] [(0, t)] ε μ → ∀ v11 : Int, v11 = t → (kd ε v0 = 11) ∧ o_X12_faceAt [(2, v0), (0, v1), (0, v2), (0, v4), (0, 3)] ε μ (fun z ε_1 μ_1 => G cd_X12_shares Q X 90 [(0, (2, v0)), (2, (0, v2)), (5, (0, v5)), (6, (0, v6)), (7, (0, v7)), (8, (0, v8)), (9, (0, v9)), (10, (0, v10)), (11, (0, v11))] [(0, z)] ε_1 μ_1) m_F
  intro hty
  replace h := h hty.1 (hty.2.1 _ (List.mem_of_getElem? (i := 1) rfl)) (hty.2.1 _ (List.mem_of_getElem? (i := 2) rfl)) (hty.2.1 _ (List.mem_of_getElem? (i := 3) rfl)) (hty.2.1 _ (List.mem_of_getElem? (i := 4) rfl)) (hty.2.1 _ (List.mem_of_getElem? (i := 5) rfl)) (hty.2.1 _ (List.mem_of_getElem? (i := 6) rfl)) (hty.2.1 _ (List.mem_of_getElem? (i := 7) rfl)) (hty.2.1 _ (List.mem_of_getElem? (i := 8) rfl)) (hty.2.1 _ (List.mem_of_getElem? (i := 9) rfl)) (hty.2.2 _ (List.mem_of_getElem? (i := 0) rfl))
  intro v11 e_v11
  replace h := h v11 e_v11
  obtain ⟨k1, h⟩ := h
  refine And.intro k1 ?_
  exact h
set_option maxRecDepth 20000 in
theorem g_X12_shares_68 {Q X : m_Po} {v0 v1 v2 v4 v5 v6 v7 v8 v9 t : Int} {ε : m_E} {μ : m_M} (h : TY ε μ → i32 v1 → i32 v2 → i32 v4 → i32 v5 → i32 v6 → i32 v7 → i32 v8 → i32 v9 → i32 t → ∀ v10 : Int, v10 = t → kd ε v0 = 11 ∧ o_X12_faceAt [(2, v0), (0, v1), (0, v2), (0, v4), (0, 2)] ε μ (fun z ε_1 μ_1 => G cd_X12_shares Q X 79 [(0, (2, v0)), (1, (0, v1)), (2, (0, v2)), (4, (0, v4)), (5, (0, v5)), (6, (0, v6)), (7, (0, v7)), (8, (0, v8)), (9, (0, v9)), (10, (0, v10))] [(0, z)] ε_1 μ_1) m_F) : G cd_X12_shares Q X 68 [(0, (2, v0)), (1, (0, v1)), (2, (0, v2)), (4, (0, v4)), (5, (0, v5)), (6, (0, v6)), (7, (0, v7)), (8, (0, v8)), (9, (0, v9))] [(0, t)] ε μ := by
  refine G_run (m_in [10, 22, 34, 46, 57, 68, 79, 90, 107, 125, 144, 198, 228, 242, 266, 288, 312, 336]) 39 _ _ _ _ ?_
  show m_ty [(0, (2, v0)), (1, (0, v1)), (2, (0, v2)), (4, (0, v4)), (5, (0, v5)), (6, (0, v6)), (7, (0, v7)), (8, (0, v8)), (9, (0, v9))] [(0, t)] ε μ → ∀ v10 : Int, v10 = t → (kd ε v0 = 11) ∧ o_X12_faceAt [(2, v0), (0, v1), (0, v2), (0, v4), (0, 2)] ε μ (fun z ε_1 μ_1 => G cd_X12_shares Q X 79 [(0, (2, v0)), (1, (0, v1)), (2, (0, v2)), (4, (0, v4)), (5, (0, v5)), (6, (0, v6)), (7, (0, v7)), (8, (0, v8)), (9, (0, v9)), (10, (0, v10))] [(0, z)] ε_1 μ_1) m_F
  intro hty
  replace h := h hty.1 (hty.2.1 _ (List.mem_of_getElem? (i := 1) rfl)) (hty.2.1 _ (List.mem_of_getElem? (i := 2) rfl)) (hty.2.1 _ (List.mem_of_getElem? (i := 3) rfl)) (hty.2.1 _ (List.mem_of_getElem? (i := 4) rfl)) (hty.2.1 _ (List.mem_of_getElem? (i := 5) rfl)) (hty.2.1 _ (List.mem_of_getElem? (i := 6) rfl)) (hty.2.1 _ (List.mem_of_getElem? (i := 7) rfl)) (hty.2.1 _ (List.mem_of_getElem? (i := 8) rfl)) (hty.2.2 _ (List.mem_of_getElem? (i := 0) rfl))
  intro v10 e_v10
  replace h := h v10 e_v10
  obtain ⟨k1, h⟩ := h
  refine And.intro k1 ?_
  exact h
set_option maxRecDepth 20000 in
theorem g_X12_shares_57 {Q X : m_Po} {v0 v1 v2 v4 v5 v6 v7 v8 t : Int} {ε : m_E} {μ : m_M} (h : TY ε μ → i32 v1 → i32 v2 → i32 v4 → i32 v5 → i32 v6 → i32 v7 → i32 v8 → i32 t → ∀ v9 : Int, v9 = t → kd ε v0 = 11 ∧ o_X12_faceAt [(2, v0), (0, v1), (0, v2), (0, v4), (0, 1)] ε μ (fun z ε_1 μ_1 => G cd_X12_shares Q X 68 [(0, (2, v0)), (1, (0, v1)), (2, (0, v2)), (4, (0, v4)), (5, (0, v5)), (6, (0, v6)), (7, (0, v7)), (8, (0, v8)), (9, (0, v9))] [(0, z)] ε_1 μ_1) m_F) : G cd_X12_shares Q X 57 [(0, (2, v0)), (1, (0, v1)), (2, (0, v2)), (4, (0, v4)), (5, (0, v5)), (6, (0, v6)), (7, (0, v7)), (8, (0, v8))] [(0, t)] ε μ := by
  refine G_run (m_in [10, 22, 34, 46, 57, 68, 79, 90, 107, 125, 144, 198, 228, 242, 266, 288, 312, 336]) 39 _ _ _ _ ?_
  show m_ty [(0, (2, v0)), (1, (0, v1)), (2, (0, v2)), (4, (0, v4)), (5, (0, v5)), (6, (0, v6)), (7, (0, v7)), (8, (0, v8))] [(0, t)] ε μ → ∀ v9 : Int, v9 = t → (kd ε v0 = 11) ∧ o_X12_faceAt [(2, v0), (0, v1), (0, v2), (0, v4), (0, 1)] ε μ (fun z ε_1 μ_1 => G cd_X12_shares Q X 68 [(0, (2, v0)), (1, (0, v1)), (2, (0, v2)), (4, (0, v4)), (5, (0, v5)), (6, (0, v6)), (7, (0, v7)), (8, (0, v8)), (9, (0, v9))] [(0, z)] ε_1 μ_1) m_F
  intro hty
  replace h := h hty.1 (hty.2.1 _ (List.mem_of_getElem? (i := 1) rfl)) (hty.2.1 _ (List.mem_of_getElem? (i := 2) rfl)) (hty.2.1 _ (List.mem_of_getElem? (i := 3) rfl)) (hty.2.1 _ (List.mem_of_getElem? (i := 4) rfl)) (hty.2.1 _ (List.mem_of_getElem? (i := 5) rfl)) (hty.2.1 _ (List.mem_of_getElem? (i := 6) rfl)) (hty.2.1 _ (List.mem_of_getElem? (i := 7) rfl)) (hty.2.2 _ (List.mem_of_getElem? (i := 0) rfl))
  intro v9 e_v9
  replace h := h v9 e_v9
  obtain ⟨k1, h⟩ := h
  refine And.intro k1 ?_
  exact h
set_option maxRecDepth 20000 in
theorem g_X12_shares_46 {Q X : m_Po} {v0 v1 v2 v4 v5 v6 v7 t : Int} {ε : m_E} {μ : m_M} (h : TY ε μ → i32 v1 → i32 v2 → i32 v4 → i32 v5 → i32 v6 → i32 v7 → i32 t → ∀ v8 : Int, v8 = t → kd ε v0 = 11 ∧ o_X12_faceAt [(2, v0), (0, v1), (0, v2), (0, v4), (0, 0)] ε μ (fun z ε_1 μ_1 => G cd_X12_shares Q X 57 [(0, (2, v0)), (1, (0, v1)), (2, (0, v2)), (4, (0, v4)), (5, (0, v5)), (6, (0, v6)), (7, (0, v7)), (8, (0, v8))] [(0, z)] ε_1 μ_1) m_F) : G cd_X12_shares Q X 46 [(0, (2, v0)), (1, (0, v1)), (2, (0, v2)), (4, (0, v4)), (5, (0, v5)), (6, (0, v6)), (7, (0, v7))] [(0, t)] ε μ := by
  refine G_run (m_in [10, 22, 34, 46, 57, 68, 79, 90, 107, 125, 144, 198, 228, 242, 266, 288, 312, 336]) 39 _ _ _ _ ?_
  show m_ty [(0, (2, v0)), (1, (0, v1)), (2, (0, v2)), (4, (0, v4)), (5, (0, v5)), (6, (0, v6)), (7, (0, v7))] [(0, t)] ε μ → ∀ v8 : Int, v8 = t → (kd ε v0 = 11) ∧ o_X12_faceAt [(2, v0), (0, v1), (0, v2), (0, v4), (0, 0)] ε μ (fun z ε_1 μ_1 => G cd_X12_shares Q X 57 [(0, (2, v0)), (1, (0, v1)), (2, (0, v2)), (4, (0, v4)), (5, (0, v5)), (6, (0, v6)), (7, (0, v7)), (8, (0, v8))] [(0, z)] ε_1 μ_1) m_F
  intro hty
  replace h := h hty.1 (hty.2.1 _ (List.mem_of_getElem? (i := 1) rfl)) (hty.2.1 _ (List.mem_of_getElem? (i := 2) rfl)) (hty.2.1 _ (List.mem_of_getElem? (i := 3) rfl)) (hty.2.1 _ (List.mem_of_getElem? (i := 4) rfl)) (hty.2.1 _ (List.mem_of_getElem? (i := 5) rfl)) (hty.2.1 _ (List.mem_of_getElem? (i := 6) rfl)) (hty.2.2 _ (List.mem_of_getElem? (i := 0) rfl))
  intro v8 e_v8
  replace h := h v8 e_v8
  obtain ⟨k1, h⟩ := h
  refine And.intro k1 ?_
  exact h
set_option maxRecDepth 20000 in
theorem g_X12_shares_34 {Q X : m_Po} {v0 v1 v2 v3 v4 v5 v6 t : Int} {ε : m_E} {μ : m_M} (h : TY ε μ → i32 v1 → i32 v2 → i32 v3 → i32 v4 → i32 v5 → i32 v6 → i32 t → ∀ v7 : Int, v7 = t → kd ε v0 = 11 ∧ o_X12_faceAt [(2, v0), (0, v1), (0, w32 (v2 - 1)), (0, v3), (0, 3)] ε μ (fun z ε_1 μ_1 => G cd_X12_shares Q X 46 [(0, (2, v0)), (1, (0, v1)), (2, (0, v2)), (4, (0, v4)), (5, (0, v5)), (6, (0, v6)), (7, (0, v7))] [(0, z)] ε_1 μ_1) m_F) : G cd_X12_shares Q X 34 [(0, (2, v0)), (1, (0, v1)), (2, (0, v2)), (3, (0, v3)), (4, (0, v4)), (5, (0, v5)), (6, (0, v6))] [(0, t)] ε μ := by
  refine G_run (m_in [10, 22, 34, 46, 57, 68, 79, 90, 107, 125, 144, 198, 228, 242, 266, 288, 312, 336]) 39 _ _ _ _ ?_
  show m_ty [(0, (2, v0)), (1, (0, v1)), (2, (0, v2)), (3, (0, v3)), (4, (0, v4)), (5, (0, v5)), (6, (0, v6))] [(0, t)] ε μ → ∀ v7 : Int, v7 = t → (kd ε v0 = 11) ∧ o_X12_faceAt [(2, v0), (0, v1), (0, w32 (v2 - 1)), (0, v3), (0, 3)] ε μ (fun z ε_1 μ_1 => G cd_X12_shares Q X 46 [(0, (2, v0)), (1, (0, v1)), (2, (0, v2)), (4, (0, v4)), (5, (0, v5)), (6, (0, v6)), (7, (0, v7))] [(0, z)] ε_1 μ_1) m_F
  intro hty
  replace h := h hty.1 (hty.2.1 _ (List.mem_of_getElem? (i := 1) rfl)) (hty.2.1 _ (List.mem_of_getElem? (i := 2) rfl)) (hty.2.1 _ (List.mem_of_getElem? (i := 3) rfl)) (hty.2.1 _ (List.mem_of_getElem? (i := 4) rfl)) (hty.2.1 _ (List.mem_of_getElem? (i := 5) rfl)) (hty.2.1 _ (List.mem_of_getElem? (i := 6) rfl)) (hty.2.2 _ (List.mem_of_getElem? (i := 0) rfl))
  intro v7 e_v7
  replace h := h v7 e_v7
  obtain ⟨k1, h⟩ := h
  refine And.intro k1 ?_
  exact h
set_option maxRecDepth 20000 in
theorem g_X12_shares_22 {Q X : m_Po} {v0 v1 v2 v3 v4 v5 t : Int} {ε : m_E} {μ : m_M} (h : TY ε μ → i32 v1 → i32 v2 → i32 v3 → i32 v4 → i32 v5 → i32 t → ∀ v6 : Int, v6 = t → kd ε v0 = 11 ∧ o_X12_faceAt [(2, v0), (0, v1), (0, w32 (v2 - 1)), (0, v3), (0, 2)] ε μ (fun z ε_1 μ_1 => G cd_X12_shares Q X 34 [(0, (2, v0)), (1, (0, v1)), (2, (0, v2)), (3, (0, v3)), (4, (0, v4)), (5, (0, v5)), (6, (0, v6))] [(0, z)] ε_1 μ_1) m_F) : G cd_X12_shares Q X 22 [(0, (2, v0)), (1, (0, v1)), (2, (0, v2)), (3, (0, v3)), (4, (0, v4)), (5, (0, v5))] [(0, t)] ε μ := by
  refine G_run (m_in [10, 22, 34, 46, 57, 68, 79, 90, 107, 125, 144, 198, 228, 242, 266, 288, 312, 336]) 39 _ _ _ _ ?_
  show m_ty [(0, (2, v0)), (1, (0, v1)), (2, (0, v2)), (3, (0, v3)), (4, (0, v4)), (5, (0, v5))] [(0, t)] ε μ → ∀ v6 : Int, v6 = t → (kd ε v0 = 11) ∧ o_X12_faceAt [(2, v0), (0, v1), (0, w32 (v2 - 1)), (0, v3), (0, 2)] ε μ (fun z ε_1 μ_1 => G cd_X12_shares Q X 34 [(0, (2, v0)), (1, (0, v1)), (2, (0, v2)), (3, (0, v3)), (4, (0, v4)), (5, (0, v5)), (6, (0, v6))] [(0, z)] ε_1 μ_1) m_F
  intro hty
  replace h := h hty.1 (hty.2.1 _ (List.mem_of_getElem? (i := 1) rfl)) (hty.2.1 _ (List.mem_of_getElem? (i := 2) rfl)) (hty.2.1 _ (List.mem_of_getElem? (i := 3) rfl)) (hty.2.1 _ (List.mem_of_getElem? (i := 4) rfl)) (hty.2.1 _ (List.mem_of_getElem? (i := 5) rfl)) (hty.2.2 _ (List.mem_of_getElem? (i := 0) rfl))
  intro v6 e_v6
  replace h := h v6 e_v6
  obtain ⟨k1, h⟩ := h
  refine And.intro k1 ?_
  exact h
set_option maxRecDepth 20000 in
theorem g_X12_shares_10 {Q X : m_Po} {v0 v1 v2 v3 v4 t : Int} {ε : m_E} {μ : m_M} (h : TY ε μ → i32 v1 → i32 v2 → i32 v3 → i32 v4 → i32 t → ∀ v5 : Int, v5 = t → kd ε v0 = 11 ∧ o_X12_faceAt [(2, v0), (0, v1), (0, w32 (v2 - 1)), (0, v3), (0, 1)] ε μ (fun z ε_1 μ_1 => G cd_X12_shares Q X 22 [(0, (2, v0)), (1, (0, v1)), (2, (0, v2)), (3, (0, v3)), (4, (0, v4)), (5, (0, v5))] [(0, z)] ε_1 μ_1) m_F) : G cd_X12_shares Q X 10 [(0, (2, v0)), (1, (0, v1)), (2, (0, v2)), (3, (0, v3)), (4, (0, v4))] [(0, t)] ε μ := by
  refine G_run (m_in [10, 22, 34, 46, 57, 68, 79, 90, 107, 125, 144, 198, 228, 242, 266, 288, 312, 336]) 39 _ _ _ _ ?_
  show m_ty [(0, (2, v0)), (1, (0, v1)), (2, (0, v2)), (3, (0, v3)), (4, (0, v4))] [(0, t)] ε μ → ∀ v5 : Int, v5 = t → (kd ε v0 = 11) ∧ o_X12_faceAt [(2, v0), (0, v1), (0, w32 (v2 - 1)), (0, v3), (0, 1)] ε μ (fun z ε_1 μ_1 => G cd_X12_shares Q X 22 [(0, (2, v0)), (1, (0, v1)), (2, (0, v2)), (3, (0, v3)), (4, (0, v4)), (5, (0, v5))] [(0, z)] ε_1 μ_1) m_F
  intro hty
  replace h := h hty.1 (hty.2.1 _ (List.mem_of_getElem? (i := 1) rfl)) (hty.2.1 _ (List.mem_of_getElem? (i := 2) rfl)) (hty.2.1 _ (List.mem_of_getElem? (i := 3) rfl)) (hty.2.1 _ (List.mem_of_getElem? (i := 4) rfl)) (hty.2.2 _ (List.mem_of_getElem? (i := 0) rfl))
  intro v5 e_v5
  replace h := h v5 e_v5
  obtain ⟨k1, h⟩ := h
  refine And.intro k1 ?_
  exact h
set_option maxRecDepth 20000 in
theorem g_X12_shares_0 {Q X : m_Po} {v0 v1 v2 v3 v4 : Int} {ε : m_E} {μ : m_M} (h : TY ε μ → i32 v1 → i32 v2 → i32 v3 → i32 v4 → kd ε v0 = 11 ∧ o_X12_faceAt [(2, v0), (0, v1), (0, w32 (v2 - 1)), (0, v3), (0, 0)] ε μ (fun z ε_1 μ_1 => G cd_X12_shares Q X 10 [(0, (2, v0)), (1, (0, v1)), (2, (0, v2)), (3, (0, v3)), (4, (0, v4))] [(0, z)] ε_1 μ_1) m_F) : G cd_X12_shares Q X 0 [(0, (2, v0)), (1, (0, v1)), (2, (0, v2)), (3, (0, v3)), (4, (0, v4))] [] ε μ := by
  refine G_run (m_in [10, 22, 34, 46, 57, 68, 79, 90, 107, 125, 144, 198, 228, 242, 266, 288, 312, 336]) 39 _ _ _ _ ?_
  show m_ty [(0, (2, v0)), (1, (0, v1)), (2, (0, v2)), (3, (0, v3)), (4, (0, v4))] [] ε μ → (kd ε v0 = 11) ∧ o_X12_faceAt [(2, v0), (0, v1), (0, w32 (v2 - 1)), (0, v3), (0, 0)] ε μ (fun z ε_1 μ_1 => G cd_X12_shares Q X 10 [(0, (2, v0)), (1, (0, v1)), (2, (0, v2)), (3, (0, v3)), (4, (0, v4))] [(0, z)] ε_1 μ_1) m_F
  intro hty
  replace h := h hty.1 (hty.2.1 _ (List.mem_of_getElem? (i := 1) rfl)) (hty.2.1 _ (List.mem_of_getElem? (i := 2) rfl)) (hty.2.1 _ (List.mem_of_getElem? (i := 3) rfl)) (hty.2.1 _ (List.mem_of_getElem? (i := 4) rfl))
  obtain ⟨k1, h⟩ := h
  refine And.intro k1 ?_
  exact h
theorem e_X12_shares {Q X : m_Po} {v0 v1 v2 v3 v4 : Int} {ε : m_E} {μ : m_M} (h : TY ε μ → i32 v1 → i32 v2 → i32 v3 → i32 v4 → kd ε v0 = 11 ∧ o_X12_faceAt [(2, v0), (0, v1), (0, w32 (v2 - 1)), (0, v3), (0, 0)] ε μ (fun z ε_1 μ_1 => G cd_X12_shares Q X 10 [(0, (2, v0)), (1, (0, v1)), (2, (0, v2)), (3, (0, v3)), (4, (0, v4))] [(0, z)] ε_1 μ_1) m_F) : o_X12_shares [(2, v0), (0, v1), (0, v2), (0, v3), (0, v4)] ε μ Q X := And.intro rfl (g_X12_shares_0 h)
/-! ArchYardModel.joins(II)Z -/
set_option maxRecDepth 20000 in
theorem g_X12_joins_46 {Q X : m_Po} {v0 v1 v2 v3 v4 v5 v6 t : Int} {ε : m_E} {μ : m_M} (h : TY ε μ → i32 v1 → i32 v2 → i32 v3 → i32 v4 → i32 v5 → i32 v6 → i32 t → (t = 0 → ∀ v6_1 : Int, v6_1 = w32 (v6 + 1) → G cd_X12_joins Q X 29 [(0, (2, v0)), (1, (0, v1)), (2, (0, v2)), (3, (0, v3)), (4, (0, v4)), (5, (0, v5)), (6, (0, v6_1))] [] ε μ) ∧ (t ≠ 0 → Q 1 ε μ)) : G cd_X12_joins Q X 46 [(0, (2, v0)), (1, (0, v1)), (2, (0, v2)), (3, (0, v3)), (4, (0, v4)), (5, (0, v5)), (6, (0, v6))] [(0, t)] ε μ := by
  refine G_run (m_in [8, 15, 20, 29, 46]) 13 _ _ _ _ ?_
  show m_ty [(0, (2, v0)), (1, (0, v1)), (2, (0, v2)), (3, (0, v3)), (4, (0, v4)), (5, (0, v5)), (6, (0, v6))] [(0, t)] ε μ → (t = 0 → (m_ty [(0, (2, v0)), (1, (0, v1)), (2, (0, v2)), (3, (0, v3)), (4, (0, v4)), (5, (0, v5)), (6, (0, v6))] [] ε μ → ∀ v6_1 : Int, v6_1 = w32 (v6 + 1) → G cd_X12_joins Q X 29 [(0, (2, v0)), (1, (0, v1)), (2, (0, v2)), (3, (0, v3)), (4, (0, v4)), (5, (0, v5)), (6, (0, v6_1))] [] ε μ)) ∧ (t ≠ 0 → (m_ty [] [] ε μ → (1 = 0 ∨ 1 = 1) ∧ Q 1 ε μ))
  intro hty
  replace h := h hty.1 (hty.2.1 _ (List.mem_of_getElem? (i := 1) rfl)) (hty.2.1 _ (List.mem_of_getElem? (i := 2) rfl)) (hty.2.1 _ (List.mem_of_getElem? (i := 3) rfl)) (hty.2.1 _ (List.mem_of_getElem? (i := 4) rfl)) (hty.2.1 _ (List.mem_of_getElem? (i := 5) rfl)) (hty.2.1 _ (List.mem_of_getElem? (i := 6) rfl)) (hty.2.2 _ (List.mem_of_getElem? (i := 0) rfl))
  obtain ⟨ha, hb⟩ := h
  refine And.intro (fun c0 => ?_) (fun c0 => ?_)
  · replace h := ha c0
    clear ha hb
    intro _
    intro v6_1 e_v6_1
    replace h := h v6_1 e_v6_1
    exact h
  · replace h := hb c0
    clear ha hb
    intro _
    refine And.intro (Or.inr rfl) ?_
    exact h
set_option maxRecDepth 20000 in
theorem g_X12_joins_29 {Q X : m_Po} {v0 v1 v2 v3 v4 v5 v6 : Int} {ε : m_E} {μ : m_M} (h : TY ε μ → i32 v1 → i32 v2 → i32 v3 → i32 v4 → i32 v5 → i32 v6 → (v4 ≤ v6 → ∀ v5_1 : Int, v5_1 = w32 (v5 + 1) → G cd_X12_joins Q X 20 [(0, (2, v0)), (1, (0, v1)), (2, (0, v2)), (3, (0, v3)), (4, (0, v4)), (5, (0, v5_1))] [] ε μ) ∧ (v6 < v4 → kd ε v0 = 11 ∧ o_X12_shares [(2, v0), (0, v1), (0, v2), (0, v5), (0, v6)] ε μ (fun z ε_1 μ_1 => G cd_X12_joins Q X 46 [(0, (2, v0)), (1, (0, v1)), (2, (0, v2)), (3, (0, v3)), (4, (0, v4)), (5, (0, v5)), (6, (0, v6))] [(0, z)] ε_1 μ_1) m_F)) : G cd_X12_joins Q X 29 [(0, (2, v0)), (1, (0, v1)), (2, (0, v2)), (3, (0, v3)), (4, (0, v4)), (5, (0, v5)), (6, (0, v6))] [] ε μ := by
  refine G_run (m_in [8, 15, 20, 29, 46]) 13 _ _ _ _ ?_
  show m_ty [(0, (2, v0)), (1, (0, v1)), (2, (0, v2)), (3, (0, v3)), (4, (0, v4)), (5, (0, v5)), (6, (0, v6))] [] ε μ → (v4 ≤ v6 → (m_ty [(0, (2, v0)), (1, (0, v1)), (2, (0, v2)), (3, (0, v3)), (4, (0, v4)), (5, (0, v5))] [] ε μ → ∀ v5_1 : Int, v5_1 = w32 (v5 + 1) → G cd_X12_joins Q X 20 [(0, (2, v0)), (1, (0, v1)), (2, (0, v2)), (3, (0, v3)), (4, (0, v4)), (5, (0, v5_1))] [] ε μ)) ∧ (v6 < v4 → (m_ty [(0, (2, v0)), (1, (0, v1)), (2, (0, v2)), (3, (0, v3)), (4, (0, v4)), (5, (0, v5)), (6, (0, v6))] [] ε μ → (kd ε v0 = 11) ∧ o_X12_shares [(2, v0), (0, v1), (0, v2), (0, v5), (0, v6)] ε μ (fun z ε_1 μ_1 => G cd_X12_joins Q X 46 [(0, (2, v0)), (1, (0, v1)), (2, (0, v2)), (3, (0, v3)), (4, (0, v4)), (5, (0, v5)), (6, (0, v6))] [(0, z)] ε_1 μ_1) m_F))
  intro hty
  replace h := h hty.1 (hty.2.1 _ (List.mem_of_getElem? (i := 1) rfl)) (hty.2.1 _ (List.mem_of_getElem? (i := 2) rfl)) (hty.2.1 _ (List.mem_of_getElem? (i := 3) rfl)) (hty.2.1 _ (List.mem_of_getElem? (i := 4) rfl)) (hty.2.1 _ (List.mem_of_getElem? (i := 5) rfl)) (hty.2.1 _ (List.mem_of_getElem? (i := 6) rfl))
  obtain ⟨ha, hb⟩ := h
  refine And.intro (fun c1 => ?_) (fun c1 => ?_)
  · replace h := ha c1
    clear ha hb
    intro _
    intro v5_1 e_v5_1
    replace h := h v5_1 e_v5_1
    exact h
  · replace h := hb c1
    clear ha hb
    intro _
    obtain ⟨k1, h⟩ := h
    refine And.intro k1 ?_
    exact h
set_option maxRecDepth 20000 in
theorem g_X12_joins_20 {Q X : m_Po} {v0 v1 v2 v3 v4 v5 : Int} {ε : m_E} {μ : m_M} (h : TY ε μ → i32 v1 → i32 v2 → i32 v3 → i32 v4 → i32 v5 → (v3 ≤ v5 → Q 0 ε μ) ∧ (v5 < v3 → ∀ v6 : Int, v6 = 0 → G cd_X12_joins Q X 29 [(0, (2, v0)), (1, (0, v1)), (2, (0, v2)), (3, (0, v3)), (4, (0, v4)), (5, (0, v5)), (6, (0, v6))] [] ε μ)) : G cd_X12_joins Q X 20 [(0, (2, v0)), (1, (0, v1)), (2, (0, v2)), (3, (0, v3)), (4, (0, v4)), (5, (0, v5))] [] ε μ := by
  refine G_run (m_in [8, 15, 20, 29, 46]) 13 _ _ _ _ ?_
  show m_ty [(0, (2, v0)), (1, (0, v1)), (2, (0, v2)), (3, (0, v3)), (4, (0, v4)), (5, (0, v5))] [] ε μ → (v3 ≤ v5 → (m_ty [] [] ε μ → (0 = 0 ∨ 0 = 1) ∧ Q 0 ε μ)) ∧ (v5 < v3 → (m_ty [(0, (2, v0)), (1, (0, v1)), (2, (0, v2)), (3, (0, v3)), (4, (0, v4)), (5, (0, v5))] [] ε μ → ∀ v6 : Int, v6 = 0 → G cd_X12_joins Q X 29 [(0, (2, v0)), (1, (0, v1)), (2, (0, v2)), (3, (0, v3)), (4, (0, v4)), (5, (0, v5)), (6, (0, v6))] [] ε μ))
  intro hty
  replace h := h hty.1 (hty.2.1 _ (List.mem_of_getElem? (i := 1) rfl)) (hty.2.1 _ (List.mem_of_getElem? (i := 2) rfl)) (hty.2.1 _ (List.mem_of_getElem? (i := 3) rfl)) (hty.2.1 _ (List.mem_of_getElem? (i := 4) rfl)) (hty.2.1 _ (List.mem_of_getElem? (i := 5) rfl))
  obtain ⟨ha, hb⟩ := h
  refine And.intro (fun c0 => ?_) (fun c0 => ?_)
  · replace h := ha c0
    clear ha hb
    intro _
    refine And.intro (Or.inl rfl) ?_
    exact h
  · replace h := hb c0
    clear ha hb
    intro _
    intro v6 e_v6
    replace h := h v6 e_v6
    exact h
set_option maxRecDepth 20000 in
theorem g_X12_joins_15 {Q X : m_Po} {v0 v1 v2 v3 t : Int} {ε : m_E} {μ : m_M} (h : TY ε μ → i32 v1 → i32 v2 → i32 v3 → i32 t → ∀ v4 : Int, v4 = t → ∀ v5 : Int, v5 = 0 → G cd_X12_joins Q X 20 [(0, (2, v0)), (1, (0, v1)), (2, (0, v2)), (3, (0, v3)), (4, (0, v4)), (5, (0, v5))] [] ε μ) : G cd_X12_joins Q X 15 [(0, (2, v0)), (1, (0, v1)), (2, (0, v2)), (3, (0, v3))] [(0, t)] ε μ := by
  refine G_run (m_in [8, 15, 20, 29, 46]) 13 _ _ _ _ ?_
  show m_ty [(0, (2, v0)), (1, (0, v1)), (2, (0, v2)), (3, (0, v3))] [(0, t)] ε μ → ∀ v4 : Int, v4 = t → ∀ v5 : Int, v5 = 0 → G cd_X12_joins Q X 20 [(0, (2, v0)), (1, (0, v1)), (2, (0, v2)), (3, (0, v3)), (4, (0, v4)), (5, (0, v5))] [] ε μ
  intro hty
  replace h := h hty.1 (hty.2.1 _ (List.mem_of_getElem? (i := 1) rfl)) (hty.2.1 _ (List.mem_of_getElem? (i := 2) rfl)) (hty.2.1 _ (List.mem_of_getElem? (i := 3) rfl)) (hty.2.2 _ (List.mem_of_getElem? (i := 0) rfl))
  intro v4 e_v4
  replace h := h v4 e_v4
  intro v5 e_v5
  replace h := h v5 e_v5
  exact h
set_option maxRecDepth 20000 in
theorem g_X12_joins_8 {Q X : m_Po} {v0 v1 v2 t : Int} {ε : m_E} {μ : m_M} (h : TY ε μ → i32 v1 → i32 v2 → i32 t → ∀ v3 : Int, v3 = t → kd ε v0 = 11 ∧ o_X12_facesOf [(2, v0), (0, v1), (0, v2)] ε μ (fun z ε_1 μ_1 => G cd_X12_joins Q X 15 [(0, (2, v0)), (1, (0, v1)), (2, (0, v2)), (3, (0, v3))] [(0, z)] ε_1 μ_1) m_F) : G cd_X12_joins Q X 8 [(0, (2, v0)), (1, (0, v1)), (2, (0, v2))] [(0, t)] ε μ := by
  refine G_run (m_in [8, 15, 20, 29, 46]) 13 _ _ _ _ ?_
  show m_ty [(0, (2, v0)), (1, (0, v1)), (2, (0, v2))] [(0, t)] ε μ → ∀ v3 : Int, v3 = t → (kd ε v0 = 11) ∧ o_X12_facesOf [(2, v0), (0, v1), (0, v2)] ε μ (fun z ε_1 μ_1 => G cd_X12_joins Q X 15 [(0, (2, v0)), (1, (0, v1)), (2, (0, v2)), (3, (0, v3))] [(0, z)] ε_1 μ_1) m_F
  intro hty
  replace h := h hty.1 (hty.2.1 _ (List.mem_of_getElem? (i := 1) rfl)) (hty.2.1 _ (List.mem_of_getElem? (i := 2) rfl)) (hty.2.2 _ (List.mem_of_getElem? (i := 0) rfl))
  intro v3 e_v3
  replace h := h v3 e_v3
  obtain ⟨k1, h⟩ := h
  refine And.intro k1 ?_
  exact h
set_option maxRecDepth 20000 in
theorem g_X12_joins_0 {Q X : m_Po} {v0 v1 v2 : Int} {ε : m_E} {μ : m_M} (h : TY ε μ → i32 v1 → i32 v2 → kd ε v0 = 11 ∧ o_X12_facesOf [(2, v0), (0, v1), (0, w32 (v2 - 1))] ε μ (fun z ε_1 μ_1 => G cd_X12_joins Q X 8 [(0, (2, v0)), (1, (0, v1)), (2, (0, v2))] [(0, z)] ε_1 μ_1) m_F) : G cd_X12_joins Q X 0 [(0, (2, v0)), (1, (0, v1)), (2, (0, v2))] [] ε μ := by
  refine G_run (m_in [8, 15, 20, 29, 46]) 13 _ _ _ _ ?_
  show m_ty [(0, (2, v0)), (1, (0, v1)), (2, (0, v2))] [] ε μ → (kd ε v0 = 11) ∧ o_X12_facesOf [(2, v0), (0, v1), (0, w32 (v2 - 1))] ε μ (fun z ε_1 μ_1 => G cd_X12_joins Q X 8 [(0, (2, v0)), (1, (0, v1)), (2, (0, v2))] [(0, z)] ε_1 μ_1) m_F
  intro hty
  replace h := h hty.1 (hty.2.1 _ (List.mem_of_getElem? (i := 1) rfl)) (hty.2.1 _ (List.mem_of_getElem? (i := 2) rfl))
  obtain ⟨k1, h⟩ := h
  refine And.intro k1 ?_
  exact h
theorem e_X12_joins {Q X : m_Po} {v0 v1 v2 : Int} {ε : m_E} {μ : m_M} (h : TY ε μ → i32 v1 → i32 v2 → kd ε v0 = 11 ∧ o_X12_facesOf [(2, v0), (0, v1), (0, w32 (v2 - 1))] ε μ (fun z ε_1 μ_1 => G cd_X12_joins Q X 8 [(0, (2, v0)), (1, (0, v1)), (2, (0, v2))] [(0, z)] ε_1 μ_1) m_F) : o_X12_joins [(2, v0), (0, v1), (0, v2)] ε μ Q X := And.intro rfl (g_X12_joins_0 h)
/-! ArchYardModel.kindAt(II)I -/
set_option maxRecDepth 20000 in
theorem g_X12_kindAt_48 {Q X : m_Po} {t : Int} {ε : m_E} {μ : m_M} (h : TY ε μ → i32 t → Q t ε μ) : G cd_X12_kindAt Q X 48 [] [(0, t)] ε μ := by
  refine G_run (m_in [48]) 7 _ _ _ _ ?_
  show m_ty [] [(0, t)] ε μ → Q t ε μ
  intro hty
  replace h := h hty.1 (hty.2.2 _ (List.mem_of_getElem? (i := 0) rfl))
  exact h
set_option maxRecDepth 20000 in
theorem g_X12_kindAt_0 {Q X : m_Po} {v0 v1 v2 : Int} {ε : m_E} {μ : m_M} (h : TY ε μ → i32 v1 → i32 v2 → ((0 ≤ v2 → kd ε v0 = 11 ∧ kd ε (fn ε v0 17) = 100 ∧ (0 : Int) ≤ v1 ∧ v1 < ln ε (fn ε v0 17) ∧ (v2 < (μ (fn ε v0 17) v1) → kd ε (fn ε v0 18) = 100 ∧ (0 : Int) ≤ w32 ((w32 (10 * v1)) + v2) ∧ w32 ((w32 (10 * v1)) + v2) < ln ε (fn ε v0 18) ∧ (0 ≤ (μ (fn ε v0 18) (w32 ((w32 (10 * v1)) + v2))) → kd ε (fn ε v0 5) = 100 ∧ (0 : Int) ≤ μ (fn ε v0 18) (w32 ((w32 (10 * v1)) + v2)) ∧ μ (fn ε v0 18) (w32 ((w32 (10 * v1)) + v2)) < ln ε (fn ε v0 5))))) ∧ ∀ t : Int, t = (if v2 < 0 then (-1) else if (μ (fn ε v0 17) v1) ≤ v2 then (-1) else if 0 ≤ (μ (fn ε v0 18) (w32 ((w32 (10 * v1)) + v2))) then μ (fn ε v0 5) (μ (fn ε v0 18) (w32 ((w32 (10 * v1)) + v2))) else (-1)) → Q t ε μ) : G cd_X12_kindAt Q X 0 [(0, (2, v0)), (1, (0, v1)), (2, (0, v2))] [] ε μ := by
  refine G_run (m_in [48]) 7 _ _ _ _ ?_
  show m_ty [(0, (2, v0)), (1, (0, v1)), (2, (0, v2))] [] ε μ → (v2 < 0 → (m_ty [] [] ε μ → G cd_X12_kindAt Q X 48 [] [(0, (-1))] ε μ)) ∧ (0 ≤ v2 → (m_ty [(0, (2, v0)), (1, (0, v1)), (2, (0, v2))] [] ε μ → (kd ε v0 = 11) ∧ (kd ε (fn ε v0 17) = 100) ∧ ((0 : Int) ≤ v1 ∧ v1 < ln ε (fn ε v0 17)) ∧ ((μ (fn ε v0 17) v1) ≤ v2 → (m_ty [] [] ε μ → G cd_X12_kindAt Q X 48 [] [(0, (-1))] ε μ)) ∧ (v2 < (μ (fn ε v0 17) v1) → (m_ty [(0, (2, v0)), (1, (0, v1)), (2, (0, v2))] [] ε μ → (kd ε v0 = 11) ∧ (kd ε (fn ε v0 18) = 100) ∧ ((0 : Int) ≤ w32 ((w32 (10 * v1)) + v2) ∧ w32 ((w32 (10 * v1)) + v2) < ln ε (fn ε v0 18)) ∧ (0 ≤ (μ (fn ε v0 18) (w32 ((w32 (10 * v1)) + v2))) → (m_ty [(0, (2, v0)), (1, (0, v1)), (2, (0, v2))] [] ε μ → (kd ε v0 = 11) ∧ (kd ε v0 = 11) ∧ (kd ε (fn ε v0 18) = 100) ∧ ((0 : Int) ≤ w32 ((w32 (10 * v1)) + v2) ∧ w32 ((w32 (10 * v1)) + v2) < ln ε (fn ε v0 18)) ∧ (kd ε (fn ε v0 5) = 100) ∧ ((0 : Int) ≤ μ (fn ε v0 18) (w32 ((w32 (10 * v1)) + v2)) ∧ μ (fn ε v0 18) (w32 ((w32 (10 * v1)) + v2)) < ln ε (fn ε v0 5)) ∧ G cd_X12_kindAt Q X 48 [] [(0, μ (fn ε v0 5) (μ (fn ε v0 18) (w32 ((w32 (10 * v1)) + v2))))] ε μ)) ∧ ((μ (fn ε v0 18) (w32 ((w32 (10 * v1)) + v2))) < 0 → (m_ty [] [] ε μ → G cd_X12_kindAt Q X 48 [] [(0, (-1))] ε μ))))))
  intro hty
  replace h := h hty.1 (hty.2.1 _ (List.mem_of_getElem? (i := 1) rfl)) (hty.2.1 _ (List.mem_of_getElem? (i := 2) rfl))
  obtain ⟨hc, hj⟩ := h
  refine And.intro (fun c0 => ?_) (fun c0 => ?_)
  · intro _
    exact g_X12_kindAt_48 (fun _ _ => (hj _ (((if_pos c0).trans rfl)).symm))
  · replace hc := hc c0
    intro _
    obtain ⟨k2, k3, k4, k5, k14⟩ := hc
    refine And.intro k2 ?_
    refine And.intro k3 ?_
    refine And.intro (And.intro k4 k5) ?_
    refine And.intro (fun c5 => ?_) (fun c5 => ?_)
    · intro _
      exact g_X12_kindAt_48 (fun _ _ => (hj _ (((if_neg (Int.not_lt.mpr c0)).trans ((if_pos c5).trans rfl))).symm))
    · replace k14 := k14 c5
      intro _
      obtain ⟨k7, k8, k9, k15⟩ := k14
      refine And.intro k2 ?_
      refine And.intro k7 ?_
      refine And.intro (And.intro k8 k9) ?_
      refine And.intro (fun c9 => ?_) (fun c9 => ?_)
      · replace k15 := k15 c9
        intro _
        obtain ⟨k11, k12, k13⟩ := k15
        refine And.intro k2 ?_
        refine And.intro k2 ?_
        refine And.intro k7 ?_
        refine And.intro (And.intro k8 k9) ?_
        refine And.intro k11 ?_
        refine And.intro (And.intro k12 k13) ?_
        exact g_X12_kindAt_48 (fun _ _ => (hj _ (((if_neg (Int.not_lt.mpr c0)).trans ((if_neg (Int.not_le.mpr c5)).trans ((if_pos c9).trans rfl)))).symm))
      · intro _
        exact g_X12_kindAt_48 (fun _ _ => (hj _ (((if_neg (Int.not_lt.mpr c0)).trans ((if_neg (Int.not_le.mpr c5)).trans ((if_neg (Int.not_le.mpr c9)).trans rfl)))).symm))
theorem e_X12_kindAt {Q X : m_Po} {v0 v1 v2 : Int} {ε : m_E} {μ : m_M} (h : TY ε μ → i32 v1 → i32 v2 → ((0 ≤ v2 → kd ε v0 = 11 ∧ kd ε (fn ε v0 17) = 100 ∧ (0 : Int) ≤ v1 ∧ v1 < ln ε (fn ε v0 17) ∧ (v2 < (μ (fn ε v0 17) v1) → kd ε (fn ε v0 18) = 100 ∧ (0 : Int) ≤ w32 ((w32 (10 * v1)) + v2) ∧ w32 ((w32 (10 * v1)) + v2) < ln ε (fn ε v0 18) ∧ (0 ≤ (μ (fn ε v0 18) (w32 ((w32 (10 * v1)) + v2))) → kd ε (fn ε v0 5) = 100 ∧ (0 : Int) ≤ μ (fn ε v0 18) (w32 ((w32 (10 * v1)) + v2)) ∧ μ (fn ε v0 18) (w32 ((w32 (10 * v1)) + v2)) < ln ε (fn ε v0 5))))) ∧ ∀ t : Int, t = (if v2 < 0 then (-1) else if (μ (fn ε v0 17) v1) ≤ v2 then (-1) else if 0 ≤ (μ (fn ε v0 18) (w32 ((w32 (10 * v1)) + v2))) then μ (fn ε v0 5) (μ (fn ε v0 18) (w32 ((w32 (10 * v1)) + v2))) else (-1)) → Q t ε μ) : o_X12_kindAt [(2, v0), (0, v1), (0, v2)] ε μ Q X := And.intro rfl (g_X12_kindAt_0 h)
/-! ArchYardModel.isStoneAt(II)Z -/
set_option maxRecDepth 20000 in
theorem g_X12_isStoneAt_33 {Q X : m_Po} {t : Int} {ε : m_E} {μ : m_M} (h : TY ε μ → i32 t → (t = 0 ∨ t = 1) ∧ Q t ε μ) : G cd_X12_isStoneAt Q X 33 [] [(0, t)] ε μ := by
  refine G_run (m_in [33]) 7 _ _ _ _ ?_
  show m_ty [] [(0, t)] ε μ → (t = 0 ∨ t = 1) ∧ Q t ε μ
  intro hty
  replace h := h hty.1 (hty.2.2 _ (List.mem_of_getElem? (i := 0) rfl))
  obtain ⟨k1, h⟩ := h
  refine And.intro k1 ?_
  exact h
set_option maxRecDepth 20000 in
theorem g_X12_isStoneAt_0 {Q X : m_Po} {v0 v1 v2 : Int} {ε : m_E} {μ : m_M} (h : TY ε μ → i32 v1 → i32 v2 → ((0 ≤ v2 → kd ε v0 = 11 ∧ kd ε (fn ε v0 17) = 100 ∧ (0 : Int) ≤ v1 ∧ v1 < ln ε (fn ε v0 17) ∧ (v2 < (μ (fn ε v0 17) v1) → kd ε (fn ε v0 18) = 100 ∧ (0 : Int) ≤ w32 ((w32 (10 * v1)) + v2) ∧ w32 ((w32 (10 * v1)) + v2) < ln ε (fn ε v0 18)))) ∧ ∀ t : Int, t = (if v2 < 0 then 0 else if (μ (fn ε v0 17) v1) ≤ v2 then 0 else if (μ (fn ε v0 18) (w32 ((w32 (10 * v1)) + v2))) < 0 then 0 else 1) → Q t ε μ) : G cd_X12_isStoneAt Q X 0 [(0, (2, v0)), (1, (0, v1)), (2, (0, v2))] [] ε μ := by
  refine G_run (m_in [33]) 7 _ _ _ _ ?_
  show m_ty [(0, (2, v0)), (1, (0, v1)), (2, (0, v2))] [] ε μ → (v2 < 0 → (m_ty [] [] ε μ → G cd_X12_isStoneAt Q X 33 [] [(0, 0)] ε μ)) ∧ (0 ≤ v2 → (m_ty [(0, (2, v0)), (1, (0, v1)), (2, (0, v2))] [] ε μ → (kd ε v0 = 11) ∧ (kd ε (fn ε v0 17) = 100) ∧ ((0 : Int) ≤ v1 ∧ v1 < ln ε (fn ε v0 17)) ∧ ((μ (fn ε v0 17) v1) ≤ v2 → (m_ty [] [] ε μ → G cd_X12_isStoneAt Q X 33 [] [(0, 0)] ε μ)) ∧ (v2 < (μ (fn ε v0 17) v1) → (m_ty [(0, (2, v0)), (1, (0, v1)), (2, (0, v2))] [] ε μ → (kd ε v0 = 11) ∧ (kd ε (fn ε v0 18) = 100) ∧ ((0 : Int) ≤ w32 ((w32 (10 * v1)) + v2) ∧ w32 ((w32 (10 * v1)) + v2) < ln ε (fn ε v0 18)) ∧ ((μ (fn ε v0 18) (w32 ((w32 (10 * v1)) + v2))) < 0 → (m_ty [] [] ε μ → G cd_X12_isStoneAt Q X 33 [] [(0, 0)] ε μ)) ∧ (0 ≤ (μ (fn ε v0 18) (w32 ((w32 (10 * v1)) + v2))) → (m_ty [] [] ε μ → G cd_X12_isStoneAt Q X 33 [] [(0, 1)] ε μ))))))
  intro hty
  replace h := h hty.1 (hty.2.1 _ (List.mem_of_getElem? (i := 1) rfl)) (hty.2.1 _ (List.mem_of_getElem? (i := 2) rfl))
  obtain ⟨hc, hj⟩ := h
  refine And.intro (fun c0 => ?_) (fun c0 => ?_)
  · intro _
    exact g_X12_isStoneAt_33 (fun _ _ => (And.intro (Or.inl rfl) (hj _ (((if_pos c0).trans rfl)).symm)))
  · replace hc := hc c0
    intro _
    obtain ⟨k2, k3, k4, k5, k12⟩ := hc
    refine And.intro k2 ?_
    refine And.intro k3 ?_
    refine And.intro (And.intro k4 k5) ?_
    refine And.intro (fun c5 => ?_) (fun c5 => ?_)
    · intro _
      exact g_X12_isStoneAt_33 (fun _ _ => (And.intro (Or.inl rfl) (hj _ (((if_neg (Int.not_lt.mpr c0)).trans ((if_pos c5).trans rfl))).symm)))
    · replace k12 := k12 c5
      intro _
      obtain ⟨k7, k8, k9⟩ := k12
      refine And.intro k2 ?_
      refine And.intro k7 ?_
      refine And.intro (And.intro k8 k9) ?_
      refine And.intro (fun c9 => ?_) (fun c9 => ?_)
      · intro _
        exact g_X12_isStoneAt_33 (fun _ _ => (And.intro (Or.inl rfl) (hj _ (((if_neg (Int.not_lt.mpr c0)).trans ((if_neg (Int.not_le.mpr c5)).trans ((if_pos c9).trans rfl)))).symm)))
      · intro _
        exact g_X12_isStoneAt_33 (fun _ _ => (And.intro (Or.inr rfl) (hj _ (((if_neg (Int.not_lt.mpr c0)).trans ((if_neg (Int.not_le.mpr c5)).trans ((if_neg (Int.not_lt.mpr c9)).trans rfl)))).symm)))
theorem e_X12_isStoneAt {Q X : m_Po} {v0 v1 v2 : Int} {ε : m_E} {μ : m_M} (h : TY ε μ → i32 v1 → i32 v2 → ((0 ≤ v2 → kd ε v0 = 11 ∧ kd ε (fn ε v0 17) = 100 ∧ (0 : Int) ≤ v1 ∧ v1 < ln ε (fn ε v0 17) ∧ (v2 < (μ (fn ε v0 17) v1) → kd ε (fn ε v0 18) = 100 ∧ (0 : Int) ≤ w32 ((w32 (10 * v1)) + v2) ∧ w32 ((w32 (10 * v1)) + v2) < ln ε (fn ε v0 18)))) ∧ ∀ t : Int, t = (if v2 < 0 then 0 else if (μ (fn ε v0 17) v1) ≤ v2 then 0 else if (μ (fn ε v0 18) (w32 ((w32 (10 * v1)) + v2))) < 0 then 0 else 1) → Q t ε μ) : o_X12_isStoneAt [(2, v0), (0, v1), (0, v2)] ε μ Q X := And.intro rfl (g_X12_isStoneAt_0 h)
/-! ArchYardModel.holeOf(I)I -/
set_option maxRecDepth 20000 in
theorem g_X12_holeOf_145 {Q X : m_Po} {v0 v1 v2 v3 t : Int} {ε : m_E} {μ : m_M} (h : TY ε μ → i32 v1 → i32 v2 → i32 v3 → i32 t → (t ≠ 0 → ∀ v3_1 : Int, v3_1 = w32 (v3 + 1) → G cd_X12_holeOf Q X 134 [(0, (2, v0)), (1, (0, v1)), (2, (0, v2)), (3, (0, v3_1))] [] ε μ) ∧ (t = 0 → Q (w32 (200 + v3)) ε μ)) : G cd_X12_holeOf Q X 145 [(0, (2, v0)), (1, (0, v1)), (2, (0, v2)), (3, (0, v3))] [(0, t)] ε μ := by
  refine G_run (m_in [9, 20, 38, 46, 68, 79, 82, 95, 103, 134, 145]) 32 _ _ _ _ ?_
  show m_ty [(0, (2, v0)), (1, (0, v1)), (2, (0, v2)), (3, (0, v3))] [(0, t)] ε μ → (t ≠ 0 → (m_ty [(0, (2, v0)), (1, (0, v1)), (2, (0, v2)), (3, (0, v3))] [] ε μ → ∀ v3_1 : Int, v3_1 = w32 (v3 + 1) → G cd_X12_holeOf Q X 134 [(0, (2, v0)), (1, (0, v1)), (2, (0, v2)), (3, (0, v3_1))] [] ε μ)) ∧ (t = 0 → (m_ty [(3, (0, v3))] [] ε μ → Q (w32 (200 + v3)) ε μ))
  intro hty
  replace h := h hty.1 (hty.2.1 _ (List.mem_of_getElem? (i := 1) rfl)) (hty.2.1 _ (List.mem_of_getElem? (i := 2) rfl)) (hty.2.1 _ (List.mem_of_getElem? (i := 3) rfl)) (hty.2.2 _ (List.mem_of_getElem? (i := 0) rfl))
  obtain ⟨ha, hb⟩ := h
  refine And.intro (fun c0 => ?_) (fun c0 => ?_)
  · replace h := ha c0
    clear ha hb
    intro _
    intro v3_1 e_v3_1
    replace h := h v3_1 e_v3_1
    exact h
  · replace h := hb c0
    clear ha hb
    intro _
    exact h
set_option maxRecDepth 20000 in
theorem g_X12_holeOf_134 {Q X : m_Po} {v0 v1 v2 v3 : Int} {ε : m_E} {μ : m_M} (h : TY ε μ → i32 v1 → i32 v2 → i32 v3 → (v2 < v3 → Q (-1) ε μ) ∧ (v3 ≤ v2 → kd ε v0 = 11 ∧ o_X12_joins [(2, v0), (0, v1), (0, v3)] ε μ (fun z ε_1 μ_1 => G cd_X12_holeOf Q X 145 [(0, (2, v0)), (1, (0, v1)), (2, (0, v2)), (3, (0, v3))] [(0, z)] ε_1 μ_1) m_F)) : G cd_X12_holeOf Q X 134 [(0, (2, v0)), (1, (0, v1)), (2, (0, v2)), (3, (0, v3))] [] ε μ := by
  refine G_run (m_in [9, 20, 38, 46, 68, 79, 82, 95, 103, 134, 145]) 32 _ _ _ _ ?_
  show m_ty [(0, (2, v0)), (1, (0, v1)), (2, (0, v2)), (3, (0, v3))] [] ε μ → (v2 < v3 → (m_ty [] [] ε μ → Q (-1) ε μ)) ∧ (v3 ≤ v2 → (m_ty [(0, (2, v0)), (1, (0, v1)), (2, (0, v2)), (3, (0, v3))] [] ε μ → (kd ε v0 = 11) ∧ o_X12_joins [(2, v0), (0, v1), (0, v3)] ε μ (fun z ε_1 μ_1 => G cd_X12_holeOf Q X 145 [(0, (2, v0)), (1, (0, v1)), (2, (0, v2)), (3, (0, v3))] [(0, z)] ε_1 μ_1) m_F))
  intro hty
  replace h := h hty.1 (hty.2.1 _ (List.mem_of_getElem? (i := 1) rfl)) (hty.2.1 _ (List.mem_of_getElem? (i := 2) rfl)) (hty.2.1 _ (List.mem_of_getElem? (i := 3) rfl))
  obtain ⟨ha, hb⟩ := h
  refine And.intro (fun c1 => ?_) (fun c1 => ?_)
  · replace h := ha c1
    clear ha hb
    intro _
    exact h
  · replace h := hb c1
    clear ha hb
    intro _
    obtain ⟨k1, h⟩ := h
    refine And.intro k1 ?_
    exact h
set_option maxRecDepth 20000 in
theorem g_X12_holeOf_103 {Q X : m_Po} {v0 v1 v2 v3 : Int} {ε : m_E} {μ : m_M} (h : TY ε μ → i32 v1 → i32 v2 → i32 v3 → ((2 : Int) ≤ v3 → ∀ v3_1 : Int, v3_1 = 0 → G cd_X12_holeOf Q X 134 [(0, (2, v0)), (1, (0, v1)), (2, (0, v2)), (3, (0, v3_1))] [] ε μ) ∧ (v3 < (2 : Int) → kd ε v0 = 11 ∧ kd ε (fn ε v0 19) = 103 ∧ (0 : Int) ≤ w32 ((w32 (2 * v1)) + v3) ∧ w32 ((w32 (2 * v1)) + v3) < ln ε (fn ε v0 19) ∧ ((μ (fn ε v0 19) (w32 ((w32 (2 * v1)) + v3))) ≠ 0 → ∀ v3_2 : Int, v3_2 = w32 (v3 + 1) → G cd_X12_holeOf Q X 103 [(0, (2, v0)), (1, (0, v1)), (2, (0, v2)), (3, (0, v3_2))] [] ε μ) ∧ ((μ (fn ε v0 19) (w32 ((w32 (2 * v1)) + v3))) = 0 → Q (w32 (100 + v3)) ε μ))) : G cd_X12_holeOf Q X 103 [(0, (2, v0)), (1, (0, v1)), (2, (0, v2)), (3, (0, v3))] [] ε μ := by
  refine G_run (m_in [9, 20, 38, 46, 68, 79, 82, 95, 103, 134, 145]) 32 _ _ _ _ ?_
  show m_ty [(0, (2, v0)), (1, (0, v1)), (2, (0, v2)), (3, (0, v3))] [] ε μ → ((2 : Int) ≤ v3 → (m_ty [(0, (2, v0)), (1, (0, v1)), (2, (0, v2))] [] ε μ → ∀ v3_1 : Int, v3_1 = 0 → G cd_X12_holeOf Q X 134 [(0, (2, v0)), (1, (0, v1)), (2, (0, v2)), (3, (0, v3_1))] [] ε μ)) ∧ (v3 < (2 : Int) → (m_ty [(0, (2, v0)), (1, (0, v1)), (2, (0, v2)), (3, (0, v3))] [] ε μ → (kd ε v0 = 11) ∧ (kd ε (fn ε v0 19) = 103) ∧ ((0 : Int) ≤ w32 ((w32 (2 * v1)) + v3) ∧ w32 ((w32 (2 * v1)) + v3) < ln ε (fn ε v0 19)) ∧ ((μ (fn ε v0 19) (w32 ((w32 (2 * v1)) + v3))) ≠ 0 → (m_ty [(0, (2, v0)), (1, (0, v1)), (2, (0, v2)), (3, (0, v3))] [] ε μ → ∀ v3_2 : Int, v3_2 = w32 (v3 + 1) → G cd_X12_holeOf Q X 103 [(0, (2, v0)), (1, (0, v1)), (2, (0, v2)), (3, (0, v3_2))] [] ε μ)) ∧ ((μ (fn ε v0 19) (w32 ((w32 (2 * v1)) + v3))) = 0 → (m_ty [(3, (0, v3))] [] ε μ → Q (w32 (100 + v3)) ε μ))))
  intro hty
  replace h := h hty.1 (hty.2.1 _ (List.mem_of_getElem? (i := 1) rfl)) (hty.2.1 _ (List.mem_of_getElem? (i := 2) rfl)) (hty.2.1 _ (List.mem_of_getElem? (i := 3) rfl))
  obtain ⟨ha, hb⟩ := h
  refine And.intro (fun c5 => ?_) (fun c5 => ?_)
  · replace h := ha c5
    clear ha hb
    intro _
    intro v3_1 e_v3_1
    replace h := h v3_1 e_v3_1
    exact h
  · replace h := hb c5
    clear ha hb
    intro _
    obtain ⟨k1, h⟩ := h
    refine And.intro k1 ?_
    obtain ⟨k2, h⟩ := h
    refine And.intro k2 ?_
    obtain ⟨k3, h⟩ := h
    obtain ⟨k4, h⟩ := h
    refine And.intro (And.intro k3 k4) ?_
    obtain ⟨ha, hb⟩ := h
    refine And.intro (fun c4 => ?_) (fun c4 => ?_)
    · replace h := ha c4
      clear ha hb
      intro _
      intro v3_2 e_v3_2
      replace h := h v3_2 e_v3_2
      exact h
    · replace h := hb c4
      clear ha hb
      intro _
      exact h
set_option maxRecDepth 20000 in
theorem g_X12_holeOf_95 {Q X : m_Po} {v0 v1 v2 v3 : Int} {ε : m_E} {μ : m_M} (h : TY ε μ → i32 v1 → i32 v2 → i32 v3 → ∀ v3_1 : Int, v3_1 = w32 (v3 + 1) → G cd_X12_holeOf Q X 9 [(0, (2, v0)), (1, (0, v1)), (2, (0, v2)), (3, (0, v3_1))] [] ε μ) : G cd_X12_holeOf Q X 95 [(0, (2, v0)), (1, (0, v1)), (2, (0, v2)), (3, (0, v3))] [] ε μ := by
  refine G_run (m_in [9, 20, 38, 46, 68, 79, 82, 95, 103, 134, 145]) 32 _ _ _ _ ?_
  show m_ty [(0, (2, v0)), (1, (0, v1)), (2, (0, v2)), (3, (0, v3))] [] ε μ → ∀ v3_1 : Int, v3_1 = w32 (v3 + 1) → G cd_X12_holeOf Q X 9 [(0, (2, v0)), (1, (0, v1)), (2, (0, v2)), (3, (0, v3_1))] [] ε μ
  intro hty
  replace h := h hty.1 (hty.2.1 _ (List.mem_of_getElem? (i := 1) rfl)) (hty.2.1 _ (List.mem_of_getElem? (i := 2) rfl)) (hty.2.1 _ (List.mem_of_getElem? (i := 3) rfl))
  intro v3_1 e_v3_1
  replace h := h v3_1 e_v3_1
  exact h
set_option maxRecDepth 20000 in
theorem g_X12_holeOf_82 {Q X : m_Po} {v0 v1 v2 v3 v4 v5 : Int} {ε : m_E} {μ : m_M} (h : TY ε μ → i32 v1 → i32 v2 → i32 v3 → i32 v4 → i32 v5 → (v4 ≠ (2 : Int) → G cd_X12_holeOf Q X 95 [(0, (2, v0)), (1, (0, v1)), (2, (0, v2)), (3, (0, v3))] [] ε μ) ∧ (v4 = (2 : Int) → (v5 ≠ 0 → G cd_X12_holeOf Q X 95 [(0, (2, v0)), (1, (0, v1)), (2, (0, v2)), (3, (0, v3))] [] ε μ) ∧ (v5 = 0 → Q v3 ε μ))) : G cd_X12_holeOf Q X 82 [(0, (2, v0)), (1, (0, v1)), (2, (0, v2)), (3, (0, v3)), (4, (0, v4)), (5, (0, v5))] [] ε μ := by
  refine G_run (m_in [9, 20, 38, 46, 68, 79, 82, 95, 103, 134, 145]) 32 _ _ _ _ ?_
  show m_ty [(0, (2, v0)), (1, (0, v1)), (2, (0, v2)), (3, (0, v3)), (4, (0, v4)), (5, (0, v5))] [] ε μ → (v4 ≠ (2 : Int) → G cd_X12_holeOf Q X 95 [(0, (2, v0)), (1, (0, v1)), (2, (0, v2)), (3, (0, v3))] [] ε μ) ∧ (v4 = (2 : Int) → (m_ty [(0, (2, v0)), (1, (0, v1)), (2, (0, v2)), (3, (0, v3)), (5, (0, v5))] [] ε μ → (v5 ≠ 0 → G cd_X12_holeOf Q X 95 [(0, (2, v0)), (1, (0, v1)), (2, (0, v2)), (3, (0, v3))] [] ε μ) ∧ (v5 = 0 → (m_ty [(3, (0, v3))] [] ε μ → Q v3 ε μ))))
  intro hty
  replace h := h hty.1 (hty.2.1 _ (List.mem_of_getElem? (i := 1) rfl)) (hty.2.1 _ (List.mem_of_getElem? (i := 2) rfl)) (hty.2.1 _ (List.mem_of_getElem? (i := 3) rfl)) (hty.2.1 _ (List.mem_of_getElem? (i := 4) rfl)) (hty.2.1 _ (List.mem_of_getElem? (i := 5) rfl))
  obtain ⟨ha, hb⟩ := h
  refine And.intro (fun c1 => ?_) (fun c1 => ?_)
  · replace h := ha c1
    clear ha hb
    exact h
  · replace h := hb c1
    clear ha hb
    intro _
    obtain ⟨ha, hb⟩ := h
    refine And.intro (fun c0 => ?_) (fun c0 => ?_)
    · replace h := ha c0
      clear ha hb
      exact h
    · replace h := hb c0
      clear ha hb
      intro _
      exact h
set_option maxRecDepth 20000 in
theorem g_X12_holeOf_79 {Q X : m_Po} {v0 v1 v2 v3 v4 v5 t : Int} {ε : m_E} {μ : m_M} (h : TY ε μ → i32 v1 → i32 v2 → i32 v3 → i32 v4 → i32 v5 → i32 t → (t = 0 → Q v3 ε μ) ∧ (t ≠ 0 → G cd_X12_holeOf Q X 82 [(0, (2, v0)), (1, (0, v1)), (2, (0, v2)), (3, (0, v3)), (4, (0, v4)), (5, (0, v5))] [] ε μ)) : G cd_X12_holeOf Q X 79 [(0, (2, v0)), (1, (0, v1)), (2, (0, v2)), (3, (0, v3)), (4, (0, v4)), (5, (0, v5))] [(0, t)] ε μ := by
  refine G_run (m_in [9, 20, 38, 46, 68, 79, 82, 95, 103, 134, 145]) 32 _ _ _ _ ?_
  show m_ty [(0, (2, v0)), (1, (0, v1)), (2, (0, v2)), (3, (0, v3)), (4, (0, v4)), (5, (0, v5))] [(0, t)] ε μ → (t = 0 → (m_ty [(3, (0, v3))] [] ε μ → Q v3 ε μ)) ∧ (t ≠ 0 → G cd_X12_holeOf Q X 82 [(0, (2, v0)), (1, (0, v1)), (2, (0, v2)), (3, (0, v3)), (4, (0, v4)), (5, (0, v5))] [] ε μ)
  intro hty
  replace h := h hty.1 (hty.2.1 _ (List.mem_of_getElem? (i := 1) rfl)) (hty.2.1 _ (List.mem_of_getElem? (i := 2) rfl)) (hty.2.1 _ (List.mem_of_getElem? (i := 3) rfl)) (hty.2.1 _ (List.mem_of_getElem? (i := 4) rfl)) (hty.2.1 _ (List.mem_of_getElem? (i := 5) rfl)) (hty.2.2 _ (List.mem_of_getElem? (i := 0) rfl))
  obtain ⟨ha, hb⟩ := h
  refine And.intro (fun c0 => ?_) (fun c0 => ?_)
  · replace h := ha c0
    clear ha hb
    intro _
    exact h
  · replace h := hb c0
    clear ha hb
    exact h
set_option maxRecDepth 20000 in
theorem g_X12_holeOf_68 {Q X : m_Po} {v0 v1 v2 v3 v4 v5 t : Int} {ε : m_E} {μ : m_M} (h : TY ε μ → i32 v1 → i32 v2 → i32 v3 → i32 v4 → i32 v5 → i32 t → (t = 0 → Q v3 ε μ) ∧ (t ≠ 0 → kd ε v0 = 11 ∧ o_X12_isStoneAt [(2, v0), (0, v1), (0, w32 (v3 + 1))] ε μ (fun z ε_1 μ_1 => G cd_X12_holeOf Q X 79 [(0, (2, v0)), (1, (0, v1)), (2, (0, v2)), (3, (0, v3)), (4, (0, v4)), (5, (0, v5))] [(0, z)] ε_1 μ_1) m_F)) : G cd_X12_holeOf Q X 68 [(0, (2, v0)), (1, (0, v1)), (2, (0, v2)), (3, (0, v3)), (4, (0, v4)), (5, (0, v5))] [(0, t)] ε μ := by
  refine G_run (m_in [9, 20, 38, 46, 68, 79, 82, 95, 103, 134, 145]) 32 _ _ _ _ ?_
  show m_ty [(0, (2, v0)), (1, (0, v1)), (2, (0, v2)), (3, (0, v3)), (4, (0, v4)), (5, (0, v5))] [(0, t)] ε μ → (t = 0 → (m_ty [(3, (0, v3))] [] ε μ → Q v3 ε μ)) ∧ (t ≠ 0 → (m_ty [(0, (2, v0)), (1, (0, v1)), (2, (0, v2)), (3, (0, v3)), (4, (0, v4)), (5, (0, v5))] [] ε μ → (kd ε v0 = 11) ∧ o_X12_isStoneAt [(2, v0), (0, v1), (0, w32 (v3 + 1))] ε μ (fun z ε_1 μ_1 => G cd_X12_holeOf Q X 79 [(0, (2, v0)), (1, (0, v1)), (2, (0, v2)), (3, (0, v3)), (4, (0, v4)), (5, (0, v5))] [(0, z)] ε_1 μ_1) m_F))
  intro hty
  replace h := h hty.1 (hty.2.1 _ (List.mem_of_getElem? (i := 1) rfl)) (hty.2.1 _ (List.mem_of_getElem? (i := 2) rfl)) (hty.2.1 _ (List.mem_of_getElem? (i := 3) rfl)) (hty.2.1 _ (List.mem_of_getElem? (i := 4) rfl)) (hty.2.1 _ (List.mem_of_getElem? (i := 5) rfl)) (hty.2.2 _ (List.mem_of_getElem? (i := 0) rfl))
  obtain ⟨ha, hb⟩ := h
  refine And.intro (fun c1 => ?_) (fun c1 => ?_)
  · replace h := ha c1
    clear ha hb
    intro _
    exact h
  · replace h := hb c1
    clear ha hb
    intro _
    obtain ⟨k1, h⟩ := h
    refine And.intro k1 ?_
    exact h
set_option maxRecDepth 20000 in
theorem g_X12_holeOf_46 {Q X : m_Po} {v0 v1 v2 v3 v4 v5 t : Int} {ε : m_E} {μ : m_M} (h : TY ε μ → i32 v1 → i32 v2 → i32 v3 → i32 v4 → i32 v5 → i32 t → (t = 0 → Q v3 ε μ) ∧ (t ≠ 0 → (v4 ≠ (1 : Int) → G cd_X12_holeOf Q X 82 [(0, (2, v0)), (1, (0, v1)), (2, (0, v2)), (3, (0, v3)), (4, (0, v4)), (5, (0, v5))] [] ε μ) ∧ (v4 = (1 : Int) → (v5 ≠ 0 → Q v3 ε μ) ∧ (v5 = 0 → kd ε v0 = 11 ∧ o_X12_isStoneAt [(2, v0), (0, v1), (0, w32 (v3 - 1))] ε μ (fun z ε_1 μ_1 => G cd_X12_holeOf Q X 68 [(0, (2, v0)), (1, (0, v1)), (2, (0, v2)), (3, (0, v3)), (4, (0, v4)), (5, (0, v5))] [(0, z)] ε_1 μ_1) m_F)))) : G cd_X12_holeOf Q X 46 [(0, (2, v0)), (1, (0, v1)), (2, (0, v2)), (3, (0, v3)), (4, (0, v4)), (5, (0, v5))] [(0, t)] ε μ := by
  refine G_run (m_in [9, 20, 38, 46, 68, 79, 82, 95, 103, 134, 145]) 32 _ _ _ _ ?_
  show m_ty [(0, (2, v0)), (1, (0, v1)), (2, (0, v2)), (3, (0, v3)), (4, (0, v4)), (5, (0, v5))] [(0, t)] ε μ → (t = 0 → (m_ty [(3, (0, v3))] [] ε μ → Q v3 ε μ)) ∧ (t ≠ 0 → (m_ty [(0, (2, v0)), (1, (0, v1)), (2, (0, v2)), (3, (0, v3)), (4, (0, v4)), (5, (0, v5))] [] ε μ → (v4 ≠ (1 : Int) → G cd_X12_holeOf Q X 82 [(0, (2, v0)), (1, (0, v1)), (2, (0, v2)), (3, (0, v3)), (4, (0, v4)), (5, (0, v5))] [] ε μ) ∧ (v4 = (1 : Int) → (m_ty [(0, (2, v0)), (1, (0, v1)), (2, (0, v2)), (3, (0, v3)), (4, (0, v4)), (5, (0, v5))] [] ε μ → (v5 ≠ 0 → (m_ty [(3, (0, v3))] [] ε μ → Q v3 ε μ)) ∧ (v5 = 0 → (m_ty [(0, (2, v0)), (1, (0, v1)), (2, (0, v2)), (3, (0, v3)), (4, (0, v4)), (5, (0, v5))] [] ε μ → (kd ε v0 = 11) ∧ o_X12_isStoneAt [(2, v0), (0, v1), (0, w32 (v3 - 1))] ε μ (fun z ε_1 μ_1 => G cd_X12_holeOf Q X 68 [(0, (2, v0)), (1, (0, v1)), (2, (0, v2)), (3, (0, v3)), (4, (0, v4)), (5, (0, v5))] [(0, z)] ε_1 μ_1) m_F))))))
  intro hty
  replace h := h hty.1 (hty.2.1 _ (List.mem_of_getElem? (i := 1) rfl)) (hty.2.1 _ (List.mem_of_getElem? (i := 2) rfl)) (hty.2.1 _ (List.mem_of_getElem? (i := 3) rfl)) (hty.2.1 _ (List.mem_of_getElem? (i := 4) rfl)) (hty.2.1 _ (List.mem_of_getElem? (i := 5) rfl)) (hty.2.2 _ (List.mem_of_getElem? (i := 0) rfl))
  obtain ⟨ha, hb⟩ := h
  refine And.intro (fun c3 => ?_) (fun c3 => ?_)
  · replace h := ha c3
    clear ha hb
    intro _
    exact h
  · replace h := hb c3
    clear ha hb
    intro _
    obtain ⟨ha, hb⟩ := h
    refine And.intro (fun c2 => ?_) (fun c2 => ?_)
    · replace h := ha c2
      clear ha hb
      exact h
    · replace h := hb c2
      clear ha hb
      intro _
      obtain ⟨ha, hb⟩ := h
      refine And.intro (fun c1 => ?_) (fun c1 => ?_)
      · replace h := ha c1
        clear ha hb
        intro _
        exact h
      · replace h := hb c1
        clear ha hb
        intro _
        obtain ⟨k1, h⟩ := h
        refine And.intro k1 ?_
        exact h
set_option maxRecDepth 20000 in
theorem g_X12_holeOf_38 {Q X : m_Po} {v0 v1 v2 v3 v4 t : Int} {ε : m_E} {μ : m_M} (h : TY ε μ → i32 v1 → i32 v2 → i32 v3 → i32 v4 → i32 t → ∀ v5 : Int, v5 = t → kd ε v0 = 11 ∧ o_X12_isStoneAt [(2, v0), (0, v1), (0, v3)] ε μ (fun z ε_1 μ_1 => G cd_X12_holeOf Q X 46 [(0, (2, v0)), (1, (0, v1)), (2, (0, v2)), (3, (0, v3)), (4, (0, v4)), (5, (0, v5))] [(0, z)] ε_1 μ_1) m_F) : G cd_X12_holeOf Q X 38 [(0, (2, v0)), (1, (0, v1)), (2, (0, v2)), (3, (0, v3)), (4, (0, v4))] [(0, t)] ε μ := by
  refine G_run (m_in [9, 20, 38, 46, 68, 79, 82, 95, 103, 134, 145]) 32 _ _ _ _ ?_
  show m_ty [(0, (2, v0)), (1, (0, v1)), (2, (0, v2)), (3, (0, v3)), (4, (0, v4))] [(0, t)] ε μ → ∀ v5 : Int, v5 = t → (kd ε v0 = 11) ∧ o_X12_isStoneAt [(2, v0), (0, v1), (0, v3)] ε μ (fun z ε_1 μ_1 => G cd_X12_holeOf Q X 46 [(0, (2, v0)), (1, (0, v1)), (2, (0, v2)), (3, (0, v3)), (4, (0, v4)), (5, (0, v5))] [(0, z)] ε_1 μ_1) m_F
  intro hty
  replace h := h hty.1 (hty.2.1 _ (List.mem_of_getElem? (i := 1) rfl)) (hty.2.1 _ (List.mem_of_getElem? (i := 2) rfl)) (hty.2.1 _ (List.mem_of_getElem? (i := 3) rfl)) (hty.2.1 _ (List.mem_of_getElem? (i := 4) rfl)) (hty.2.2 _ (List.mem_of_getElem? (i := 0) rfl))
  intro v5 e_v5
  replace h := h v5 e_v5
  obtain ⟨k1, h⟩ := h
  refine And.intro k1 ?_
  exact h
set_option maxRecDepth 20000 in
theorem g_X12_holeOf_20 {Q X : m_Po} {v0 v1 v2 v3 t : Int} {ε : m_E} {μ : m_M} (h : TY ε μ → i32 v1 → i32 v2 → i32 v3 → i32 t → ∀ v4 : Int, v4 = t → ∀ t_1 : Int, t_1 = (if v3 = 0 then 1 else if v3 = (w32 (v2 - 1)) then 1 else 0) → ∀ v5 : Int, v5 = t_1 → kd ε v0 = 11 ∧ o_X12_isStoneAt [(2, v0), (0, v1), (0, v3)] ε μ (fun z ε_1 μ_1 => G cd_X12_holeOf Q X 46 [(0, (2, v0)), (1, (0, v1)), (2, (0, v2)), (3, (0, v3)), (4, (0, v4)), (5, (0, v5))] [(0, z)] ε_1 μ_1) m_F) : G cd_X12_holeOf Q X 20 [(0, (2, v0)), (1, (0, v1)), (2, (0, v2)), (3, (0, v3))] [(0, t)] ε μ := by
  refine G_run (m_in [9, 20, 38, 46, 68, 79, 82, 95, 103, 134, 145]) 32 _ _ _ _ ?_
  show m_ty [(0, (2, v0)), (1, (0, v1)), (2, (0, v2)), (3, (0, v3))] [(0, t)] ε μ → ∀ v4 : Int, v4 = t → (v3 = 0 → (m_ty [(0, (2, v0)), (1, (0, v1)), (2, (0, v2)), (3, (0, v3)), (4, (0, v4))] [] ε μ → G cd_X12_holeOf Q X 38 [(0, (2, v0)), (1, (0, v1)), (2, (0, v2)), (3, (0, v3)), (4, (0, v4))] [(0, 1)] ε μ)) ∧ (v3 ≠ 0 → (m_ty [(0, (2, v0)), (1, (0, v1)), (2, (0, v2)), (3, (0, v3)), (4, (0, v4))] [] ε μ → (v3 ≠ (w32 (v2 - 1)) → (m_ty [(0, (2, v0)), (1, (0, v1)), (2, (0, v2)), (3, (0, v3)), (4, (0, v4))] [] ε μ → G cd_X12_holeOf Q X 38 [(0, (2, v0)), (1, (0, v1)), (2, (0, v2)), (3, (0, v3)), (4, (0, v4))] [(0, 0)] ε μ)) ∧ (v3 = (w32 (v2 - 1)) → (m_ty [(0, (2, v0)), (1, (0, v1)), (2, (0, v2)), (3, (0, v3)), (4, (0, v4))] [] ε μ → G cd_X12_holeOf Q X 38 [(0, (2, v0)), (1, (0, v1)), (2, (0, v2)), (3, (0, v3)), (4, (0, v4))] [(0, 1)] ε μ))))
  intro hty
  replace h := h hty.1 (hty.2.1 _ (List.mem_of_getElem? (i := 1) rfl)) (hty.2.1 _ (List.mem_of_getElem? (i := 2) rfl)) (hty.2.1 _ (List.mem_of_getElem? (i := 3) rfl)) (hty.2.2 _ (List.mem_of_getElem? (i := 0) rfl))
  intro v4 e_v4
  replace h := h v4 e_v4
  have hj := h
  refine And.intro (fun c0 => ?_) (fun c0 => ?_)
  · intro _
    exact g_X12_holeOf_38 (fun _ _ _ _ _ _ => (hj _ (((if_pos c0).trans rfl)).symm))
  · intro _
    refine And.intro (fun c1 => ?_) (fun c1 => ?_)
    · intro _
      exact g_X12_holeOf_38 (fun _ _ _ _ _ _ => (hj _ (((if_neg (c0)).trans ((if_neg (c1)).trans rfl))).symm))
    · intro _
      exact g_X12_holeOf_38 (fun _ _ _ _ _ _ => (hj _ (((if_neg (c0)).trans ((if_pos c1).trans rfl))).symm))
set_option maxRecDepth 20000 in
theorem g_X12_holeOf_9 {Q X : m_Po} {v0 v1 v2 v3 : Int} {ε : m_E} {μ : m_M} (h : TY ε μ → i32 v1 → i32 v2 → i32 v3 → (v2 ≤ v3 → ∀ v3_1 : Int, v3_1 = 0 → G cd_X12_holeOf Q X 103 [(0, (2, v0)), (1, (0, v1)), (2, (0, v2)), (3, (0, v3_1))] [] ε μ) ∧ (v3 < v2 → kd ε v0 = 11 ∧ o_X12_kindAt [(2, v0), (0, v1), (0, v3)] ε μ (fun z ε_1 μ_1 => G cd_X12_holeOf Q X 20 [(0, (2, v0)), (1, (0, v1)), (2, (0, v2)), (3, (0, v3))] [(0, z)] ε_1 μ_1) m_F)) : G cd_X12_holeOf Q X 9 [(0, (2, v0)), (1, (0, v1)), (2, (0, v2)), (3, (0, v3))] [] ε μ := by
  refine G_run (m_in [9, 20, 38, 46, 68, 79, 82, 95, 103, 134, 145]) 32 _ _ _ _ ?_
  show m_ty [(0, (2, v0)), (1, (0, v1)), (2, (0, v2)), (3, (0, v3))] [] ε μ → (v2 ≤ v3 → (m_ty [(0, (2, v0)), (1, (0, v1)), (2, (0, v2))] [] ε μ → ∀ v3_1 : Int, v3_1 = 0 → G cd_X12_holeOf Q X 103 [(0, (2, v0)), (1, (0, v1)), (2, (0, v2)), (3, (0, v3_1))] [] ε μ)) ∧ (v3 < v2 → (m_ty [(0, (2, v0)), (1, (0, v1)), (2, (0, v2)), (3, (0, v3))] [] ε μ → (kd ε v0 = 11) ∧ o_X12_kindAt [(2, v0), (0, v1), (0, v3)] ε μ (fun z ε_1 μ_1 => G cd_X12_holeOf Q X 20 [(0, (2, v0)), (1, (0, v1)), (2, (0, v2)), (3, (0, v3))] [(0, z)] ε_1 μ_1) m_F))
  intro hty
  replace h := h hty.1 (hty.2.1 _ (List.mem_of_getElem? (i := 1) rfl)) (hty.2.1 _ (List.mem_of_getElem? (i := 2) rfl)) (hty.2.1 _ (List.mem_of_getElem? (i := 3) rfl))
  obtain ⟨ha, hb⟩ := h
  refine And.intro (fun c1 => ?_) (fun c1 => ?_)
  · replace h := ha c1
    clear ha hb
    intro _
    intro v3_1 e_v3_1
    replace h := h v3_1 e_v3_1
    exact h
  · replace h := hb c1
    clear ha hb
    intro _
    obtain ⟨k1, h⟩ := h
    refine And.intro k1 ?_
    exact h
set_option maxRecDepth 20000 in
theorem g_X12_holeOf_0 {Q X : m_Po} {v0 v1 : Int} {ε : m_E} {μ : m_M} (h : TY ε μ → i32 v1 → kd ε v0 = 11 ∧ kd ε (fn ε v0 17) = 100 ∧ (0 : Int) ≤ v1 ∧ v1 < ln ε (fn ε v0 17) ∧ ∀ v2 : Int, v2 = μ (fn ε v0 17) v1 → ∀ v3 : Int, v3 = 0 → G cd_X12_holeOf Q X 9 [(0, (2, v0)), (1, (0, v1)), (2, (0, v2)), (3, (0, v3))] [] ε μ) : G cd_X12_holeOf Q X 0 [(0, (2, v0)), (1, (0, v1))] [] ε μ := by
  refine G_run (m_in [9, 20, 38, 46, 68, 79, 82, 95, 103, 134, 145]) 32 _ _ _ _ ?_
  show m_ty [(0, (2, v0)), (1, (0, v1))] [] ε μ → (kd ε v0 = 11) ∧ (kd ε (fn ε v0 17) = 100) ∧ ((0 : Int) ≤ v1 ∧ v1 < ln ε (fn ε v0 17)) ∧ ∀ v2 : Int, v2 = μ (fn ε v0 17) v1 → ∀ v3 : Int, v3 = 0 → G cd_X12_holeOf Q X 9 [(0, (2, v0)), (1, (0, v1)), (2, (0, v2)), (3, (0, v3))] [] ε μ
  intro hty
  replace h := h hty.1 (hty.2.1 _ (List.mem_of_getElem? (i := 1) rfl))
  obtain ⟨k1, h⟩ := h
  refine And.intro k1 ?_
  obtain ⟨k2, h⟩ := h
  refine And.intro k2 ?_
  obtain ⟨k3, h⟩ := h
  obtain ⟨k4, h⟩ := h
  refine And.intro (And.intro k3 k4) ?_
  intro v2 e_v2
  replace h := h v2 e_v2
  intro v3 e_v3
  replace h := h v3 e_v3
  exact h
theorem e_X12_holeOf {Q X : m_Po} {v0 v1 : Int} {ε : m_E} {μ : m_M} (h : TY ε μ → i32 v1 → kd ε v0 = 11 ∧ kd ε (fn ε v0 17) = 100 ∧ (0 : Int) ≤ v1 ∧ v1 < ln ε (fn ε v0 17) ∧ ∀ v2 : Int, v2 = μ (fn ε v0 17) v1 → ∀ v3 : Int, v3 = 0 → G cd_X12_holeOf Q X 9 [(0, (2, v0)), (1, (0, v1)), (2, (0, v2)), (3, (0, v3))] [] ε μ) : o_X12_holeOf [(2, v0), (0, v1)] ε μ Q X := And.intro rfl (g_X12_holeOf_0 h)
/-! ArchYardModel.whole(I)I -/
set_option maxRecDepth 20000 in
theorem g_X12_whole_13 {Q X : m_Po} {t : Int} {ε : m_E} {μ : m_M} (h : TY ε μ → i32 t → Q t ε μ) : G cd_X12_whole Q X 13 [] [(0, t)] ε μ := by
  refine G_run (m_in [5, 13]) 7 _ _ _ _ ?_
  show m_ty [] [(0, t)] ε μ → (m_ty [] [(0, t)] ε μ → Q t ε μ)
  intro hty
  replace h := h hty.1 (hty.2.2 _ (List.mem_of_getElem? (i := 0) rfl))
  intro _
  exact h
set_option maxRecDepth 20000 in
theorem g_X12_whole_5 {Q X : m_Po} {v0 v1 t : Int} {ε : m_E} {μ : m_M} (h : TY ε μ → i32 v1 → i32 t → (t = 0 → Q 0 ε μ) ∧ (t ≠ 0 → kd ε v0 = 11 ∧ o_X12_holeOf [(2, v0), (0, v1)] ε μ (fun z ε_1 μ_1 => G cd_X12_whole Q X 13 [] [(0, z)] ε_1 μ_1) m_F)) : G cd_X12_whole Q X 5 [(0, (2, v0)), (1, (0, v1))] [(0, t)] ε μ := by
  refine G_run (m_in [5, 13]) 7 _ _ _ _ ?_
  show m_ty [(0, (2, v0)), (1, (0, v1))] [(0, t)] ε μ → (t = 0 → (m_ty [] [] ε μ → (m_ty [] [(0, 0)] ε μ → Q 0 ε μ))) ∧ (t ≠ 0 → (m_ty [(0, (2, v0)), (1, (0, v1))] [] ε μ → (kd ε v0 = 11) ∧ o_X12_holeOf [(2, v0), (0, v1)] ε μ (fun z ε_1 μ_1 => G cd_X12_whole Q X 13 [] [(0, z)] ε_1 μ_1) m_F))
  intro hty
  replace h := h hty.1 (hty.2.1 _ (List.mem_of_getElem? (i := 1) rfl)) (hty.2.2 _ (List.mem_of_getElem? (i := 0) rfl))
  obtain ⟨ha, hb⟩ := h
  refine And.intro (fun c1 => ?_) (fun c1 => ?_)
  · replace h := ha c1
    clear ha hb
    intro _
    intro _
    exact h
  · replace h := hb c1
    clear ha hb
    intro _
    obtain ⟨k1, h⟩ := h
    refine And.intro k1 ?_
    exact h
set_option maxRecDepth 20000 in
theorem g_X12_whole_0 {Q X : m_Po} {v0 v1 : Int} {ε : m_E} {μ : m_M} (h : TY ε μ → i32 v1 → kd ε v0 = 11 ∧ o_X12_isArch [(2, v0), (0, v1)] ε μ (fun z ε_1 μ_1 => G cd_X12_whole Q X 5 [(0, (2, v0)), (1, (0, v1))] [(0, z)] ε_1 μ_1) m_F) : G cd_X12_whole Q X 0 [(0, (2, v0)), (1, (0, v1))] [] ε μ := by
  refine G_run (m_in [5, 13]) 7 _ _ _ _ ?_
  show m_ty [(0, (2, v0)), (1, (0, v1))] [] ε μ → (kd ε v0 = 11) ∧ o_X12_isArch [(2, v0), (0, v1)] ε μ (fun z ε_1 μ_1 => G cd_X12_whole Q X 5 [(0, (2, v0)), (1, (0, v1))] [(0, z)] ε_1 μ_1) m_F
  intro hty
  replace h := h hty.1 (hty.2.1 _ (List.mem_of_getElem? (i := 1) rfl))
  obtain ⟨k1, h⟩ := h
  refine And.intro k1 ?_
  exact h
theorem e_X12_whole {Q X : m_Po} {v0 v1 : Int} {ε : m_E} {μ : m_M} (h : TY ε μ → i32 v1 → kd ε v0 = 11 ∧ o_X12_isArch [(2, v0), (0, v1)] ε μ (fun z ε_1 μ_1 => G cd_X12_whole Q X 5 [(0, (2, v0)), (1, (0, v1))] [(0, z)] ε_1 μ_1) m_F) : o_X12_whole [(2, v0), (0, v1)] ε μ Q X := And.intro rfl (g_X12_whole_0 h)
/-! ArchYardModel.joint(III)I -/
set_option maxRecDepth 20000 in
theorem g_X12_joint_80 {Q X : m_Po} {t : Int} {ε : m_E} {μ : m_M} (h : TY ε μ → i32 t → Q t ε μ) : G cd_X12_joint Q X 80 [] [(0, t)] ε μ := by
  refine G_run (m_in [5, 43, 61, 80]) 18 _ _ _ _ ?_
  show m_ty [] [(0, t)] ε μ → Q t ε μ
  intro hty
  replace h := h hty.1 (hty.2.2 _ (List.mem_of_getElem? (i := 0) rfl))
  exact h
set_option maxRecDepth 20000 in
theorem g_X12_joint_61 {Q X : m_Po} {v0 v2 v3 t : Int} {ε : m_E} {μ : m_M} (h : TY ε μ → i32 v2 → i32 v3 → i32 t → ((t ≠ 0 → kd ε v0 = 11 ∧ kd ε (fn ε v0 28) = 100 ∧ (0 : Int) ≤ w32 ((w32 (4 * v2)) + v3) ∧ w32 ((w32 (4 * v2)) + v3) < ln ε (fn ε v0 28))) ∧ ∀ t_1 : Int, t_1 = (if t = 0 then (-1000) else μ (fn ε v0 28) (w32 ((w32 (4 * v2)) + v3))) → Q t_1 ε μ) : G cd_X12_joint Q X 61 [(0, (2, v0)), (2, (0, v2)), (3, (0, v3))] [(0, t)] ε μ := by
  refine G_run (m_in [5, 43, 61, 80]) 18 _ _ _ _ ?_
  show m_ty [(0, (2, v0)), (2, (0, v2)), (3, (0, v3))] [(0, t)] ε μ → (t = 0 → (m_ty [] [] ε μ → G cd_X12_joint Q X 80 [] [(0, (-1000))] ε μ)) ∧ (t ≠ 0 → (m_ty [(0, (2, v0)), (2, (0, v2)), (3, (0, v3))] [] ε μ → (kd ε v0 = 11) ∧ (kd ε (fn ε v0 28) = 100) ∧ ((0 : Int) ≤ w32 ((w32 (4 * v2)) + v3) ∧ w32 ((w32 (4 * v2)) + v3) < ln ε (fn ε v0 28)) ∧ G cd_X12_joint Q X 80 [] [(0, μ (fn ε v0 28) (w32 ((w32 (4 * v2)) + v3)))] ε μ))
  intro hty
  replace h := h hty.1 (hty.2.1 _ (List.mem_of_getElem? (i := 1) rfl)) (hty.2.1 _ (List.mem_of_getElem? (i := 2) rfl)) (hty.2.2 _ (List.mem_of_getElem? (i := 0) rfl))
  obtain ⟨hc, hj⟩ := h
  refine And.intro (fun c0 => ?_) (fun c0 => ?_)
  · intro _
    exact g_X12_joint_80 (fun _ _ => (hj _ (((if_pos c0).trans rfl)).symm))
  · replace hc := hc c0
    intro _
    obtain ⟨k2, k3, k4, k5⟩ := hc
    refine And.intro k2 ?_
    refine And.intro k3 ?_
    refine And.intro (And.intro k4 k5) ?_
    exact g_X12_joint_80 (fun _ _ => (hj _ (((if_neg (c0)).trans rfl)).symm))
set_option maxRecDepth 20000 in
theorem g_X12_joint_43 {Q X : m_Po} {v0 v1 v2 v3 t t_1 : Int} {ε : m_E} {μ : m_M} (h : TY ε μ → i32 v1 → i32 v2 → i32 v3 → i32 t_1 → kd ε t = 11 ∧ ∀ μ_1 : m_M, μ_1 = st μ t 0 t_1 → kd ε v0 = 11 ∧ ((μ_1 v0 0) ≤ 0 → o_X12_joins [(2, v0), (0, v1), (0, v2)] ε μ_1 (fun z ε_1 μ_2 => G cd_X12_joint Q X 61 [(0, (2, v0)), (2, (0, v2)), (3, (0, v3))] [(0, z)] ε_1 μ_2) m_F) ∧ (0 < (μ_1 v0 0) → Q 0 ε μ_1)) : G cd_X12_joint Q X 43 [(0, (2, v0)), (1, (0, v1)), (2, (0, v2)), (3, (0, v3))] [(0, t_1), (2, t)] ε μ := by
  refine G_run (m_in [5, 43, 61, 80]) 18 _ _ _ _ ?_
  show m_ty [(0, (2, v0)), (1, (0, v1)), (2, (0, v2)), (3, (0, v3))] [(0, t_1), (2, t)] ε μ → (kd ε t = 11) ∧ ∀ μ_1 : m_M, μ_1 = st μ t 0 t_1 → (kd ε v0 = 11) ∧ ((μ_1 v0 0) ≤ 0 → (m_ty [(0, (2, v0)), (1, (0, v1)), (2, (0, v2)), (3, (0, v3))] [] ε μ_1 → (kd ε v0 = 11) ∧ o_X12_joins [(2, v0), (0, v1), (0, v2)] ε μ_1 (fun z ε_1 μ_2 => G cd_X12_joint Q X 61 [(0, (2, v0)), (2, (0, v2)), (3, (0, v3))] [(0, z)] ε_1 μ_2) m_F)) ∧ (0 < (μ_1 v0 0) → (m_ty [] [] ε μ_1 → Q 0 ε μ_1))
  intro hty
  replace h := h hty.1 (hty.2.1 _ (List.mem_of_getElem? (i := 1) rfl)) (hty.2.1 _ (List.mem_of_getElem? (i := 2) rfl)) (hty.2.1 _ (List.mem_of_getElem? (i := 3) rfl)) (hty.2.2 _ (List.mem_of_getElem? (i := 0) rfl))
  obtain ⟨k1, h⟩ := h
  refine And.intro k1 ?_
  intro μ_1 e_μ_1
  replace h := h μ_1 e_μ_1
  obtain ⟨k2, h⟩ := h
  refine And.intro k2 ?_
  obtain ⟨ha, hb⟩ := h
  refine And.intro (fun c2 => ?_) (fun c2 => ?_)
  · replace h := ha c2
    clear ha hb
    intro _
    refine And.intro k2 ?_
    exact h
  · replace h := hb c2
    clear ha hb
    intro _
    exact h
set_option maxRecDepth 20000 in
theorem g_X12_joint_5 {Q X : m_Po} {v0 v1 v2 v3 t : Int} {ε : m_E} {μ : m_M} (h : TY ε μ → i32 v1 → i32 v2 → i32 v3 → i32 t → (t ≠ 0 → ((0 ≤ v2 → kd ε v0 = 11 ∧ kd ε (fn ε v0 17) = 100 ∧ (0 : Int) ≤ v1 ∧ v1 < ln ε (fn ε v0 17))) ∧ ∀ t_1 : Int, t_1 = (if v2 < 0 then 1 else if v2 ≤ (μ (fn ε v0 17) v1) then if v3 < 0 then 2 else if v3 ≤ (3 : Int) then 0 else 2 else 1) → kd ε v0 = 11 ∧ ∀ μ_1 : m_M, μ_1 = st μ v0 0 t_1 → kd ε v0 = 11 ∧ ((μ_1 v0 0) ≤ 0 → o_X12_joins [(2, v0), (0, v1), (0, v2)] ε μ_1 (fun z ε_1 μ_2 => G cd_X12_joint Q X 61 [(0, (2, v0)), (2, (0, v2)), (3, (0, v3))] [(0, z)] ε_1 μ_2) m_F) ∧ (0 < (μ_1 v0 0) → Q 0 ε μ_1)) ∧ (t = 0 → Q 0 ε μ)) : G cd_X12_joint Q X 5 [(0, (2, v0)), (1, (0, v1)), (2, (0, v2)), (3, (0, v3))] [(0, t)] ε μ := by
  refine G_run (m_in [5, 43, 61, 80]) 18 _ _ _ _ ?_
  show m_ty [(0, (2, v0)), (1, (0, v1)), (2, (0, v2)), (3, (0, v3))] [(0, t)] ε μ → (t ≠ 0 → (m_ty [(0, (2, v0)), (1, (0, v1)), (2, (0, v2)), (3, (0, v3))] [] ε μ → (v2 < 0 → (m_ty [(0, (2, v0)), (1, (0, v1)), (2, (0, v2)), (3, (0, v3))] [(2, v0)] ε μ → G cd_X12_joint Q X 43 [(0, (2, v0)), (1, (0, v1)), (2, (0, v2)), (3, (0, v3))] [(0, 1), (2, v0)] ε μ)) ∧ (0 ≤ v2 → (m_ty [(0, (2, v0)), (1, (0, v1)), (2, (0, v2)), (3, (0, v3))] [(2, v0)] ε μ → (kd ε v0 = 11) ∧ (kd ε (fn ε v0 17) = 100) ∧ ((0 : Int) ≤ v1 ∧ v1 < ln ε (fn ε v0 17)) ∧ (v2 ≤ (μ (fn ε v0 17) v1) → (m_ty [(0, (2, v0)), (1, (0, v1)), (2, (0, v2)), (3, (0, v3))] [(2, v0)] ε μ → (v3 < 0 → (m_ty [(0, (2, v0)), (1, (0, v1)), (2, (0, v2)), (3, (0, v3))] [(2, v0)] ε μ → G cd_X12_joint Q X 43 [(0, (2, v0)), (1, (0, v1)), (2, (0, v2)), (3, (0, v3))] [(0, 2), (2, v0)] ε μ)) ∧ (0 ≤ v3 → (m_ty [(0, (2, v0)), (1, (0, v1)), (2, (0, v2)), (3, (0, v3))] [(2, v0)] ε μ → (v3 ≤ (3 : Int) → (m_ty [(0, (2, v0)), (1, (0, v1)), (2, (0, v2)), (3, (0, v3))] [(2, v0)] ε μ → G cd_X12_joint Q X 43 [(0, (2, v0)), (1, (0, v1)), (2, (0, v2)), (3, (0, v3))] [(0, 0), (2, v0)] ε μ)) ∧ ((3 : Int) < v3 → (m_ty [(0, (2, v0)), (1, (0, v1)), (2, (0, v2)), (3, (0, v3))] [(2, v0)] ε μ → G cd_X12_joint Q X 43 [(0, (2, v0)), (1, (0, v1)), (2, (0, v2)), (3, (0, v3))] [(0, 2), (2, v0)] ε μ)))))) ∧ ((μ (fn ε v0 17) v1) < v2 → (m_ty [(0, (2, v0)), (1, (0, v1)), (2, (0, v2)), (3, (0, v3))] [(2, v0)] ε μ → G cd_X12_joint Q X 43 [(0, (2, v0)), (1, (0, v1)), (2, (0, v2)), (3, (0, v3))] [(0, 1), (2, v0)] ε μ)))))) ∧ (t = 0 → (m_ty [] [] ε μ → Q 0 ε μ))
  intro hty
  replace h := h hty.1 (hty.2.1 _ (List.mem_of_getElem? (i := 1) rfl)) (hty.2.1 _ (List.mem_of_getElem? (i := 2) rfl)) (hty.2.1 _ (List.mem_of_getElem? (i := 3) rfl)) (hty.2.2 _ (List.mem_of_getElem? (i := 0) rfl))
  obtain ⟨ha, hb⟩ := h
  refine And.intro (fun c11 => ?_) (fun c11 => ?_)
  · replace h := ha c11
    clear ha hb
    intro _
    obtain ⟨hc, hj⟩ := h
    refine And.intro (fun c0 => ?_) (fun c0 => ?_)
    · intro _
      exact g_X12_joint_43 (fun _ _ _ _ _ => (hj _ (((if_pos c0).trans rfl)).symm))
    · replace hc := hc c0
      intro _
      obtain ⟨k2, k3, k4, k5⟩ := hc
      refine And.intro k2 ?_
      refine And.intro k3 ?_
      refine And.intro (And.intro k4 k5) ?_
      refine And.intro (fun c5 => ?_) (fun c5 => ?_)
      · intro _
        refine And.intro (fun c6 => ?_) (fun c6 => ?_)
        · intro _
          exact g_X12_joint_43 (fun _ _ _ _ _ => (hj _ (((if_neg (Int.not_lt.mpr c0)).trans ((if_pos c5).trans ((if_pos c6).trans rfl)))).symm))
        · intro _
          refine And.intro (fun c7 => ?_) (fun c7 => ?_)
          · intro _
            exact g_X12_joint_43 (fun _ _ _ _ _ => (hj _ (((if_neg (Int.not_lt.mpr c0)).trans ((if_pos c5).trans ((if_neg (Int.not_lt.mpr c6)).trans ((if_pos c7).trans rfl))))).symm))
          · intro _
            exact g_X12_joint_43 (fun _ _ _ _ _ => (hj _ (((if_neg (Int.not_lt.mpr c0)).trans ((if_pos c5).trans ((if_neg (Int.not_lt.mpr c6)).trans ((if_neg (Int.not_le.mpr c7)).trans rfl))))).symm))
      · intro _
        exact g_X12_joint_43 (fun _ _ _ _ _ => (hj _ (((if_neg (Int.not_lt.mpr c0)).trans ((if_neg (Int.not_le.mpr c5)).trans rfl))).symm))
  · replace h := hb c11
    clear ha hb
    intro _
    exact h
set_option maxRecDepth 20000 in
theorem g_X12_joint_0 {Q X : m_Po} {v0 v1 v2 v3 : Int} {ε : m_E} {μ : m_M} (h : TY ε μ → i32 v1 → i32 v2 → i32 v3 → kd ε v0 = 11 ∧ o_X12_isArch [(2, v0), (0, v1)] ε μ (fun z ε_1 μ_1 => G cd_X12_joint Q X 5 [(0, (2, v0)), (1, (0, v1)), (2, (0, v2)), (3, (0, v3))] [(0, z)] ε_1 μ_1) m_F) : G cd_X12_joint Q X 0 [(0, (2, v0)), (1, (0, v1)), (2, (0, v2)), (3, (0, v3))] [] ε μ := by
  refine G_run (m_in [5, 43, 61, 80]) 18 _ _ _ _ ?_
  show m_ty [(0, (2, v0)), (1, (0, v1)), (2, (0, v2)), (3, (0, v3))] [] ε μ → (kd ε v0 = 11) ∧ o_X12_isArch [(2, v0), (0, v1)] ε μ (fun z ε_1 μ_1 => G cd_X12_joint Q X 5 [(0, (2, v0)), (1, (0, v1)), (2, (0, v2)), (3, (0, v3))] [(0, z)] ε_1 μ_1) m_F
  intro hty
  replace h := h hty.1 (hty.2.1 _ (List.mem_of_getElem? (i := 1) rfl)) (hty.2.1 _ (List.mem_of_getElem? (i := 2) rfl)) (hty.2.1 _ (List.mem_of_getElem? (i := 3) rfl))
  obtain ⟨k1, h⟩ := h
  refine And.intro k1 ?_
  exact h
theorem e_X12_joint {Q X : m_Po} {v0 v1 v2 v3 : Int} {ε : m_E} {μ : m_M} (h : TY ε μ → i32 v1 → i32 v2 → i32 v3 → kd ε v0 = 11 ∧ o_X12_isArch [(2, v0), (0, v1)] ε μ (fun z ε_1 μ_1 => G cd_X12_joint Q X 5 [(0, (2, v0)), (1, (0, v1)), (2, (0, v2)), (3, (0, v3))] [(0, z)] ε_1 μ_1) m_F) : o_X12_joint [(2, v0), (0, v1), (0, v2), (0, v3)] ε μ Q X := And.intro rfl (g_X12_joint_0 h)
