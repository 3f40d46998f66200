/-! ArchYardModel.keeps(IJJJJ)V -/
set_option maxRecDepth 20000 in
theorem g_X12_keeps_53 {Q X : m_Po} {v0 : Int} {ε : m_E} {μ : m_M} (h : TY ε μ → kd ε v0 = 11 ∧ ∀ μ_1 : m_M, μ_1 = st μ v0 35 (w32 ((μ v0 35) + 1)) → Q 0 ε μ_1) : G cd_X12_keeps Q X 53 [(0, (2, v0))] [] ε μ := by
  refine G_run (m_in [53]) 3 _ _ _ _ ?_
  show m_ty [(0, (2, v0))] [] ε μ → (kd ε v0 = 11) ∧ (kd ε v0 = 11) ∧ ∀ μ_1 : m_M, μ_1 = st μ v0 35 (w32 ((μ v0 35) + 1)) → Q 0 ε μ_1
  intro hty
  replace h := h hty.1 
  obtain ⟨k1, h⟩ := h
  refine And.intro k1 ?_
  refine And.intro k1 ?_
  intro μ_1 e_μ_1
  replace h := h μ_1 e_μ_1
  exact h
set_option maxRecDepth 20000 in
theorem g_X12_keeps_0 {Q X : m_Po} {v0 v1 v2 v4 v6 v8 : Int} {ε : m_E} {μ : m_M} (h : TY ε μ → i32 v1 → i64 v2 → i64 v4 → i64 v6 → i64 v8 → kd ε v0 = 11 ∧ kd ε (fn ε v0 34) = 100 ∧ (0 : Int) ≤ μ v0 35 ∧ μ v0 35 < ln ε (fn ε v0 34) ∧ ∀ μ_1 : m_M, μ_1 = st μ (fn ε v0 34) (μ v0 35) v1 → kd ε (fn ε v0 30) = 101 ∧ (0 : Int) ≤ μ_1 v0 35 ∧ μ_1 v0 35 < ln ε (fn ε v0 30) ∧ ∀ μ_2 : m_M, μ_2 = st μ_1 (fn ε v0 30) (μ_1 v0 35) v2 → kd ε (fn ε v0 31) = 101 ∧ (0 : Int) ≤ μ_2 v0 35 ∧ μ_2 v0 35 < ln ε (fn ε v0 31) ∧ ∀ μ_3 : m_M, μ_3 = st μ_2 (fn ε v0 31) (μ_2 v0 35) v4 → kd ε (fn ε v0 32) = 101 ∧ (0 : Int) ≤ μ_3 v0 35 ∧ μ_3 v0 35 < ln ε (fn ε v0 32) ∧ ∀ μ_4 : m_M, μ_4 = st μ_3 (fn ε v0 32) (μ_3 v0 35) v6 → kd ε (fn ε v0 33) = 101 ∧ (0 : Int) ≤ μ_4 v0 35 ∧ μ_4 v0 35 < ln ε (fn ε v0 33) ∧ ∀ μ_5 : m_M, μ_5 = st μ_4 (fn ε v0 33) (μ_4 v0 35) v8 → kd ε v0 = 11 ∧ ∀ μ_6 : m_M, μ_6 = st μ_5 v0 35 (w32 ((μ_5 v0 35) + 1)) → Q 0 ε μ_6) : G cd_X12_keeps Q X 0 [(0, (2, v0)), (1, (0, v1)), (2, (1, v2)), (4, (1, v4)), (6, (1, v6)), (8, (1, v8))] [] ε μ := by
  refine G_run (m_in [53]) 3 _ _ _ _ ?_
  show m_ty [(0, (2, v0)), (1, (0, v1)), (2, (1, v2)), (4, (1, v4)), (6, (1, v6)), (8, (1, v8))] [] ε μ → (kd ε v0 = 11) ∧ (kd ε v0 = 11) ∧ (kd ε (fn ε v0 34) = 100) ∧ ((0 : Int) ≤ μ v0 35 ∧ μ v0 35 < ln ε (fn ε v0 34)) ∧ ∀ μ_1 : m_M, μ_1 = st μ (fn ε v0 34) (μ v0 35) v1 → (kd ε v0 = 11) ∧ (kd ε v0 = 11) ∧ (kd ε (fn ε v0 30) = 101) ∧ ((0 : Int) ≤ μ_1 v0 35 ∧ μ_1 v0 35 < ln ε (fn ε v0 30)) ∧ ∀ μ_2 : m_M, μ_2 = st μ_1 (fn ε v0 30) (μ_1 v0 35) v2 → (kd ε v0 = 11) ∧ (kd ε v0 = 11) ∧ (kd ε (fn ε v0 31) = 101) ∧ ((0 : Int) ≤ μ_2 v0 35 ∧ μ_2 v0 35 < ln ε (fn ε v0 31)) ∧ ∀ μ_3 : m_M, μ_3 = st μ_2 (fn ε v0 31) (μ_2 v0 35) v4 → (kd ε v0 = 11) ∧ (kd ε v0 = 11) ∧ (kd ε (fn ε v0 32) = 101) ∧ ((0 : Int) ≤ μ_3 v0 35 ∧ μ_3 v0 35 < ln ε (fn ε v0 32)) ∧ ∀ μ_4 : m_M, μ_4 = st μ_3 (fn ε v0 32) (μ_3 v0 35) v6 → (kd ε v0 = 11) ∧ (kd ε v0 = 11) ∧ (kd ε (fn ε v0 33) = 101) ∧ ((0 : Int) ≤ μ_4 v0 35 ∧ μ_4 v0 35 < ln ε (fn ε v0 33)) ∧ ∀ μ_5 : m_M, μ_5 = st μ_4 (fn ε v0 33) (μ_4 v0 35) v8 → G cd_X12_keeps Q X 53 [(0, (2, v0))] [] ε μ_5
  intro hty
  replace h := h hty.1 (hty.2.1 _ (List.mem_of_getElem? (i := 1) rfl)) (hty.2.1 _ (List.mem_of_getElem? (i := 2) rfl)) (hty.2.1 _ (List.mem_of_getElem? (i := 3) rfl)) (hty.2.1 _ (List.mem_of_getElem? (i := 4) rfl)) (hty.2.1 _ (List.mem_of_getElem? (i := 5) rfl))
  obtain ⟨k1, h⟩ := h
  refine And.intro k1 ?_
  refine And.intro k1 ?_
  obtain ⟨k2, h⟩ := h
  refine And.intro k2 ?_
  obtain ⟨k3, h⟩ := h
  obtain ⟨k4, h⟩ := h
  refine And.intro (And.intro k3 k4) ?_
  intro μ_1 e_μ_1
  replace h := h μ_1 e_μ_1
  refine And.intro k1 ?_
  refine And.intro k1 ?_
  obtain ⟨k5, h⟩ := h
  refine And.intro k5 ?_
  obtain ⟨k6, h⟩ := h
  obtain ⟨k7, h⟩ := h
  refine And.intro (And.intro k6 k7) ?_
  intro μ_2 e_μ_2
  replace h := h μ_2 e_μ_2
  refine And.intro k1 ?_
  refine And.intro k1 ?_
  obtain ⟨k8, h⟩ := h
  refine And.intro k8 ?_
  obtain ⟨k9, h⟩ := h
  obtain ⟨k10, h⟩ := h
  refine And.intro (And.intro k9 k10) ?_
  intro μ_3 e_μ_3
  replace h := h μ_3 e_μ_3
  refine And.intro k1 ?_
  refine And.intro k1 ?_
  obtain ⟨k11, h⟩ := h
  refine And.intro k11 ?_
  obtain ⟨k12, h⟩ := h
  obtain ⟨k13, h⟩ := h
  refine And.intro (And.intro k12 k13) ?_
  intro μ_4 e_μ_4
  replace h := h μ_4 e_μ_4
  refine And.intro k1 ?_
  refine And.intro k1 ?_
  obtain ⟨k14, h⟩ := h
  refine And.intro k14 ?_
  obtain ⟨k15, h⟩ := h
  obtain ⟨k16, h⟩ := h
  refine And.intro (And.intro k15 k16) ?_
  intro μ_5 e_μ_5
  replace h := h μ_5 e_μ_5
  exact g_X12_keeps_53 (fun _ => h)
theorem e_X12_keeps {Q X : m_Po} {v0 v1 v2 v4 v6 v8 : Int} {ε : m_E} {μ : m_M} (h : TY ε μ → i32 v1 → i64 v2 → i64 v4 → i64 v6 → i64 v8 → kd ε v0 = 11 ∧ kd ε (fn ε v0 34) = 100 ∧ (0 : Int) ≤ μ v0 35 ∧ μ v0 35 < ln ε (fn ε v0 34) ∧ ∀ μ_1 : m_M, μ_1 = st μ (fn ε v0 34) (μ v0 35) v1 → kd ε (fn ε v0 30) = 101 ∧ (0 : Int) ≤ μ_1 v0 35 ∧ μ_1 v0 35 < ln ε (fn ε v0 30) ∧ ∀ μ_2 : m_M, μ_2 = st μ_1 (fn ε v0 30) (μ_1 v0 35) v2 → kd ε (fn ε v0 31) = 101 ∧ (0 : Int) ≤ μ_2 v0 35 ∧ μ_2 v0 35 < ln ε (fn ε v0 31) ∧ ∀ μ_3 : m_M, μ_3 = st μ_2 (fn ε v0 31) (μ_2 v0 35) v4 → kd ε (fn ε v0 32) = 101 ∧ (0 : Int) ≤ μ_3 v0 35 ∧ μ_3 v0 35 < ln ε (fn ε v0 32) ∧ ∀ μ_4 : m_M, μ_4 = st μ_3 (fn ε v0 32) (μ_3 v0 35) v6 → kd ε (fn ε v0 33) = 101 ∧ (0 : Int) ≤ μ_4 v0 35 ∧ μ_4 v0 35 < ln ε (fn ε v0 33) ∧ ∀ μ_5 : m_M, μ_5 = st μ_4 (fn ε v0 33) (μ_4 v0 35) v8 → kd ε v0 = 11 ∧ ∀ μ_6 : m_M, μ_6 = st μ_5 v0 35 (w32 ((μ_5 v0 35) + 1)) → Q 0 ε μ_6) : o_X12_keeps [(2, v0), (0, v1), (1, v2), (1, v4), (1, v6), (1, v8)] ε μ Q X := And.intro rfl (g_X12_keeps_0 h)
/-! ArchYardModel.point(IJJJJJJ)V -/
set_option maxRecDepth 20000 in
theorem g_X12_point_43 {Q X : m_Po} {ε : m_E} {μ : m_M} (h : TY ε μ → Q 0 ε μ) : G cd_X12_point Q X 43 [] [] ε μ := by
  refine G_run (m_in [43]) 3 _ _ _ _ ?_
  show m_ty [] [] ε μ → Q 0 ε μ
  intro hty
  replace h := h hty.1 
  exact h
set_option maxRecDepth 20000 in
theorem g_X12_point_0 {Q X : m_Po} {v0 v1 v2 v4 v6 v8 v10 v12 : Int} {ε : m_E} {μ : m_M} (h : TY ε μ → i32 v1 → i64 v2 → i64 v4 → i64 v6 → i64 v8 → i64 v10 → i64 v12 → kd ε v0 = 11 ∧ o_X12_keeps [(2, v0), (0, v1), (1, w64 ((w64 (v2 * 10)) * v6)), (1, w64 ((w64 ((w64 (-v2)) * 10)) * v4)), (1, w64 (v2 * v8)), (1, w64 (v2 * (w64 ((w64 ((w64 (10 * v4)) * v10)) - (w64 (v8 * v12))))))] ε μ (fun z ε_1 μ_1 => G cd_X12_point Q X 43 [] [] ε_1 μ_1) m_F) : G cd_X12_point Q X 0 [(0, (2, v0)), (1, (0, v1)), (2, (1, v2)), (4, (1, v4)), (6, (1, v6)), (8, (1, v8)), (10, (1, v10)), (12, (1, v12))] [] ε μ := by
  refine G_run (m_in [43]) 3 _ _ _ _ ?_
  show m_ty [(0, (2, v0)), (1, (0, v1)), (2, (1, v2)), (4, (1, v4)), (6, (1, v6)), (8, (1, v8)), (10, (1, v10)), (12, (1, v12))] [] ε μ → (kd ε v0 = 11) ∧ o_X12_keeps [(2, v0), (0, v1), (1, w64 ((w64 (v2 * 10)) * v6)), (1, w64 ((w64 ((w64 (-v2)) * 10)) * v4)), (1, w64 (v2 * v8)), (1, w64 (v2 * (w64 ((w64 ((w64 (10 * v4)) * v10)) - (w64 (v8 * v12))))))] ε μ (fun z ε_1 μ_1 => G cd_X12_point Q X 43 [] [] ε_1 μ_1) m_F
  intro hty
  replace h := h hty.1 (hty.2.1 _ (List.mem_of_getElem? (i := 1) rfl)) (hty.2.1 _ (List.mem_of_getElem? (i := 2) rfl)) (hty.2.1 _ (List.mem_of_getElem? (i := 3) rfl)) (hty.2.1 _ (List.mem_of_getElem? (i := 4) rfl)) (hty.2.1 _ (List.mem_of_getElem? (i := 5) rfl)) (hty.2.1 _ (List.mem_of_getElem? (i := 6) rfl)) (hty.2.1 _ (List.mem_of_getElem? (i := 7) rfl))
  obtain ⟨k1, h⟩ := h
  refine And.intro k1 ?_
  exact h
theorem e_X12_point {Q X : m_Po} {v0 v1 v2 v4 v6 v8 v10 v12 : Int} {ε : m_E} {μ : m_M} (h : TY ε μ → i32 v1 → i64 v2 → i64 v4 → i64 v6 → i64 v8 → i64 v10 → i64 v12 → kd ε v0 = 11 ∧ o_X12_keeps [(2, v0), (0, v1), (1, w64 ((w64 (v2 * 10)) * v6)), (1, w64 ((w64 ((w64 (-v2)) * 10)) * v4)), (1, w64 (v2 * v8)), (1, w64 (v2 * (w64 ((w64 ((w64 (10 * v4)) * v10)) - (w64 (v8 * v12))))))] ε μ (fun z ε_1 μ_1 => G cd_X12_point Q X 43 [] [] ε_1 μ_1) m_F) : o_X12_point [(2, v0), (0, v1), (1, v2), (1, v4), (1, v6), (1, v8), (1, v10), (1, v12)] ε μ Q X := And.intro rfl (g_X12_point_0 h)
/-! ArchYardModel.leans(IJJJJJ)V -/
set_option maxRecDepth 20000 in
theorem g_X12_leans_84 {Q X : m_Po} {ε : m_E} {μ : m_M} (h : TY ε μ → Q 0 ε μ) : G cd_X12_leans Q X 84 [] [] ε μ := by
  refine G_run (m_in [25, 50, 66, 84]) 6 _ _ _ _ ?_
  show m_ty [] [] ε μ → Q 0 ε μ
  intro hty
  replace h := h hty.1 
  exact h
set_option maxRecDepth 20000 in
theorem g_X12_leans_66 {Q X : m_Po} {v0 v1 v10 v16 v18 : Int} {ε : m_E} {μ : m_M} (h : TY ε μ → i32 v1 → i64 v10 → i64 v16 → i64 v18 → kd ε v0 = 11 ∧ o_X12_keeps [(2, v0), (0, w32 (v1 + 1)), (1, v16), (1, v18), (1, 0), (1, w64 ((w64 (-v18)) * v10))] ε μ (fun z ε_1 μ_1 => G cd_X12_leans Q X 84 [] [] ε_1 μ_1) m_F) : G cd_X12_leans Q X 66 [(0, (2, v0)), (1, (0, v1)), (10, (1, v10)), (16, (1, v16)), (18, (1, v18))] [] ε μ := by
  refine G_run (m_in [25, 50, 66, 84]) 6 _ _ _ _ ?_
  show m_ty [(0, (2, v0)), (1, (0, v1)), (10, (1, v10)), (16, (1, v16)), (18, (1, v18))] [] ε μ → (kd ε v0 = 11) ∧ o_X12_keeps [(2, v0), (0, w32 (v1 + 1)), (1, v16), (1, v18), (1, 0), (1, w64 ((w64 (-v18)) * v10))] ε μ (fun z ε_1 μ_1 => G cd_X12_leans Q X 84 [] [] ε_1 μ_1) m_F
  intro hty
  replace h := h hty.1 (hty.2.1 _ (List.mem_of_getElem? (i := 1) rfl)) (hty.2.1 _ (List.mem_of_getElem? (i := 2) rfl)) (hty.2.1 _ (List.mem_of_getElem? (i := 3) rfl)) (hty.2.1 _ (List.mem_of_getElem? (i := 4) rfl))
  obtain ⟨k1, h⟩ := h
  refine And.intro k1 ?_
  exact h
set_option maxRecDepth 20000 in
theorem g_X12_leans_50 {Q X : m_Po} {v0 v1 v10 v12 v14 v16 v18 : Int} {ε : m_E} {μ : m_M} (h : TY ε μ → i32 v1 → i64 v10 → i64 v12 → i64 v14 → i64 v16 → i64 v18 → kd ε v0 = 11 ∧ o_X12_keeps [(2, v0), (0, v1), (1, v12), (1, v14), (1, 0), (1, w64 ((w64 (-v14)) * v10))] ε μ (fun z ε_1 μ_1 => G cd_X12_leans Q X 66 [(0, (2, v0)), (1, (0, v1)), (10, (1, v10)), (16, (1, v16)), (18, (1, v18))] [] ε_1 μ_1) m_F) : G cd_X12_leans Q X 50 [(0, (2, v0)), (1, (0, v1)), (10, (1, v10)), (12, (1, v12)), (14, (1, v14)), (16, (1, v16)), (18, (1, v18))] [] ε μ := by
  refine G_run (m_in [25, 50, 66, 84]) 6 _ _ _ _ ?_
  show m_ty [(0, (2, v0)), (1, (0, v1)), (10, (1, v10)), (12, (1, v12)), (14, (1, v14)), (16, (1, v16)), (18, (1, v18))] [] ε μ → (kd ε v0 = 11) ∧ o_X12_keeps [(2, v0), (0, v1), (1, v12), (1, v14), (1, 0), (1, w64 ((w64 (-v14)) * v10))] ε μ (fun z ε_1 μ_1 => G cd_X12_leans Q X 66 [(0, (2, v0)), (1, (0, v1)), (10, (1, v10)), (16, (1, v16)), (18, (1, v18))] [] ε_1 μ_1) m_F
  intro hty
  replace h := h hty.1 (hty.2.1 _ (List.mem_of_getElem? (i := 1) rfl)) (hty.2.1 _ (List.mem_of_getElem? (i := 2) rfl)) (hty.2.1 _ (List.mem_of_getElem? (i := 3) rfl)) (hty.2.1 _ (List.mem_of_getElem? (i := 4) rfl)) (hty.2.1 _ (List.mem_of_getElem? (i := 5) rfl)) (hty.2.1 _ (List.mem_of_getElem? (i := 6) rfl))
  obtain ⟨k1, h⟩ := h
  refine And.intro k1 ?_
  exact h
set_option maxRecDepth 20000 in
theorem g_X12_leans_25 {Q X : m_Po} {v0 v1 v2 v4 v6 v8 v10 v12 v14 : Int} {ε : m_E} {μ : m_M} (h : TY ε μ → i32 v1 → i64 v2 → i64 v4 → i64 v6 → i64 v8 → i64 v10 → i64 v12 → i64 v14 → ∀ v16 : Int, v16 = w64 ((w64 (v2 * v8)) + (w64 (v4 * v6))) → ∀ v18 : Int, v18 = w64 ((w64 ((w64 (-v2)) * v6)) + (w64 (v4 * v8))) → kd ε v0 = 11 ∧ o_X12_keeps [(2, v0), (0, v1), (1, v12), (1, v14), (1, 0), (1, w64 ((w64 (-v14)) * v10))] ε μ (fun z ε_1 μ_1 => G cd_X12_leans Q X 66 [(0, (2, v0)), (1, (0, v1)), (10, (1, v10)), (16, (1, v16)), (18, (1, v18))] [] ε_1 μ_1) m_F) : G cd_X12_leans Q X 25 [(0, (2, v0)), (1, (0, v1)), (2, (1, v2)), (4, (1, v4)), (6, (1, v6)), (8, (1, v8)), (10, (1, v10)), (12, (1, v12)), (14, (1, v14))] [] ε μ := by
  refine G_run (m_in [25, 50, 66, 84]) 6 _ _ _ _ ?_
  show m_ty [(0, (2, v0)), (1, (0, v1)), (2, (1, v2)), (4, (1, v4)), (6, (1, v6)), (8, (1, v8)), (10, (1, v10)), (12, (1, v12)), (14, (1, v14))] [] ε μ → ∀ v16 : Int, v16 = w64 ((w64 (v2 * v8)) + (w64 (v4 * v6))) → ∀ v18 : Int, v18 = w64 ((w64 ((w64 (-v2)) * v6)) + (w64 (v4 * v8))) → G cd_X12_leans Q X 50 [(0, (2, v0)), (1, (0, v1)), (10, (1, v10)), (12, (1, v12)), (14, (1, v14)), (16, (1, v16)), (18, (1, v18))] [] ε μ
  intro hty
  replace h := h hty.1 (hty.2.1 _ (List.mem_of_getElem? (i := 1) rfl)) (hty.2.1 _ (List.mem_of_getElem? (i := 2) rfl)) (hty.2.1 _ (List.mem_of_getElem? (i := 3) rfl)) (hty.2.1 _ (List.mem_of_getElem? (i := 4) rfl)) (hty.2.1 _ (List.mem_of_getElem? (i := 5) rfl)) (hty.2.1 _ (List.mem_of_getElem? (i := 6) rfl)) (hty.2.1 _ (List.mem_of_getElem? (i := 7) rfl)) (hty.2.1 _ (List.mem_of_getElem? (i := 8) rfl))
  intro v16 e_v16
  replace h := h v16 e_v16
  intro v18 e_v18
  replace h := h v18 e_v18
  exact g_X12_leans_50 (fun _ _ _ _ _ _ _ => h)
set_option maxRecDepth 20000 in
theorem g_X12_leans_0 {Q X : m_Po} {v0 v1 v2 v4 v6 v8 v10 : Int} {ε : m_E} {μ : m_M} (h : TY ε μ → i32 v1 → i64 v2 → i64 v4 → i64 v6 → i64 v8 → i64 v10 → ∀ v12 : Int, v12 = w64 ((w64 (v2 * v8)) - (w64 (v4 * v6))) → ∀ v14 : Int, v14 = w64 ((w64 ((w64 (-v2)) * v6)) - (w64 (v4 * v8))) → ∀ v16 : Int, v16 = w64 ((w64 (v2 * v8)) + (w64 (v4 * v6))) → ∀ v18 : Int, v18 = w64 ((w64 ((w64 (-v2)) * v6)) + (w64 (v4 * v8))) → kd ε v0 = 11 ∧ o_X12_keeps [(2, v0), (0, v1), (1, v12), (1, v14), (1, 0), (1, w64 ((w64 (-v14)) * v10))] ε μ (fun z ε_1 μ_1 => G cd_X12_leans Q X 66 [(0, (2, v0)), (1, (0, v1)), (10, (1, v10)), (16, (1, v16)), (18, (1, v18))] [] ε_1 μ_1) m_F) : G cd_X12_leans Q X 0 [(0, (2, v0)), (1, (0, v1)), (2, (1, v2)), (4, (1, v4)), (6, (1, v6)), (8, (1, v8)), (10, (1, v10))] [] ε μ := by
  refine G_run (m_in [25, 50, 66, 84]) 6 _ _ _ _ ?_
  show m_ty [(0, (2, v0)), (1, (0, v1)), (2, (1, v2)), (4, (1, v4)), (6, (1, v6)), (8, (1, v8)), (10, (1, v10))] [] ε μ → ∀ v12 : Int, v12 = w64 ((w64 (v2 * v8)) - (w64 (v4 * v6))) → ∀ v14 : Int, v14 = w64 ((w64 ((w64 (-v2)) * v6)) - (w64 (v4 * v8))) → G cd_X12_leans Q X 25 [(0, (2, v0)), (1, (0, v1)), (2, (1, v2)), (4, (1, v4)), (6, (1, v6)), (8, (1, v8)), (10, (1, v10)), (12, (1, v12)), (14, (1, v14))] [] ε μ
  intro hty
  replace h := h hty.1 (hty.2.1 _ (List.mem_of_getElem? (i := 1) rfl)) (hty.2.1 _ (List.mem_of_getElem? (i := 2) rfl)) (hty.2.1 _ (List.mem_of_getElem? (i := 3) rfl)) (hty.2.1 _ (List.mem_of_getElem? (i := 4) rfl)) (hty.2.1 _ (List.mem_of_getElem? (i := 5) rfl)) (hty.2.1 _ (List.mem_of_getElem? (i := 6) rfl))
  intro v12 e_v12
  replace h := h v12 e_v12
  intro v14 e_v14
  replace h := h v14 e_v14
  exact g_X12_leans_25 (fun _ _ _ _ _ _ _ _ _ => h)
theorem e_X12_leans {Q X : m_Po} {v0 v1 v2 v4 v6 v8 v10 : Int} {ε : m_E} {μ : m_M} (h : TY ε μ → i32 v1 → i64 v2 → i64 v4 → i64 v6 → i64 v8 → i64 v10 → ∀ v12 : Int, v12 = w64 ((w64 (v2 * v8)) - (w64 (v4 * v6))) → ∀ v14 : Int, v14 = w64 ((w64 ((w64 (-v2)) * v6)) - (w64 (v4 * v8))) → ∀ v16 : Int, v16 = w64 ((w64 (v2 * v8)) + (w64 (v4 * v6))) → ∀ v18 : Int, v18 = w64 ((w64 ((w64 (-v2)) * v6)) + (w64 (v4 * v8))) → kd ε v0 = 11 ∧ o_X12_keeps [(2, v0), (0, v1), (1, v12), (1, v14), (1, 0), (1, w64 ((w64 (-v14)) * v10))] ε μ (fun z ε_1 μ_1 => G cd_X12_leans Q X 66 [(0, (2, v0)), (1, (0, v1)), (10, (1, v10)), (16, (1, v16)), (18, (1, v18))] [] ε_1 μ_1) m_F) : o_X12_leans [(2, v0), (0, v1), (1, v2), (1, v4), (1, v6), (1, v8), (1, v10)] ε μ Q X := And.intro rfl (g_X12_leans_0 h)
/-! ArchYardModel.tells(IIIZZI)V -/
set_option maxRecDepth 20000 in
theorem g_X12_tells_573 {Q X : m_Po} {ε : m_E} {μ : m_M} (h : TY ε μ → Q 0 ε μ) : G cd_X12_tells Q X 573 [] [] ε μ := by
  refine G_run (m_in [11, 14, 48, 76, 85, 96, 100, 105, 131, 174, 221, 266, 277, 281, 301, 305, 309, 310, 358, 394, 422, 493, 499, 527, 543, 557, 573]) 53 _ _ _ _ ?_
  show m_ty [] [] ε μ → Q 0 ε μ
  intro hty
  replace h := h hty.1 
  exact h
set_option maxRecDepth 20000 in
theorem g_X12_tells_557 {Q X : m_Po} {v0 v11 : Int} {ε : m_E} {μ : m_M} (h : TY ε μ → i32 v11 → kd ε v0 = 11 ∧ o_X12_keeps [(2, v0), (0, w32 (v11 + 3)), (1, 0), (1, (-1)), (1, 0), (1, 1000000000)] ε μ (fun z ε_1 μ_1 => G cd_X12_tells Q X 573 [] [] ε_1 μ_1) m_F) : G cd_X12_tells Q X 557 [(0, (2, v0)), (11, (0, v11))] [] ε μ := by
  refine G_run (m_in [11, 14, 48, 76, 85, 96, 100, 105, 131, 174, 221, 266, 277, 281, 301, 305, 309, 310, 358, 394, 422, 493, 499, 527, 543, 557, 573]) 53 _ _ _ _ ?_
  show m_ty [(0, (2, v0)), (11, (0, v11))] [] ε μ → (kd ε v0 = 11) ∧ o_X12_keeps [(2, v0), (0, w32 (v11 + 3)), (1, 0), (1, (-1)), (1, 0), (1, 1000000000)] ε μ (fun z ε_1 μ_1 => G cd_X12_tells Q X 573 [] [] ε_1 μ_1) m_F
  intro hty
  replace h := h hty.1 (hty.2.1 _ (List.mem_of_getElem? (i := 1) rfl))
  obtain ⟨k1, h⟩ := h
  refine And.intro k1 ?_
  exact h
set_option maxRecDepth 20000 in
theorem g_X12_tells_543 {Q X : m_Po} {v0 v11 : Int} {ε : m_E} {μ : m_M} (h : TY ε μ → i32 v11 → kd ε v0 = 11 ∧ o_X12_keeps [(2, v0), (0, w32 (v11 + 2)), (1, 0), (1, 1), (1, 0), (1, 1000000000)] ε μ (fun z ε_1 μ_1 => G cd_X12_tells Q X 557 [(0, (2, v0)), (11, (0, v11))] [] ε_1 μ_1) m_F) : G cd_X12_tells Q X 543 [(0, (2, v0)), (11, (0, v11))] [] ε μ := by
  refine G_run (m_in [11, 14, 48, 76, 85, 96, 100, 105, 131, 174, 221, 266, 277, 281, 301, 305, 309, 310, 358, 394, 422, 493, 499, 527, 543, 557, 573]) 53 _ _ _ _ ?_
  show m_ty [(0, (2, v0)), (11, (0, v11))] [] ε μ → (kd ε v0 = 11) ∧ o_X12_keeps [(2, v0), (0, w32 (v11 + 2)), (1, 0), (1, 1), (1, 0), (1, 1000000000)] ε μ (fun z ε_1 μ_1 => G cd_X12_tells Q X 557 [(0, (2, v0)), (11, (0, v11))] [] ε_1 μ_1) m_F
  intro hty
  replace h := h hty.1 (hty.2.1 _ (List.mem_of_getElem? (i := 1) rfl))
  obtain ⟨k1, h⟩ := h
  refine And.intro k1 ?_
  exact h
set_option maxRecDepth 20000 in
theorem g_X12_tells_527 {Q X : m_Po} {v0 v11 : Int} {ε : m_E} {μ : m_M} (h : TY ε μ → i32 v11 → kd ε v0 = 11 ∧ o_X12_keeps [(2, v0), (0, w32 (v11 + 1)), (1, (-1)), (1, 0), (1, 0), (1, 1000000000)] ε μ (fun z ε_1 μ_1 => G cd_X12_tells Q X 543 [(0, (2, v0)), (11, (0, v11))] [] ε_1 μ_1) m_F) : G cd_X12_tells Q X 527 [(0, (2, v0)), (11, (0, v11))] [] ε μ := by
  refine G_run (m_in [11, 14, 48, 76, 85, 96, 100, 105, 131, 174, 221, 266, 277, 281, 301, 305, 309, 310, 358, 394, 422, 493, 499, 527, 543, 557, 573]) 53 _ _ _ _ ?_
  show m_ty [(0, (2, v0)), (11, (0, v11))] [] ε μ → (kd ε v0 = 11) ∧ o_X12_keeps [(2, v0), (0, w32 (v11 + 1)), (1, (-1)), (1, 0), (1, 0), (1, 1000000000)] ε μ (fun z ε_1 μ_1 => G cd_X12_tells Q X 543 [(0, (2, v0)), (11, (0, v11))] [] ε_1 μ_1) m_F
  intro hty
  replace h := h hty.1 (hty.2.1 _ (List.mem_of_getElem? (i := 1) rfl))
  obtain ⟨k1, h⟩ := h
  refine And.intro k1 ?_
  exact h
set_option maxRecDepth 20000 in
theorem g_X12_tells_499 {Q X : m_Po} {v0 v1 v3 v4 v5 v6 v7 v9 v11 : Int} {ε : m_E} {μ : m_M} (h : TY ε μ → i32 v1 → i32 v3 → i32 v4 → i32 v5 → i32 v6 → i64 v7 → i64 v9 → i32 v11 → ∀ v11_1 : Int, v11_1 = w32 (v11 + 1) → G cd_X12_tells Q X 14 [(0, (2, v0)), (1, (0, v1)), (3, (0, v3)), (4, (0, v4)), (5, (0, v5)), (6, (0, v6)), (7, (1, v7)), (9, (1, v9)), (11, (0, v11_1))] [] ε μ) : G cd_X12_tells Q X 499 [(0, (2, v0)), (1, (0, v1)), (3, (0, v3)), (4, (0, v4)), (5, (0, v5)), (6, (0, v6)), (7, (1, v7)), (9, (1, v9)), (11, (0, v11))] [] ε μ := by
  refine G_run (m_in [11, 14, 48, 76, 85, 96, 100, 105, 131, 174, 221, 266, 277, 281, 301, 305, 309, 310, 358, 394, 422, 493, 499, 527, 543, 557, 573]) 53 _ _ _ _ ?_
  show m_ty [(0, (2, v0)), (1, (0, v1)), (3, (0, v3)), (4, (0, v4)), (5, (0, v5)), (6, (0, v6)), (7, (1, v7)), (9, (1, v9)), (11, (0, v11))] [] ε μ → ∀ v11_1 : Int, v11_1 = w32 (v11 + 1) → G cd_X12_tells Q X 14 [(0, (2, v0)), (1, (0, v1)), (3, (0, v3)), (4, (0, v4)), (5, (0, v5)), (6, (0, v6)), (7, (1, v7)), (9, (1, v9)), (11, (0, v11_1))] [] ε μ
  intro hty
  replace h := h hty.1 (hty.2.1 _ (List.mem_of_getElem? (i := 1) rfl)) (hty.2.1 _ (List.mem_of_getElem? (i := 2) rfl)) (hty.2.1 _ (List.mem_of_getElem? (i := 3) rfl)) (hty.2.1 _ (List.mem_of_getElem? (i := 4) rfl)) (hty.2.1 _ (List.mem_of_getElem? (i := 5) rfl)) (hty.2.1 _ (List.mem_of_getElem? (i := 6) rfl)) (hty.2.1 _ (List.mem_of_getElem? (i := 7) rfl)) (hty.2.1 _ (List.mem_of_getElem? (i := 8) rfl))
  intro v11_1 e_v11_1
  replace h := h v11_1 e_v11_1
  exact h
set_option maxRecDepth 20000 in
theorem g_X12_tells_493 {Q X : m_Po} {v0 v1 v3 v4 v5 v6 v7 v9 v11 v27 : Int} {ε : m_E} {μ : m_M} (h : TY ε μ → i32 v1 → i32 v3 → i32 v4 → i32 v5 → i32 v6 → i64 v7 → i64 v9 → i32 v11 → i32 v27 → ∀ v27_1 : Int, v27_1 = w32 (v27 + 1) → G cd_X12_tells Q X 422 [(0, (2, v0)), (1, (0, v1)), (3, (0, v3)), (4, (0, v4)), (5, (0, v5)), (6, (0, v6)), (7, (1, v7)), (9, (1, v9)), (11, (0, v11)), (27, (0, v27_1))] [] ε μ) : G cd_X12_tells Q X 493 [(0, (2, v0)), (1, (0, v1)), (3, (0, v3)), (4, (0, v4)), (5, (0, v5)), (6, (0, v6)), (7, (1, v7)), (9, (1, v9)), (11, (0, v11)), (27, (0, v27))] [] ε μ := by
  refine G_run (m_in [11, 14, 48, 76, 85, 96, 100, 105, 131, 174, 221, 266, 277, 281, 301, 305, 309, 310, 358, 394, 422, 493, 499, 527, 543, 557, 573]) 53 _ _ _ _ ?_
  show m_ty [(0, (2, v0)), (1, (0, v1)), (3, (0, v3)), (4, (0, v4)), (5, (0, v5)), (6, (0, v6)), (7, (1, v7)), (9, (1, v9)), (11, (0, v11)), (27, (0, v27))] [] ε μ → ∀ v27_1 : Int, v27_1 = w32 (v27 + 1) → G cd_X12_tells Q X 422 [(0, (2, v0)), (1, (0, v1)), (3, (0, v3)), (4, (0, v4)), (5, (0, v5)), (6, (0, v6)), (7, (1, v7)), (9, (1, v9)), (11, (0, v11)), (27, (0, v27_1))] [] ε μ
  intro hty
  replace h := h hty.1 (hty.2.1 _ (List.mem_of_getElem? (i := 1) rfl)) (hty.2.1 _ (List.mem_of_getElem? (i := 2) rfl)) (hty.2.1 _ (List.mem_of_getElem? (i := 3) rfl)) (hty.2.1 _ (List.mem_of_getElem? (i := 4) rfl)) (hty.2.1 _ (List.mem_of_getElem? (i := 5) rfl)) (hty.2.1 _ (List.mem_of_getElem? (i := 6) rfl)) (hty.2.1 _ (List.mem_of_getElem? (i := 7) rfl)) (hty.2.1 _ (List.mem_of_getElem? (i := 8) rfl)) (hty.2.1 _ (List.mem_of_getElem? (i := 9) rfl))
  intro v27_1 e_v27_1
  replace h := h v27_1 e_v27_1
  exact h
set_option maxRecDepth 20000 in
theorem g_X12_tells_422 {Q X : m_Po} {v0 v1 v3 v4 v5 v6 v7 v9 v11 v27 : Int} {ε : m_E} {μ : m_M} (h : TY ε μ → i32 v1 → i32 v3 → i32 v4 → i32 v5 → i32 v6 → i64 v7 → i64 v9 → i32 v11 → i32 v27 → kd ε v0 = 11 ∧ kd ε (fn ε v0 21) = 100 ∧ (0 : Int) ≤ v1 ∧ v1 < ln ε (fn ε v0 21) ∧ ((w32 ((w32 (6 * v1)) + (μ (fn ε v0 21) v1))) ≤ v27 → G cd_X12_tells Q X 499 [(0, (2, v0)), (1, (0, v1)), (3, (0, v3)), (4, (0, v4)), (5, (0, v5)), (6, (0, v6)), (7, (1, v7)), (9, (1, v9)), (11, (0, v11))] [] ε μ) ∧ (v27 < (w32 ((w32 (6 * v1)) + (μ (fn ε v0 21) v1))) → (v5 = 0 → G cd_X12_tells Q X 499 [(0, (2, v0)), (1, (0, v1)), (3, (0, v3)), (4, (0, v4)), (5, (0, v5)), (6, (0, v6)), (7, (1, v7)), (9, (1, v9)), (11, (0, v11))] [] ε μ) ∧ (v5 ≠ 0 → kd ε (fn ε v0 22) = 100 ∧ (0 : Int) ≤ v27 ∧ v27 < ln ε (fn ε v0 22) ∧ (((μ (fn ε v0 22) v27) = v11 → kd ε (fn ε v0 24) = 100 ∧ v27 < ln ε (fn ε v0 24) ∧ kd ε (fn ε v0 23) = 100 ∧ v27 < ln ε (fn ε v0 23))) ∧ ∀ v7_2 : Int, v7_2 = (if (μ (fn ε v0 22) v27) = v11 then (w64 (v7 + (μ (fn ε v0 24) v27))) else v7) → ∀ v9_2 : Int, v9_2 = (if (μ (fn ε v0 22) v27) = v11 then (w64 (v9 + (w64 ((μ (fn ε v0 24) v27) * (μ (fn ε v0 23) v27))))) else v9) → ∀ v27_1 : Int, v27_1 = w32 (v27 + 1) → G cd_X12_tells Q X 422 [(0, (2, v0)), (1, (0, v1)), (3, (0, v3)), (4, (0, v4)), (5, (0, v5)), (6, (0, v6)), (7, (1, v7_2)), (9, (1, v9_2)), (11, (0, v11)), (27, (0, v27_1))] [] ε μ))) : G cd_X12_tells Q X 422 [(0, (2, v0)), (1, (0, v1)), (3, (0, v3)), (4, (0, v4)), (5, (0, v5)), (6, (0, v6)), (7, (1, v7)), (9, (1, v9)), (11, (0, v11)), (27, (0, v27))] [] ε μ := by
  refine G_run (m_in [11, 14, 48, 76, 85, 96, 100, 105, 131, 174, 221, 266, 277, 281, 301, 305, 309, 310, 358, 394, 422, 493, 499, 527, 543, 557, 573]) 53 _ _ _ _ ?_
  show m_ty [(0, (2, v0)), (1, (0, v1)), (3, (0, v3)), (4, (0, v4)), (5, (0, v5)), (6, (0, v6)), (7, (1, v7)), (9, (1, v9)), (11, (0, v11)), (27, (0, v27))] [] ε μ → (kd ε v0 = 11) ∧ (kd ε (fn ε v0 21) = 100) ∧ ((0 : Int) ≤ v1 ∧ v1 < ln ε (fn ε v0 21)) ∧ ((w32 ((w32 (6 * v1)) + (μ (fn ε v0 21) v1))) ≤ v27 → G cd_X12_tells Q X 499 [(0, (2, v0)), (1, (0, v1)), (3, (0, v3)), (4, (0, v4)), (5, (0, v5)), (6, (0, v6)), (7, (1, v7)), (9, (1, v9)), (11, (0, v11))] [] ε μ) ∧ (v27 < (w32 ((w32 (6 * v1)) + (μ (fn ε v0 21) v1))) → (m_ty [(0, (2, v0)), (1, (0, v1)), (3, (0, v3)), (4, (0, v4)), (5, (0, v5)), (6, (0, v6)), (7, (1, v7)), (9, (1, v9)), (11, (0, v11)), (27, (0, v27))] [] ε μ → (v5 = 0 → G cd_X12_tells Q X 499 [(0, (2, v0)), (1, (0, v1)), (3, (0, v3)), (4, (0, v4)), (5, (0, v5)), (6, (0, v6)), (7, (1, v7)), (9, (1, v9)), (11, (0, v11))] [] ε μ) ∧ (v5 ≠ 0 → (m_ty [(0, (2, v0)), (1, (0, v1)), (3, (0, v3)), (4, (0, v4)), (5, (0, v5)), (6, (0, v6)), (7, (1, v7)), (9, (1, v9)), (11, (0, v11)), (27, (0, v27))] [] ε μ → (kd ε v0 = 11) ∧ (kd ε (fn ε v0 22) = 100) ∧ ((0 : Int) ≤ v27 ∧ v27 < ln ε (fn ε v0 22)) ∧ ((μ (fn ε v0 22) v27) = v11 → (m_ty [(0, (2, v0)), (1, (0, v1)), (3, (0, v3)), (4, (0, v4)), (5, (0, v5)), (6, (0, v6)), (7, (1, v7)), (9, (1, v9)), (11, (0, v11)), (27, (0, v27))] [] ε μ → (kd ε v0 = 11) ∧ (kd ε (fn ε v0 24) = 100) ∧ ((0 : Int) ≤ v27 ∧ v27 < ln ε (fn ε v0 24)) ∧ ∀ v7_1 : Int, v7_1 = w64 (v7 + (μ (fn ε v0 24) v27)) → (kd ε v0 = 11) ∧ (kd ε (fn ε v0 24) = 100) ∧ ((0 : Int) ≤ v27 ∧ v27 < ln ε (fn ε v0 24)) ∧ (kd ε v0 = 11) ∧ (kd ε (fn ε v0 23) = 100) ∧ ((0 : Int) ≤ v27 ∧ v27 < ln ε (fn ε v0 23)) ∧ ∀ v9_1 : Int, v9_1 = w64 (v9 + (w64 ((μ (fn ε v0 24) v27) * (μ (fn ε v0 23) v27)))) → G cd_X12_tells Q X 493 [(0, (2, v0)), (1, (0, v1)), (3, (0, v3)), (4, (0, v4)), (5, (0, v5)), (6, (0, v6)), (7, (1, v7_1)), (9, (1, v9_1)), (11, (0, v11)), (27, (0, v27))] [] ε μ)) ∧ ((μ (fn ε v0 22) v27) ≠ v11 → (m_ty [(0, (2, v0)), (1, (0, v1)), (3, (0, v3)), (4, (0, v4)), (5, (0, v5)), (6, (0, v6)), (7, (1, v7)), (9, (1, v9)), (11, (0, v11)), (27, (0, v27))] [] ε μ → G cd_X12_tells Q X 493 [(0, (2, v0)), (1, (0, v1)), (3, (0, v3)), (4, (0, v4)), (5, (0, v5)), (6, (0, v6)), (7, (1, v7)), (9, (1, v9)), (11, (0, v11)), (27, (0, v27))] [] ε μ))))))
  intro hty
  replace h := h hty.1 (hty.2.1 _ (List.mem_of_getElem? (i := 1) rfl)) (hty.2.1 _ (List.mem_of_getElem? (i := 2) rfl)) (hty.2.1 _ (List.mem_of_getElem? (i := 3) rfl)) (hty.2.1 _ (List.mem_of_getElem? (i := 4) rfl)) (hty.2.1 _ (List.mem_of_getElem? (i := 5) rfl)) (hty.2.1 _ (List.mem_of_getElem? (i := 6) rfl)) (hty.2.1 _ (List.mem_of_getElem? (i := 7) rfl)) (hty.2.1 _ (List.mem_of_getElem? (i := 8) rfl)) (hty.2.1 _ (List.mem_of_getElem? (i := 9) rfl))
  obtain ⟨k1, h⟩ := h
  refine And.intro k1 ?_
  obtain ⟨k2, h⟩ := h
  refine And.intro k2 ?_
  obtain ⟨k3, h⟩ := h
  obtain ⟨k4, h⟩ := h
  refine And.intro (And.intro k3 k4) ?_
  obtain ⟨ha, hb⟩ := h
  refine And.intro (fun c13 => ?_) (fun c13 => ?_)
  · replace h := ha c13
    clear ha hb
    exact h
  · replace h := hb c13
    clear ha hb
    intro _
    obtain ⟨ha, hb⟩ := h
    refine And.intro (fun c12 => ?_) (fun c12 => ?_)
    · replace h := ha c12
      clear ha hb
      exact h
    · replace h := hb c12
      clear ha hb
      intro _
      refine And.intro k1 ?_
      obtain ⟨k5, h⟩ := h
      refine And.intro k5 ?_
      obtain ⟨k6, h⟩ := h
      obtain ⟨k7, h⟩ := h
      refine And.intro (And.intro k6 k7) ?_
      obtain ⟨hc, hj⟩ := h
      refine And.intro (fun c7 => ?_) (fun c7 => ?_)
      · replace hc := hc c7
        intro _
        obtain ⟨k9, k10, k11, k12⟩ := hc
        refine And.intro k1 ?_
        refine And.intro k9 ?_
        refine And.intro (And.intro k6 k10) ?_
        intro v7_1 e_v7_1
        subst e_v7_1
        refine And.intro k1 ?_
        refine And.intro k9 ?_
        refine And.intro (And.intro k6 k10) ?_
        refine And.intro k1 ?_
        refine And.intro k11 ?_
        refine And.intro (And.intro k6 k12) ?_
        intro v9_1 e_v9_1
        subst e_v9_1
        exact g_X12_tells_493 (fun _ _ _ _ _ _ _ _ _ _ => (hj _ (((if_pos c7).trans rfl)).symm _ (((if_pos c7).trans rfl)).symm))
      · intro _
        exact g_X12_tells_493 (fun _ _ _ _ _ _ _ _ _ _ => (hj _ (((if_neg (c7)).trans rfl)).symm _ (((if_neg (c7)).trans rfl)).symm))
set_option maxRecDepth 20000 in
theorem g_X12_tells_394 {Q X : m_Po} {v0 v1 v3 v4 v5 v6 v7 v9 v11 v26 : Int} {ε : m_E} {μ : m_M} (h : TY ε μ → i32 v1 → i32 v3 → i32 v4 → i32 v5 → i32 v6 → i64 v7 → i64 v9 → i32 v11 → i32 v26 → kd ε v0 = 11 ∧ kd ε (fn ε v0 10) = 100 ∧ (0 : Int) ≤ v26 ∧ v26 < ln ε (fn ε v0 10) ∧ kd ε (fn ε v0 11) = 100 ∧ v26 < ln ε (fn ε v0 11) ∧ ∀ v9_1 : Int, v9_1 = w64 (v9 + (w64 ((μ (fn ε v0 10) v26) * (μ (fn ε v0 11) v26)))) → ∀ v27 : Int, v27 = w32 (6 * v1) → G cd_X12_tells Q X 422 [(0, (2, v0)), (1, (0, v1)), (3, (0, v3)), (4, (0, v4)), (5, (0, v5)), (6, (0, v6)), (7, (1, v7)), (9, (1, v9_1)), (11, (0, v11)), (27, (0, v27))] [] ε μ) : G cd_X12_tells Q X 394 [(0, (2, v0)), (1, (0, v1)), (3, (0, v3)), (4, (0, v4)), (5, (0, v5)), (6, (0, v6)), (7, (1, v7)), (9, (1, v9)), (11, (0, v11)), (26, (0, v26))] [] ε μ := by
  refine G_run (m_in [11, 14, 48, 76, 85, 96, 100, 105, 131, 174, 221, 266, 277, 281, 301, 305, 309, 310, 358, 394, 422, 493, 499, 527, 543, 557, 573]) 53 _ _ _ _ ?_
  show m_ty [(0, (2, v0)), (1, (0, v1)), (3, (0, v3)), (4, (0, v4)), (5, (0, v5)), (6, (0, v6)), (7, (1, v7)), (9, (1, v9)), (11, (0, v11)), (26, (0, v26))] [] ε μ → (kd ε v0 = 11) ∧ (kd ε (fn ε v0 10) = 100) ∧ ((0 : Int) ≤ v26 ∧ v26 < ln ε (fn ε v0 10)) ∧ (kd ε v0 = 11) ∧ (kd ε (fn ε v0 11) = 100) ∧ ((0 : Int) ≤ v26 ∧ v26 < ln ε (fn ε v0 11)) ∧ ∀ v9_1 : Int, v9_1 = w64 (v9 + (w64 ((μ (fn ε v0 10) v26) * (μ (fn ε v0 11) v26)))) → ∀ v27 : Int, v27 = w32 (6 * v1) → G cd_X12_tells Q X 422 [(0, (2, v0)), (1, (0, v1)), (3, (0, v3)), (4, (0, v4)), (5, (0, v5)), (6, (0, v6)), (7, (1, v7)), (9, (1, v9_1)), (11, (0, v11)), (27, (0, v27))] [] ε μ
  intro hty
  replace h := h hty.1 (hty.2.1 _ (List.mem_of_getElem? (i := 1) rfl)) (hty.2.1 _ (List.mem_of_getElem? (i := 2) rfl)) (hty.2.1 _ (List.mem_of_getElem? (i := 3) rfl)) (hty.2.1 _ (List.mem_of_getElem? (i := 4) rfl)) (hty.2.1 _ (List.mem_of_getElem? (i := 5) rfl)) (hty.2.1 _ (List.mem_of_getElem? (i := 6) rfl)) (hty.2.1 _ (List.mem_of_getElem? (i := 7) rfl)) (hty.2.1 _ (List.mem_of_getElem? (i := 8) rfl)) (hty.2.1 _ (List.mem_of_getElem? (i := 9) rfl))
  obtain ⟨k1, h⟩ := h
  refine And.intro k1 ?_
  obtain ⟨k2, h⟩ := h
  refine And.intro k2 ?_
  obtain ⟨k3, h⟩ := h
  obtain ⟨k4, h⟩ := h
  refine And.intro (And.intro k3 k4) ?_
  refine And.intro k1 ?_
  obtain ⟨k5, h⟩ := h
  refine And.intro k5 ?_
  obtain ⟨k6, h⟩ := h
  refine And.intro (And.intro k3 k6) ?_
  intro v9_1 e_v9_1
  replace h := h v9_1 e_v9_1
  intro v27 e_v27
  replace h := h v27 e_v27
  exact h
set_option maxRecDepth 20000 in
theorem g_X12_tells_358 {Q X : m_Po} {v0 v1 v3 v4 v5 v6 v7 v9 v11 : Int} {ε : m_E} {μ : m_M} (h : TY ε μ → i32 v1 → i32 v3 → i32 v4 → i32 v5 → i32 v6 → i64 v7 → i64 v9 → i32 v11 → (v11 ≤ v3 → kd ε v0 = 11 ∧ kd ε (fn ε v0 18) = 100 ∧ (0 : Int) ≤ w32 ((w32 (10 * v1)) + v11) ∧ w32 ((w32 (10 * v1)) + v11) < ln ε (fn ε v0 18) ∧ ∀ v26 : Int, v26 = μ (fn ε v0 18) (w32 ((w32 (10 * v1)) + v11)) → kd ε (fn ε v0 10) = 100 ∧ (0 : Int) ≤ v26 ∧ v26 < ln ε (fn ε v0 10) ∧ ∀ v7_1 : Int, v7_1 = w64 (v7 + (μ (fn ε v0 10) v26)) → kd ε v0 = 11 ∧ kd ε (fn ε v0 10) = 100 ∧ (0 : Int) ≤ v26 ∧ v26 < ln ε (fn ε v0 10) ∧ kd ε (fn ε v0 11) = 100 ∧ v26 < ln ε (fn ε v0 11) ∧ ∀ v9_1 : Int, v9_1 = w64 (v9 + (w64 ((μ (fn ε v0 10) v26) * (μ (fn ε v0 11) v26)))) → ∀ v27 : Int, v27 = w32 (6 * v1) → G cd_X12_tells Q X 422 [(0, (2, v0)), (1, (0, v1)), (3, (0, v3)), (4, (0, v4)), (5, (0, v5)), (6, (0, v6)), (7, (1, v7_1)), (9, (1, v9_1)), (11, (0, v11)), (27, (0, v27))] [] ε μ) ∧ (v3 < v11 → G cd_X12_tells Q X 499 [(0, (2, v0)), (1, (0, v1)), (3, (0, v3)), (4, (0, v4)), (5, (0, v5)), (6, (0, v6)), (7, (1, v7)), (9, (1, v9)), (11, (0, v11))] [] ε μ)) : G cd_X12_tells Q X 358 [(0, (2, v0)), (1, (0, v1)), (3, (0, v3)), (4, (0, v4)), (5, (0, v5)), (6, (0, v6)), (7, (1, v7)), (9, (1, v9)), (11, (0, v11))] [] ε μ := by
  refine G_run (m_in [11, 14, 48, 76, 85, 96, 100, 105, 131, 174, 221, 266, 277, 281, 301, 305, 309, 310, 358, 394, 422, 493, 499, 527, 543, 557, 573]) 53 _ _ _ _ ?_
  show m_ty [(0, (2, v0)), (1, (0, v1)), (3, (0, v3)), (4, (0, v4)), (5, (0, v5)), (6, (0, v6)), (7, (1, v7)), (9, (1, v9)), (11, (0, v11))] [] ε μ → (v11 ≤ v3 → (m_ty [(0, (2, v0)), (1, (0, v1)), (3, (0, v3)), (4, (0, v4)), (5, (0, v5)), (6, (0, v6)), (7, (1, v7)), (9, (1, v9)), (11, (0, v11))] [] ε μ → (kd ε v0 = 11) ∧ (kd ε (fn ε v0 18) = 100) ∧ ((0 : Int) ≤ w32 ((w32 (10 * v1)) + v11) ∧ w32 ((w32 (10 * v1)) + v11) < ln ε (fn ε v0 18)) ∧ ∀ v26 : Int, v26 = μ (fn ε v0 18) (w32 ((w32 (10 * v1)) + v11)) → (kd ε v0 = 11) ∧ (kd ε (fn ε v0 10) = 100) ∧ ((0 : Int) ≤ v26 ∧ v26 < ln ε (fn ε v0 10)) ∧ ∀ v7_1 : Int, v7_1 = w64 (v7 + (μ (fn ε v0 10) v26)) → G cd_X12_tells Q X 394 [(0, (2, v0)), (1, (0, v1)), (3, (0, v3)), (4, (0, v4)), (5, (0, v5)), (6, (0, v6)), (7, (1, v7_1)), (9, (1, v9)), (11, (0, v11)), (26, (0, v26))] [] ε μ)) ∧ (v3 < v11 → (m_ty [(0, (2, v0)), (1, (0, v1)), (3, (0, v3)), (4, (0, v4)), (5, (0, v5)), (6, (0, v6)), (7, (1, v7)), (9, (1, v9)), (11, (0, v11))] [] ε μ → G cd_X12_tells Q X 499 [(0, (2, v0)), (1, (0, v1)), (3, (0, v3)), (4, (0, v4)), (5, (0, v5)), (6, (0, v6)), (7, (1, v7)), (9, (1, v9)), (11, (0, v11))] [] ε μ))
  intro hty
  replace h := h hty.1 (hty.2.1 _ (List.mem_of_getElem? (i := 1) rfl)) (hty.2.1 _ (List.mem_of_getElem? (i := 2) rfl)) (hty.2.1 _ (List.mem_of_getElem? (i := 3) rfl)) (hty.2.1 _ (List.mem_of_getElem? (i := 4) rfl)) (hty.2.1 _ (List.mem_of_getElem? (i := 5) rfl)) (hty.2.1 _ (List.mem_of_getElem? (i := 6) rfl)) (hty.2.1 _ (List.mem_of_getElem? (i := 7) rfl)) (hty.2.1 _ (List.mem_of_getElem? (i := 8) rfl))
  obtain ⟨ha, hb⟩ := h
  refine And.intro (fun c13 => ?_) (fun c13 => ?_)
  · replace h := ha c13
    clear ha hb
    intro _
    obtain ⟨k1, h⟩ := h
    refine And.intro k1 ?_
    obtain ⟨k2, h⟩ := h
    refine And.intro k2 ?_
    obtain ⟨k3, h⟩ := h
    obtain ⟨k4, h⟩ := h
    refine And.intro (And.intro k3 k4) ?_
    intro v26 e_v26
    replace h := h v26 e_v26
    refine And.intro k1 ?_
    obtain ⟨k5, h⟩ := h
    refine And.intro k5 ?_
    obtain ⟨k6, h⟩ := h
    obtain ⟨k7, h⟩ := h
    refine And.intro (And.intro k6 k7) ?_
    intro v7_1 e_v7_1
    replace h := h v7_1 e_v7_1
    exact g_X12_tells_394 (fun _ _ _ _ _ _ _ _ _ _ => h)
  · replace h := hb c13
    clear ha hb
    intro _
    exact h
set_option maxRecDepth 20000 in
theorem g_X12_tells_310 {Q X : m_Po} {v0 v1 v3 v4 v5 v6 v7 v9 v11 v12 v14 v16 v18 t : Int} {ε : m_E} {μ : m_M} (h : TY ε μ → i32 v1 → i32 v3 → i32 v4 → i32 v5 → i32 v6 → i64 v7 → i64 v9 → i32 v11 → i64 v12 → i64 v14 → i64 v16 → i64 v18 → i32 t → ∀ v25 : Int, v25 = t → (v4 = 0 → G cd_X12_tells Q X 358 [(0, (2, v0)), (1, (0, v1)), (3, (0, v3)), (4, (0, v4)), (5, (0, v5)), (6, (0, v6)), (7, (1, v7)), (9, (1, v9)), (11, (0, v11))] [] ε μ) ∧ (v4 ≠ 0 → (v25 ≠ 0 → G cd_X12_tells Q X 358 [(0, (2, v0)), (1, (0, v1)), (3, (0, v3)), (4, (0, v4)), (5, (0, v5)), (6, (0, v6)), (7, (1, v7)), (9, (1, v9)), (11, (0, v11))] [] ε μ) ∧ (v25 = 0 → kd ε v0 = 11 ∧ kd ε (fn ε v0 25) = 100 ∧ (0 : Int) ≤ v1 ∧ v1 < ln ε (fn ε v0 25) ∧ kd ε (fn ε v0 26) = 100 ∧ v1 < ln ε (fn ε v0 26) ∧ o_X12_leans [(2, v0), (0, w32 ((w32 (4 * v11)) + 2)), (1, μ (fn ε v0 25) v1), (1, μ (fn ε v0 26) v1), (1, w64 (v16 - v12)), (1, w64 (v18 - v14)), (1, v7)] ε μ (fun z ε_1 μ_1 => G cd_X12_tells Q X 358 [(0, (2, v0)), (1, (0, v1)), (3, (0, v3)), (4, (0, v4)), (5, (0, v5)), (6, (0, v6)), (7, (1, v7)), (9, (1, v9)), (11, (0, v11))] [] ε_1 μ_1) m_F))) : G cd_X12_tells Q X 310 [(0, (2, v0)), (1, (0, v1)), (3, (0, v3)), (4, (0, v4)), (5, (0, v5)), (6, (0, v6)), (7, (1, v7)), (9, (1, v9)), (11, (0, v11)), (12, (1, v12)), (14, (1, v14)), (16, (1, v16)), (18, (1, v18))] [(0, t)] ε μ := by
  refine G_run (m_in [11, 14, 48, 76, 85, 96, 100, 105, 131, 174, 221, 266, 277, 281, 301, 305, 309, 310, 358, 394, 422, 493, 499, 527, 543, 557, 573]) 53 _ _ _ _ ?_
  show m_ty [(0, (2, v0)), (1, (0, v1)), (3, (0, v3)), (4, (0, v4)), (5, (0, v5)), (6, (0, v6)), (7, (1, v7)), (9, (1, v9)), (11, (0, v11)), (12, (1, v12)), (14, (1, v14)), (16, (1, v16)), (18, (1, v18))] [(0, t)] ε μ → ∀ v25 : Int, v25 = t → (v4 = 0 → G cd_X12_tells Q X 358 [(0, (2, v0)), (1, (0, v1)), (3, (0, v3)), (4, (0, v4)), (5, (0, v5)), (6, (0, v6)), (7, (1, v7)), (9, (1, v9)), (11, (0, v11))] [] ε μ) ∧ (v4 ≠ 0 → (m_ty [(0, (2, v0)), (1, (0, v1)), (3, (0, v3)), (4, (0, v4)), (5, (0, v5)), (6, (0, v6)), (7, (1, v7)), (9, (1, v9)), (11, (0, v11)), (12, (1, v12)), (14, (1, v14)), (16, (1, v16)), (18, (1, v18)), (25, (0, v25))] [] ε μ → (v25 ≠ 0 → G cd_X12_tells Q X 358 [(0, (2, v0)), (1, (0, v1)), (3, (0, v3)), (4, (0, v4)), (5, (0, v5)), (6, (0, v6)), (7, (1, v7)), (9, (1, v9)), (11, (0, v11))] [] ε μ) ∧ (v25 = 0 → (m_ty [(0, (2, v0)), (1, (0, v1)), (3, (0, v3)), (4, (0, v4)), (5, (0, v5)), (6, (0, v6)), (7, (1, v7)), (9, (1, v9)), (11, (0, v11)), (12, (1, v12)), (14, (1, v14)), (16, (1, v16)), (18, (1, v18))] [] ε μ → (kd ε v0 = 11) ∧ (kd ε (fn ε v0 25) = 100) ∧ ((0 : Int) ≤ v1 ∧ v1 < ln ε (fn ε v0 25)) ∧ (kd ε v0 = 11) ∧ (kd ε (fn ε v0 26) = 100) ∧ ((0 : Int) ≤ v1 ∧ v1 < ln ε (fn ε v0 26)) ∧ (kd ε v0 = 11) ∧ o_X12_leans [(2, v0), (0, w32 ((w32 (4 * v11)) + 2)), (1, μ (fn ε v0 25) v1), (1, μ (fn ε v0 26) v1), (1, w64 (v16 - v12)), (1, w64 (v18 - v14)), (1, v7)] ε μ (fun z ε_1 μ_1 => G cd_X12_tells Q X 358 [(0, (2, v0)), (1, (0, v1)), (3, (0, v3)), (4, (0, v4)), (5, (0, v5)), (6, (0, v6)), (7, (1, v7)), (9, (1, v9)), (11, (0, v11))] [] ε_1 μ_1) m_F))))
  intro hty
  replace h := h hty.1 (hty.2.1 _ (List.mem_of_getElem? (i := 1) rfl)) (hty.2.1 _ (List.mem_of_getElem? (i := 2) rfl)) (hty.2.1 _ (List.mem_of_getElem? (i := 3) rfl)) (hty.2.1 _ (List.mem_of_getElem? (i := 4) rfl)) (hty.2.1 _ (List.mem_of_getElem? (i := 5) rfl)) (hty.2.1 _ (List.mem_of_getElem? (i := 6) rfl)) (hty.2.1 _ (List.mem_of_getElem? (i := 7) rfl)) (hty.2.1 _ (List.mem_of_getElem? (i := 8) rfl)) (hty.2.1 _ (List.mem_of_getElem? (i := 9) rfl)) (hty.2.1 _ (List.mem_of_getElem? (i := 10) rfl)) (hty.2.1 _ (List.mem_of_getElem? (i := 11) rfl)) (hty.2.1 _ (List.mem_of_getElem? (i := 12) rfl)) (hty.2.2 _ (List.mem_of_getElem? (i := 0) rfl))
  intro v25 e_v25
  replace h := h v25 e_v25
  obtain ⟨ha, hb⟩ := h
  refine And.intro (fun c7 => ?_) (fun c7 => ?_)
  · replace h := ha c7
    clear ha hb
    exact h
  · replace h := hb c7
    clear ha hb
    intro _
    obtain ⟨ha, hb⟩ := h
    refine And.intro (fun c6 => ?_) (fun c6 => ?_)
    · replace h := ha c6
      clear ha hb
      exact h
    · replace h := hb c6
      clear ha hb
      intro _
      obtain ⟨k1, h⟩ := h
      refine And.intro k1 ?_
      obtain ⟨k2, h⟩ := h
      refine And.intro k2 ?_
      obtain ⟨k3, h⟩ := h
      obtain ⟨k4, h⟩ := h
      refine And.intro (And.intro k3 k4) ?_
      refine And.intro k1 ?_
      obtain ⟨k5, h⟩ := h
      refine And.intro k5 ?_
      obtain ⟨k6, h⟩ := h
      refine And.intro (And.intro k3 k6) ?_
      refine And.intro k1 ?_
      exact h
set_option maxRecDepth 20000 in
theorem g_X12_tells_309 {Q X : m_Po} {v0 v1 v3 v4 v5 v6 v7 v9 v11 v12 v14 v16 v18 : Int} {ε : m_E} {μ : m_M} (h : TY ε μ → i32 v1 → i32 v3 → i32 v4 → i32 v5 → i32 v6 → i64 v7 → i64 v9 → i32 v11 → i64 v12 → i64 v14 → i64 v16 → i64 v18 → G cd_X12_tells Q X 310 [(0, (2, v0)), (1, (0, v1)), (3, (0, v3)), (4, (0, v4)), (5, (0, v5)), (6, (0, v6)), (7, (1, v7)), (9, (1, v9)), (11, (0, v11)), (12, (1, v12)), (14, (1, v14)), (16, (1, v16)), (18, (1, v18))] [(0, 0)] ε μ) : G cd_X12_tells Q X 309 [(0, (2, v0)), (1, (0, v1)), (3, (0, v3)), (4, (0, v4)), (5, (0, v5)), (6, (0, v6)), (7, (1, v7)), (9, (1, v9)), (11, (0, v11)), (12, (1, v12)), (14, (1, v14)), (16, (1, v16)), (18, (1, v18))] [] ε μ := by
  refine G_run (m_in [11, 14, 48, 76, 85, 96, 100, 105, 131, 174, 221, 266, 277, 281, 301, 305, 309, 310, 358, 394, 422, 493, 499, 527, 543, 557, 573]) 53 _ _ _ _ ?_
  show m_ty [(0, (2, v0)), (1, (0, v1)), (3, (0, v3)), (4, (0, v4)), (5, (0, v5)), (6, (0, v6)), (7, (1, v7)), (9, (1, v9)), (11, (0, v11)), (12, (1, v12)), (14, (1, v14)), (16, (1, v16)), (18, (1, v18))] [] ε μ → G cd_X12_tells Q X 310 [(0, (2, v0)), (1, (0, v1)), (3, (0, v3)), (4, (0, v4)), (5, (0, v5)), (6, (0, v6)), (7, (1, v7)), (9, (1, v9)), (11, (0, v11)), (12, (1, v12)), (14, (1, v14)), (16, (1, v16)), (18, (1, v18))] [(0, 0)] ε μ
  intro hty
  replace h := h hty.1 (hty.2.1 _ (List.mem_of_getElem? (i := 1) rfl)) (hty.2.1 _ (List.mem_of_getElem? (i := 2) rfl)) (hty.2.1 _ (List.mem_of_getElem? (i := 3) rfl)) (hty.2.1 _ (List.mem_of_getElem? (i := 4) rfl)) (hty.2.1 _ (List.mem_of_getElem? (i := 5) rfl)) (hty.2.1 _ (List.mem_of_getElem? (i := 6) rfl)) (hty.2.1 _ (List.mem_of_getElem? (i := 7) rfl)) (hty.2.1 _ (List.mem_of_getElem? (i := 8) rfl)) (hty.2.1 _ (List.mem_of_getElem? (i := 9) rfl)) (hty.2.1 _ (List.mem_of_getElem? (i := 10) rfl)) (hty.2.1 _ (List.mem_of_getElem? (i := 11) rfl)) (hty.2.1 _ (List.mem_of_getElem? (i := 12) rfl))
  exact h
set_option maxRecDepth 20000 in
theorem g_X12_tells_305 {Q X : m_Po} {v0 v1 v3 v4 v5 v6 v7 v9 v11 v12 v14 v16 v18 : Int} {ε : m_E} {μ : m_M} (h : TY ε μ → i32 v1 → i32 v3 → i32 v4 → i32 v5 → i32 v6 → i64 v7 → i64 v9 → i32 v11 → i64 v12 → i64 v14 → i64 v16 → i64 v18 → G cd_X12_tells Q X 310 [(0, (2, v0)), (1, (0, v1)), (3, (0, v3)), (4, (0, v4)), (5, (0, v5)), (6, (0, v6)), (7, (1, v7)), (9, (1, v9)), (11, (0, v11)), (12, (1, v12)), (14, (1, v14)), (16, (1, v16)), (18, (1, v18))] [(0, 1)] ε μ) : G cd_X12_tells Q X 305 [(0, (2, v0)), (1, (0, v1)), (3, (0, v3)), (4, (0, v4)), (5, (0, v5)), (6, (0, v6)), (7, (1, v7)), (9, (1, v9)), (11, (0, v11)), (12, (1, v12)), (14, (1, v14)), (16, (1, v16)), (18, (1, v18))] [] ε μ := by
  refine G_run (m_in [11, 14, 48, 76, 85, 96, 100, 105, 131, 174, 221, 266, 277, 281, 301, 305, 309, 310, 358, 394, 422, 493, 499, 527, 543, 557, 573]) 53 _ _ _ _ ?_
  show m_ty [(0, (2, v0)), (1, (0, v1)), (3, (0, v3)), (4, (0, v4)), (5, (0, v5)), (6, (0, v6)), (7, (1, v7)), (9, (1, v9)), (11, (0, v11)), (12, (1, v12)), (14, (1, v14)), (16, (1, v16)), (18, (1, v18))] [] ε μ → G cd_X12_tells Q X 310 [(0, (2, v0)), (1, (0, v1)), (3, (0, v3)), (4, (0, v4)), (5, (0, v5)), (6, (0, v6)), (7, (1, v7)), (9, (1, v9)), (11, (0, v11)), (12, (1, v12)), (14, (1, v14)), (16, (1, v16)), (18, (1, v18))] [(0, 1)] ε μ
  intro hty
  replace h := h hty.1 (hty.2.1 _ (List.mem_of_getElem? (i := 1) rfl)) (hty.2.1 _ (List.mem_of_getElem? (i := 2) rfl)) (hty.2.1 _ (List.mem_of_getElem? (i := 3) rfl)) (hty.2.1 _ (List.mem_of_getElem? (i := 4) rfl)) (hty.2.1 _ (List.mem_of_getElem? (i := 5) rfl)) (hty.2.1 _ (List.mem_of_getElem? (i := 6) rfl)) (hty.2.1 _ (List.mem_of_getElem? (i := 7) rfl)) (hty.2.1 _ (List.mem_of_getElem? (i := 8) rfl)) (hty.2.1 _ (List.mem_of_getElem? (i := 9) rfl)) (hty.2.1 _ (List.mem_of_getElem? (i := 10) rfl)) (hty.2.1 _ (List.mem_of_getElem? (i := 11) rfl)) (hty.2.1 _ (List.mem_of_getElem? (i := 12) rfl))
  exact h
set_option maxRecDepth 20000 in
theorem g_X12_tells_301 {Q X : m_Po} {v0 v1 v3 v4 v5 v6 v7 v9 v11 v12 v14 v16 v18 t : Int} {ε : m_E} {μ : m_M} (h : TY ε μ → i32 v1 → i32 v3 → i32 v4 → i32 v5 → i32 v6 → i64 v7 → i64 v9 → i32 v11 → i64 v12 → i64 v14 → i64 v16 → i64 v18 → i32 t → (t ≠ (2 : Int) → G cd_X12_tells Q X 309 [(0, (2, v0)), (1, (0, v1)), (3, (0, v3)), (4, (0, v4)), (5, (0, v5)), (6, (0, v6)), (7, (1, v7)), (9, (1, v9)), (11, (0, v11)), (12, (1, v12)), (14, (1, v14)), (16, (1, v16)), (18, (1, v18))] [] ε μ) ∧ (t = (2 : Int) → G cd_X12_tells Q X 305 [(0, (2, v0)), (1, (0, v1)), (3, (0, v3)), (4, (0, v4)), (5, (0, v5)), (6, (0, v6)), (7, (1, v7)), (9, (1, v9)), (11, (0, v11)), (12, (1, v12)), (14, (1, v14)), (16, (1, v16)), (18, (1, v18))] [] ε μ)) : G cd_X12_tells Q X 301 [(0, (2, v0)), (1, (0, v1)), (3, (0, v3)), (4, (0, v4)), (5, (0, v5)), (6, (0, v6)), (7, (1, v7)), (9, (1, v9)), (11, (0, v11)), (12, (1, v12)), (14, (1, v14)), (16, (1, v16)), (18, (1, v18))] [(0, t)] ε μ := by
  refine G_run (m_in [11, 14, 48, 76, 85, 96, 100, 105, 131, 174, 221, 266, 277, 281, 301, 305, 309, 310, 358, 394, 422, 493, 499, 527, 543, 557, 573]) 53 _ _ _ _ ?_
  show m_ty [(0, (2, v0)), (1, (0, v1)), (3, (0, v3)), (4, (0, v4)), (5, (0, v5)), (6, (0, v6)), (7, (1, v7)), (9, (1, v9)), (11, (0, v11)), (12, (1, v12)), (14, (1, v14)), (16, (1, v16)), (18, (1, v18))] [(0, t)] ε μ → (t ≠ (2 : Int) → G cd_X12_tells Q X 309 [(0, (2, v0)), (1, (0, v1)), (3, (0, v3)), (4, (0, v4)), (5, (0, v5)), (6, (0, v6)), (7, (1, v7)), (9, (1, v9)), (11, (0, v11)), (12, (1, v12)), (14, (1, v14)), (16, (1, v16)), (18, (1, v18))] [] ε μ) ∧ (t = (2 : Int) → G cd_X12_tells Q X 305 [(0, (2, v0)), (1, (0, v1)), (3, (0, v3)), (4, (0, v4)), (5, (0, v5)), (6, (0, v6)), (7, (1, v7)), (9, (1, v9)), (11, (0, v11)), (12, (1, v12)), (14, (1, v14)), (16, (1, v16)), (18, (1, v18))] [] ε μ)
  intro hty
  replace h := h hty.1 (hty.2.1 _ (List.mem_of_getElem? (i := 1) rfl)) (hty.2.1 _ (List.mem_of_getElem? (i := 2) rfl)) (hty.2.1 _ (List.mem_of_getElem? (i := 3) rfl)) (hty.2.1 _ (List.mem_of_getElem? (i := 4) rfl)) (hty.2.1 _ (List.mem_of_getElem? (i := 5) rfl)) (hty.2.1 _ (List.mem_of_getElem? (i := 6) rfl)) (hty.2.1 _ (List.mem_of_getElem? (i := 7) rfl)) (hty.2.1 _ (List.mem_of_getElem? (i := 8) rfl)) (hty.2.1 _ (List.mem_of_getElem? (i := 9) rfl)) (hty.2.1 _ (List.mem_of_getElem? (i := 10) rfl)) (hty.2.1 _ (List.mem_of_getElem? (i := 11) rfl)) (hty.2.1 _ (List.mem_of_getElem? (i := 12) rfl)) (hty.2.2 _ (List.mem_of_getElem? (i := 0) rfl))
  obtain ⟨ha, hb⟩ := h
  refine And.intro (fun c0 => ?_) (fun c0 => ?_)
  · replace h := ha c0
    clear ha hb
    exact h
  · replace h := hb c0
    clear ha hb
    exact h
set_option maxRecDepth 20000 in
theorem g_X12_tells_281 {Q X : m_Po} {v0 v1 v3 v4 v5 v6 v7 v9 v11 v12 v14 v16 v18 : Int} {ε : m_E} {μ : m_M} (h : TY ε μ → i32 v1 → i32 v3 → i32 v4 → i32 v5 → i32 v6 → i64 v7 → i64 v9 → i32 v11 → i64 v12 → i64 v14 → i64 v16 → i64 v18 → kd ε v0 = 11 ∧ kd ε (fn ε v0 17) = 100 ∧ (0 : Int) ≤ v1 ∧ v1 < ln ε (fn ε v0 17) ∧ (v11 ≠ (μ (fn ε v0 17) v1) → G cd_X12_tells Q X 309 [(0, (2, v0)), (1, (0, v1)), (3, (0, v3)), (4, (0, v4)), (5, (0, v5)), (6, (0, v6)), (7, (1, v7)), (9, (1, v9)), (11, (0, v11)), (12, (1, v12)), (14, (1, v14)), (16, (1, v16)), (18, (1, v18))] [] ε μ) ∧ (v11 = (μ (fn ε v0 17) v1) → o_X12_kindAt [(2, v0), (0, v1), (0, w32 (v11 - 1))] ε μ (fun z ε_1 μ_1 => G cd_X12_tells Q X 301 [(0, (2, v0)), (1, (0, v1)), (3, (0, v3)), (4, (0, v4)), (5, (0, v5)), (6, (0, v6)), (7, (1, v7)), (9, (1, v9)), (11, (0, v11)), (12, (1, v12)), (14, (1, v14)), (16, (1, v16)), (18, (1, v18))] [(0, z)] ε_1 μ_1) m_F)) : G cd_X12_tells Q X 281 [(0, (2, v0)), (1, (0, v1)), (3, (0, v3)), (4, (0, v4)), (5, (0, v5)), (6, (0, v6)), (7, (1, v7)), (9, (1, v9)), (11, (0, v11)), (12, (1, v12)), (14, (1, v14)), (16, (1, v16)), (18, (1, v18))] [] ε μ := by
  refine G_run (m_in [11, 14, 48, 76, 85, 96, 100, 105, 131, 174, 221, 266, 277, 281, 301, 305, 309, 310, 358, 394, 422, 493, 499, 527, 543, 557, 573]) 53 _ _ _ _ ?_
  show m_ty [(0, (2, v0)), (1, (0, v1)), (3, (0, v3)), (4, (0, v4)), (5, (0, v5)), (6, (0, v6)), (7, (1, v7)), (9, (1, v9)), (11, (0, v11)), (12, (1, v12)), (14, (1, v14)), (16, (1, v16)), (18, (1, v18))] [] ε μ → (kd ε v0 = 11) ∧ (kd ε (fn ε v0 17) = 100) ∧ ((0 : Int) ≤ v1 ∧ v1 < ln ε (fn ε v0 17)) ∧ (v11 ≠ (μ (fn ε v0 17) v1) → G cd_X12_tells Q X 309 [(0, (2, v0)), (1, (0, v1)), (3, (0, v3)), (4, (0, v4)), (5, (0, v5)), (6, (0, v6)), (7, (1, v7)), (9, (1, v9)), (11, (0, v11)), (12, (1, v12)), (14, (1, v14)), (16, (1, v16)), (18, (1, v18))] [] ε μ) ∧ (v11 = (μ (fn ε v0 17) v1) → (m_ty [(0, (2, v0)), (1, (0, v1)), (3, (0, v3)), (4, (0, v4)), (5, (0, v5)), (6, (0, v6)), (7, (1, v7)), (9, (1, v9)), (11, (0, v11)), (12, (1, v12)), (14, (1, v14)), (16, (1, v16)), (18, (1, v18))] [] ε μ → (kd ε v0 = 11) ∧ o_X12_kindAt [(2, v0), (0, v1), (0, w32 (v11 - 1))] ε μ (fun z ε_1 μ_1 => G cd_X12_tells Q X 301 [(0, (2, v0)), (1, (0, v1)), (3, (0, v3)), (4, (0, v4)), (5, (0, v5)), (6, (0, v6)), (7, (1, v7)), (9, (1, v9)), (11, (0, v11)), (12, (1, v12)), (14, (1, v14)), (16, (1, v16)), (18, (1, v18))] [(0, z)] ε_1 μ_1) m_F))
  intro hty
  replace h := h hty.1 (hty.2.1 _ (List.mem_of_getElem? (i := 1) rfl)) (hty.2.1 _ (List.mem_of_getElem? (i := 2) rfl)) (hty.2.1 _ (List.mem_of_getElem? (i := 3) rfl)) (hty.2.1 _ (List.mem_of_getElem? (i := 4) rfl)) (hty.2.1 _ (List.mem_of_getElem? (i := 5) rfl)) (hty.2.1 _ (List.mem_of_getElem? (i := 6) rfl)) (hty.2.1 _ (List.mem_of_getElem? (i := 7) rfl)) (hty.2.1 _ (List.mem_of_getElem? (i := 8) rfl)) (hty.2.1 _ (List.mem_of_getElem? (i := 9) rfl)) (hty.2.1 _ (List.mem_of_getElem? (i := 10) rfl)) (hty.2.1 _ (List.mem_of_getElem? (i := 11) rfl)) (hty.2.1 _ (List.mem_of_getElem? (i := 12) rfl))
  obtain ⟨k1, h⟩ := h
  refine And.intro k1 ?_
  obtain ⟨k2, h⟩ := h
  refine And.intro k2 ?_
  obtain ⟨k3, h⟩ := h
  obtain ⟨k4, h⟩ := h
  refine And.intro (And.intro k3 k4) ?_
  obtain ⟨ha, hb⟩ := h
  refine And.intro (fun c4 => ?_) (fun c4 => ?_)
  · replace h := ha c4
    clear ha hb
    exact h
  · replace h := hb c4
    clear ha hb
    intro _
    refine And.intro k1 ?_
    exact h
set_option maxRecDepth 20000 in
theorem g_X12_tells_277 {Q X : m_Po} {v0 v1 v3 v4 v5 v6 v7 v9 v11 v12 v14 v16 v18 t : Int} {ε : m_E} {μ : m_M} (h : TY ε μ → i32 v1 → i32 v3 → i32 v4 → i32 v5 → i32 v6 → i64 v7 → i64 v9 → i32 v11 → i64 v12 → i64 v14 → i64 v16 → i64 v18 → i32 t → (t = (2 : Int) → G cd_X12_tells Q X 305 [(0, (2, v0)), (1, (0, v1)), (3, (0, v3)), (4, (0, v4)), (5, (0, v5)), (6, (0, v6)), (7, (1, v7)), (9, (1, v9)), (11, (0, v11)), (12, (1, v12)), (14, (1, v14)), (16, (1, v16)), (18, (1, v18))] [] ε μ) ∧ (t ≠ (2 : Int) → G cd_X12_tells Q X 281 [(0, (2, v0)), (1, (0, v1)), (3, (0, v3)), (4, (0, v4)), (5, (0, v5)), (6, (0, v6)), (7, (1, v7)), (9, (1, v9)), (11, (0, v11)), (12, (1, v12)), (14, (1, v14)), (16, (1, v16)), (18, (1, v18))] [] ε μ)) : G cd_X12_tells Q X 277 [(0, (2, v0)), (1, (0, v1)), (3, (0, v3)), (4, (0, v4)), (5, (0, v5)), (6, (0, v6)), (7, (1, v7)), (9, (1, v9)), (11, (0, v11)), (12, (1, v12)), (14, (1, v14)), (16, (1, v16)), (18, (1, v18))] [(0, t)] ε μ := by
  refine G_run (m_in [11, 14, 48, 76, 85, 96, 100, 105, 131, 174, 221, 266, 277, 281, 301, 305, 309, 310, 358, 394, 422, 493, 499, 527, 543, 557, 573]) 53 _ _ _ _ ?_
  show m_ty [(0, (2, v0)), (1, (0, v1)), (3, (0, v3)), (4, (0, v4)), (5, (0, v5)), (6, (0, v6)), (7, (1, v7)), (9, (1, v9)), (11, (0, v11)), (12, (1, v12)), (14, (1, v14)), (16, (1, v16)), (18, (1, v18))] [(0, t)] ε μ → (t = (2 : Int) → G cd_X12_tells Q X 305 [(0, (2, v0)), (1, (0, v1)), (3, (0, v3)), (4, (0, v4)), (5, (0, v5)), (6, (0, v6)), (7, (1, v7)), (9, (1, v9)), (11, (0, v11)), (12, (1, v12)), (14, (1, v14)), (16, (1, v16)), (18, (1, v18))] [] ε μ) ∧ (t ≠ (2 : Int) → G cd_X12_tells Q X 281 [(0, (2, v0)), (1, (0, v1)), (3, (0, v3)), (4, (0, v4)), (5, (0, v5)), (6, (0, v6)), (7, (1, v7)), (9, (1, v9)), (11, (0, v11)), (12, (1, v12)), (14, (1, v14)), (16, (1, v16)), (18, (1, v18))] [] ε μ)
  intro hty
  replace h := h hty.1 (hty.2.1 _ (List.mem_of_getElem? (i := 1) rfl)) (hty.2.1 _ (List.mem_of_getElem? (i := 2) rfl)) (hty.2.1 _ (List.mem_of_getElem? (i := 3) rfl)) (hty.2.1 _ (List.mem_of_getElem? (i := 4) rfl)) (hty.2.1 _ (List.mem_of_getElem? (i := 5) rfl)) (hty.2.1 _ (List.mem_of_getElem? (i := 6) rfl)) (hty.2.1 _ (List.mem_of_getElem? (i := 7) rfl)) (hty.2.1 _ (List.mem_of_getElem? (i := 8) rfl)) (hty.2.1 _ (List.mem_of_getElem? (i := 9) rfl)) (hty.2.1 _ (List.mem_of_getElem? (i := 10) rfl)) (hty.2.1 _ (List.mem_of_getElem? (i := 11) rfl)) (hty.2.1 _ (List.mem_of_getElem? (i := 12) rfl)) (hty.2.2 _ (List.mem_of_getElem? (i := 0) rfl))
  obtain ⟨ha, hb⟩ := h
  refine And.intro (fun c0 => ?_) (fun c0 => ?_)
  · replace h := ha c0
    clear ha hb
    exact h
  · replace h := hb c0
    clear ha hb
    exact h
set_option maxRecDepth 20000 in
theorem g_X12_tells_266 {Q X : m_Po} {v0 v1 v3 v4 v5 v6 v7 v9 v11 v12 v14 v16 v18 : Int} {ε : m_E} {μ : m_M} (h : TY ε μ → i32 v1 → i32 v3 → i32 v4 → i32 v5 → i32 v6 → i64 v7 → i64 v9 → i32 v11 → i64 v12 → i64 v14 → i64 v16 → i64 v18 → (v11 ≠ 0 → G cd_X12_tells Q X 281 [(0, (2, v0)), (1, (0, v1)), (3, (0, v3)), (4, (0, v4)), (5, (0, v5)), (6, (0, v6)), (7, (1, v7)), (9, (1, v9)), (11, (0, v11)), (12, (1, v12)), (14, (1, v14)), (16, (1, v16)), (18, (1, v18))] [] ε μ) ∧ (v11 = 0 → kd ε v0 = 11 ∧ o_X12_kindAt [(2, v0), (0, v1), (0, 0)] ε μ (fun z ε_1 μ_1 => G cd_X12_tells Q X 277 [(0, (2, v0)), (1, (0, v1)), (3, (0, v3)), (4, (0, v4)), (5, (0, v5)), (6, (0, v6)), (7, (1, v7)), (9, (1, v9)), (11, (0, v11)), (12, (1, v12)), (14, (1, v14)), (16, (1, v16)), (18, (1, v18))] [(0, z)] ε_1 μ_1) m_F)) : G cd_X12_tells Q X 266 [(0, (2, v0)), (1, (0, v1)), (3, (0, v3)), (4, (0, v4)), (5, (0, v5)), (6, (0, v6)), (7, (1, v7)), (9, (1, v9)), (11, (0, v11)), (12, (1, v12)), (14, (1, v14)), (16, (1, v16)), (18, (1, v18))] [] ε μ := by
  refine G_run (m_in [11, 14, 48, 76, 85, 96, 100, 105, 131, 174, 221, 266, 277, 281, 301, 305, 309, 310, 358, 394, 422, 493, 499, 527, 543, 557, 573]) 53 _ _ _ _ ?_
  show m_ty [(0, (2, v0)), (1, (0, v1)), (3, (0, v3)), (4, (0, v4)), (5, (0, v5)), (6, (0, v6)), (7, (1, v7)), (9, (1, v9)), (11, (0, v11)), (12, (1, v12)), (14, (1, v14)), (16, (1, v16)), (18, (1, v18))] [] ε μ → (v11 ≠ 0 → G cd_X12_tells Q X 281 [(0, (2, v0)), (1, (0, v1)), (3, (0, v3)), (4, (0, v4)), (5, (0, v5)), (6, (0, v6)), (7, (1, v7)), (9, (1, v9)), (11, (0, v11)), (12, (1, v12)), (14, (1, v14)), (16, (1, v16)), (18, (1, v18))] [] ε μ) ∧ (v11 = 0 → (m_ty [(0, (2, v0)), (1, (0, v1)), (3, (0, v3)), (4, (0, v4)), (5, (0, v5)), (6, (0, v6)), (7, (1, v7)), (9, (1, v9)), (11, (0, v11)), (12, (1, v12)), (14, (1, v14)), (16, (1, v16)), (18, (1, v18))] [] ε μ → (kd ε v0 = 11) ∧ o_X12_kindAt [(2, v0), (0, v1), (0, 0)] ε μ (fun z ε_1 μ_1 => G cd_X12_tells Q X 277 [(0, (2, v0)), (1, (0, v1)), (3, (0, v3)), (4, (0, v4)), (5, (0, v5)), (6, (0, v6)), (7, (1, v7)), (9, (1, v9)), (11, (0, v11)), (12, (1, v12)), (14, (1, v14)), (16, (1, v16)), (18, (1, v18))] [(0, z)] ε_1 μ_1) m_F))
  intro hty
  replace h := h hty.1 (hty.2.1 _ (List.mem_of_getElem? (i := 1) rfl)) (hty.2.1 _ (List.mem_of_getElem? (i := 2) rfl)) (hty.2.1 _ (List.mem_of_getElem? (i := 3) rfl)) (hty.2.1 _ (List.mem_of_getElem? (i := 4) rfl)) (hty.2.1 _ (List.mem_of_getElem? (i := 5) rfl)) (hty.2.1 _ (List.mem_of_getElem? (i := 6) rfl)) (hty.2.1 _ (List.mem_of_getElem? (i := 7) rfl)) (hty.2.1 _ (List.mem_of_getElem? (i := 8) rfl)) (hty.2.1 _ (List.mem_of_getElem? (i := 9) rfl)) (hty.2.1 _ (List.mem_of_getElem? (i := 10) rfl)) (hty.2.1 _ (List.mem_of_getElem? (i := 11) rfl)) (hty.2.1 _ (List.mem_of_getElem? (i := 12) rfl))
  obtain ⟨ha, hb⟩ := h
  refine And.intro (fun c1 => ?_) (fun c1 => ?_)
  · replace h := ha c1
    clear ha hb
    exact h
  · replace h := hb c1
    clear ha hb
    intro _
    obtain ⟨k1, h⟩ := h
    refine And.intro k1 ?_
    exact h
set_option maxRecDepth 20000 in
theorem g_X12_tells_221 {Q X : m_Po} {v0 v1 v3 v4 v5 v6 v7 v9 v11 v12 v14 v16 v18 v21 v23 : Int} {ε : m_E} {μ : m_M} (h : TY ε μ → i32 v1 → i32 v3 → i32 v4 → i32 v5 → i32 v6 → i64 v7 → i64 v9 → i32 v11 → i64 v12 → i64 v14 → i64 v16 → i64 v18 → i64 v21 → i64 v23 → kd ε v0 = 11 ∧ o_X12_point [(2, v0), (0, w32 ((w32 (4 * v11)) + 1)), (1, 1), (1, w64 ((w64 (v21 * v16)) - (w64 (v23 * (w64 (v16 - v12)))))), (1, w64 ((w64 (v21 * v18)) - (w64 (v23 * (w64 (v18 - v14)))))), (1, v21), (1, v7), (1, v9)] ε μ (fun z ε_1 μ_1 => G cd_X12_tells Q X 266 [(0, (2, v0)), (1, (0, v1)), (3, (0, v3)), (4, (0, v4)), (5, (0, v5)), (6, (0, v6)), (7, (1, v7)), (9, (1, v9)), (11, (0, v11)), (12, (1, v12)), (14, (1, v14)), (16, (1, v16)), (18, (1, v18))] [] ε_1 μ_1) m_F) : G cd_X12_tells Q X 221 [(0, (2, v0)), (1, (0, v1)), (3, (0, v3)), (4, (0, v4)), (5, (0, v5)), (6, (0, v6)), (7, (1, v7)), (9, (1, v9)), (11, (0, v11)), (12, (1, v12)), (14, (1, v14)), (16, (1, v16)), (18, (1, v18)), (21, (1, v21)), (23, (1, v23))] [] ε μ := by
  refine G_run (m_in [11, 14, 48, 76, 85, 96, 100, 105, 131, 174, 221, 266, 277, 281, 301, 305, 309, 310, 358, 394, 422, 493, 499, 527, 543, 557, 573]) 53 _ _ _ _ ?_
  show m_ty [(0, (2, v0)), (1, (0, v1)), (3, (0, v3)), (4, (0, v4)), (5, (0, v5)), (6, (0, v6)), (7, (1, v7)), (9, (1, v9)), (11, (0, v11)), (12, (1, v12)), (14, (1, v14)), (16, (1, v16)), (18, (1, v18)), (21, (1, v21)), (23, (1, v23))] [] ε μ → (kd ε v0 = 11) ∧ o_X12_point [(2, v0), (0, w32 ((w32 (4 * v11)) + 1)), (1, 1), (1, w64 ((w64 (v21 * v16)) - (w64 (v23 * (w64 (v16 - v12)))))), (1, w64 ((w64 (v21 * v18)) - (w64 (v23 * (w64 (v18 - v14)))))), (1, v21), (1, v7), (1, v9)] ε μ (fun z ε_1 μ_1 => G cd_X12_tells Q X 266 [(0, (2, v0)), (1, (0, v1)), (3, (0, v3)), (4, (0, v4)), (5, (0, v5)), (6, (0, v6)), (7, (1, v7)), (9, (1, v9)), (11, (0, v11)), (12, (1, v12)), (14, (1, v14)), (16, (1, v16)), (18, (1, v18))] [] ε_1 μ_1) m_F
  intro hty
  replace h := h hty.1 (hty.2.1 _ (List.mem_of_getElem? (i := 1) rfl)) (hty.2.1 _ (List.mem_of_getElem? (i := 2) rfl)) (hty.2.1 _ (List.mem_of_getElem? (i := 3) rfl)) (hty.2.1 _ (List.mem_of_getElem? (i := 4) rfl)) (hty.2.1 _ (List.mem_of_getElem? (i := 5) rfl)) (hty.2.1 _ (List.mem_of_getElem? (i := 6) rfl)) (hty.2.1 _ (List.mem_of_getElem? (i := 7) rfl)) (hty.2.1 _ (List.mem_of_getElem? (i := 8) rfl)) (hty.2.1 _ (List.mem_of_getElem? (i := 9) rfl)) (hty.2.1 _ (List.mem_of_getElem? (i := 10) rfl)) (hty.2.1 _ (List.mem_of_getElem? (i := 11) rfl)) (hty.2.1 _ (List.mem_of_getElem? (i := 12) rfl)) (hty.2.1 _ (List.mem_of_getElem? (i := 13) rfl)) (hty.2.1 _ (List.mem_of_getElem? (i := 14) rfl))
  obtain ⟨k1, h⟩ := h
  refine And.intro k1 ?_
  exact h
set_option maxRecDepth 20000 in
theorem g_X12_tells_174 {Q X : m_Po} {v0 v1 v3 v4 v5 v6 v7 v9 v11 v12 v14 v16 v18 v21 t : Int} {ε : m_E} {μ : m_M} (h : TY ε μ → i32 v1 → i32 v3 → i32 v4 → i32 v5 → i32 v6 → i64 v7 → i64 v9 → i32 v11 → i64 v12 → i64 v14 → i64 v16 → i64 v18 → i64 v21 → i64 t → ∀ v23 : Int, v23 = t → kd ε v0 = 11 ∧ o_X12_point [(2, v0), (0, w32 (4 * v11)), (1, (-1)), (1, w64 ((w64 (v21 * v12)) + (w64 (v23 * (w64 (v16 - v12)))))), (1, w64 ((w64 (v21 * v14)) + (w64 (v23 * (w64 (v18 - v14)))))), (1, v21), (1, v7), (1, v9)] ε μ (fun z ε_1 μ_1 => G cd_X12_tells Q X 221 [(0, (2, v0)), (1, (0, v1)), (3, (0, v3)), (4, (0, v4)), (5, (0, v5)), (6, (0, v6)), (7, (1, v7)), (9, (1, v9)), (11, (0, v11)), (12, (1, v12)), (14, (1, v14)), (16, (1, v16)), (18, (1, v18)), (21, (1, v21)), (23, (1, v23))] [] ε_1 μ_1) m_F) : G cd_X12_tells Q X 174 [(0, (2, v0)), (1, (0, v1)), (3, (0, v3)), (4, (0, v4)), (5, (0, v5)), (6, (0, v6)), (7, (1, v7)), (9, (1, v9)), (11, (0, v11)), (12, (1, v12)), (14, (1, v14)), (16, (1, v16)), (18, (1, v18)), (21, (1, v21))] [(1, t)] ε μ := by
  refine G_run (m_in [11, 14, 48, 76, 85, 96, 100, 105, 131, 174, 221, 266, 277, 281, 301, 305, 309, 310, 358, 394, 422, 493, 499, 527, 543, 557, 573]) 53 _ _ _ _ ?_
  show m_ty [(0, (2, v0)), (1, (0, v1)), (3, (0, v3)), (4, (0, v4)), (5, (0, v5)), (6, (0, v6)), (7, (1, v7)), (9, (1, v9)), (11, (0, v11)), (12, (1, v12)), (14, (1, v14)), (16, (1, v16)), (18, (1, v18)), (21, (1, v21))] [(1, t)] ε μ → ∀ v23 : Int, v23 = t → (kd ε v0 = 11) ∧ o_X12_point [(2, v0), (0, w32 (4 * v11)), (1, (-1)), (1, w64 ((w64 (v21 * v12)) + (w64 (v23 * (w64 (v16 - v12)))))), (1, w64 ((w64 (v21 * v14)) + (w64 (v23 * (w64 (v18 - v14)))))), (1, v21), (1, v7), (1, v9)] ε μ (fun z ε_1 μ_1 => G cd_X12_tells Q X 221 [(0, (2, v0)), (1, (0, v1)), (3, (0, v3)), (4, (0, v4)), (5, (0, v5)), (6, (0, v6)), (7, (1, v7)), (9, (1, v9)), (11, (0, v11)), (12, (1, v12)), (14, (1, v14)), (16, (1, v16)), (18, (1, v18)), (21, (1, v21)), (23, (1, v23))] [] ε_1 μ_1) m_F
  intro hty
  replace h := h hty.1 (hty.2.1 _ (List.mem_of_getElem? (i := 1) rfl)) (hty.2.1 _ (List.mem_of_getElem? (i := 2) rfl)) (hty.2.1 _ (List.mem_of_getElem? (i := 3) rfl)) (hty.2.1 _ (List.mem_of_getElem? (i := 4) rfl)) (hty.2.1 _ (List.mem_of_getElem? (i := 5) rfl)) (hty.2.1 _ (List.mem_of_getElem? (i := 6) rfl)) (hty.2.1 _ (List.mem_of_getElem? (i := 7) rfl)) (hty.2.1 _ (List.mem_of_getElem? (i := 8) rfl)) (hty.2.1 _ (List.mem_of_getElem? (i := 9) rfl)) (hty.2.1 _ (List.mem_of_getElem? (i := 10) rfl)) (hty.2.1 _ (List.mem_of_getElem? (i := 11) rfl)) (hty.2.1 _ (List.mem_of_getElem? (i := 12) rfl)) (hty.2.1 _ (List.mem_of_getElem? (i := 13) rfl)) (hty.2.2 _ (List.mem_of_getElem? (i := 0) rfl))
  intro v23 e_v23
  replace h := h v23 e_v23
  obtain ⟨k1, h⟩ := h
  refine And.intro k1 ?_
  exact h
set_option maxRecDepth 20000 in
theorem g_X12_tells_131 {Q X : m_Po} {v0 v1 v3 v4 v5 v6 v7 v9 v11 v12 v14 v16 v18 v20 t : Int} {ε : m_E} {μ : m_M} (h : TY ε μ → i32 v1 → i32 v3 → i32 v4 → i32 v5 → i32 v6 → i64 v7 → i64 v9 → i32 v11 → i64 v12 → i64 v14 → i64 v16 → i64 v18 → i32 v20 → i64 t → ∀ v21 : Int, v21 = t → ∀ t_1 : Int, t_1 = (if v6 = (-1) then if v20 = 0 then 0 else 1 else if v20 = 0 then w64 (2 * v6) else w64 (64 + v6)) → ∀ v23 : Int, v23 = t_1 → kd ε v0 = 11 ∧ o_X12_point [(2, v0), (0, w32 (4 * v11)), (1, (-1)), (1, w64 ((w64 (v21 * v12)) + (w64 (v23 * (w64 (v16 - v12)))))), (1, w64 ((w64 (v21 * v14)) + (w64 (v23 * (w64 (v18 - v14)))))), (1, v21), (1, v7), (1, v9)] ε μ (fun z ε_1 μ_1 => G cd_X12_tells Q X 221 [(0, (2, v0)), (1, (0, v1)), (3, (0, v3)), (4, (0, v4)), (5, (0, v5)), (6, (0, v6)), (7, (1, v7)), (9, (1, v9)), (11, (0, v11)), (12, (1, v12)), (14, (1, v14)), (16, (1, v16)), (18, (1, v18)), (21, (1, v21)), (23, (1, v23))] [] ε_1 μ_1) m_F) : G cd_X12_tells Q X 131 [(0, (2, v0)), (1, (0, v1)), (3, (0, v3)), (4, (0, v4)), (5, (0, v5)), (6, (0, v6)), (7, (1, v7)), (9, (1, v9)), (11, (0, v11)), (12, (1, v12)), (14, (1, v14)), (16, (1, v16)), (18, (1, v18)), (20, (0, v20))] [(1, t)] ε μ := by
  refine G_run (m_in [11, 14, 48, 76, 85, 96, 100, 105, 131, 174, 221, 266, 277, 281, 301, 305, 309, 310, 358, 394, 422, 493, 499, 527, 543, 557, 573]) 53 _ _ _ _ ?_
  show m_ty [(0, (2, v0)), (1, (0, v1)), (3, (0, v3)), (4, (0, v4)), (5, (0, v5)), (6, (0, v6)), (7, (1, v7)), (9, (1, v9)), (11, (0, v11)), (12, (1, v12)), (14, (1, v14)), (16, (1, v16)), (18, (1, v18)), (20, (0, v20))] [(1, t)] ε μ → ∀ v21 : Int, v21 = t → (v6 ≠ (-1) → (m_ty [(0, (2, v0)), (1, (0, v1)), (3, (0, v3)), (4, (0, v4)), (5, (0, v5)), (6, (0, v6)), (7, (1, v7)), (9, (1, v9)), (11, (0, v11)), (12, (1, v12)), (14, (1, v14)), (16, (1, v16)), (18, (1, v18)), (20, (0, v20)), (21, (1, v21))] [] ε μ → (v20 = 0 → (m_ty [(0, (2, v0)), (1, (0, v1)), (3, (0, v3)), (4, (0, v4)), (5, (0, v5)), (6, (0, v6)), (7, (1, v7)), (9, (1, v9)), (11, (0, v11)), (12, (1, v12)), (14, (1, v14)), (16, (1, v16)), (18, (1, v18)), (21, (1, v21))] [] ε μ → G cd_X12_tells Q X 174 [(0, (2, v0)), (1, (0, v1)), (3, (0, v3)), (4, (0, v4)), (5, (0, v5)), (6, (0, v6)), (7, (1, v7)), (9, (1, v9)), (11, (0, v11)), (12, (1, v12)), (14, (1, v14)), (16, (1, v16)), (18, (1, v18)), (21, (1, v21))] [(1, w64 (2 * v6))] ε μ)) ∧ (v20 ≠ 0 → (m_ty [(0, (2, v0)), (1, (0, v1)), (3, (0, v3)), (4, (0, v4)), (5, (0, v5)), (6, (0, v6)), (7, (1, v7)), (9, (1, v9)), (11, (0, v11)), (12, (1, v12)), (14, (1, v14)), (16, (1, v16)), (18, (1, v18)), (21, (1, v21))] [] ε μ → G cd_X12_tells Q X 174 [(0, (2, v0)), (1, (0, v1)), (3, (0, v3)), (4, (0, v4)), (5, (0, v5)), (6, (0, v6)), (7, (1, v7)), (9, (1, v9)), (11, (0, v11)), (12, (1, v12)), (14, (1, v14)), (16, (1, v16)), (18, (1, v18)), (21, (1, v21))] [(1, w64 (64 + v6))] ε μ)))) ∧ (v6 = (-1) → (m_ty [(0, (2, v0)), (1, (0, v1)), (3, (0, v3)), (4, (0, v4)), (5, (0, v5)), (6, (0, v6)), (7, (1, v7)), (9, (1, v9)), (11, (0, v11)), (12, (1, v12)), (14, (1, v14)), (16, (1, v16)), (18, (1, v18)), (20, (0, v20)), (21, (1, v21))] [] ε μ → (v20 = 0 → (m_ty [(0, (2, v0)), (1, (0, v1)), (3, (0, v3)), (4, (0, v4)), (5, (0, v5)), (6, (0, v6)), (7, (1, v7)), (9, (1, v9)), (11, (0, v11)), (12, (1, v12)), (14, (1, v14)), (16, (1, v16)), (18, (1, v18)), (21, (1, v21))] [] ε μ → G cd_X12_tells Q X 174 [(0, (2, v0)), (1, (0, v1)), (3, (0, v3)), (4, (0, v4)), (5, (0, v5)), (6, (0, v6)), (7, (1, v7)), (9, (1, v9)), (11, (0, v11)), (12, (1, v12)), (14, (1, v14)), (16, (1, v16)), (18, (1, v18)), (21, (1, v21))] [(1, 0)] ε μ)) ∧ (v20 ≠ 0 → (m_ty [(0, (2, v0)), (1, (0, v1)), (3, (0, v3)), (4, (0, v4)), (5, (0, v5)), (6, (0, v6)), (7, (1, v7)), (9, (1, v9)), (11, (0, v11)), (12, (1, v12)), (14, (1, v14)), (16, (1, v16)), (18, (1, v18)), (21, (1, v21))] [] ε μ → G cd_X12_tells Q X 174 [(0, (2, v0)), (1, (0, v1)), (3, (0, v3)), (4, (0, v4)), (5, (0, v5)), (6, (0, v6)), (7, (1, v7)), (9, (1, v9)), (11, (0, v11)), (12, (1, v12)), (14, (1, v14)), (16, (1, v16)), (18, (1, v18)), (21, (1, v21))] [(1, 1)] ε μ))))
  intro hty
  replace h := h hty.1 (hty.2.1 _ (List.mem_of_getElem? (i := 1) rfl)) (hty.2.1 _ (List.mem_of_getElem? (i := 2) rfl)) (hty.2.1 _ (List.mem_of_getElem? (i := 3) rfl)) (hty.2.1 _ (List.mem_of_getElem? (i := 4) rfl)) (hty.2.1 _ (List.mem_of_getElem? (i := 5) rfl)) (hty.2.1 _ (List.mem_of_getElem? (i := 6) rfl)) (hty.2.1 _ (List.mem_of_getElem? (i := 7) rfl)) (hty.2.1 _ (List.mem_of_getElem? (i := 8) rfl)) (hty.2.1 _ (List.mem_of_getElem? (i := 9) rfl)) (hty.2.1 _ (List.mem_of_getElem? (i := 10) rfl)) (hty.2.1 _ (List.mem_of_getElem? (i := 11) rfl)) (hty.2.1 _ (List.mem_of_getElem? (i := 12) rfl)) (hty.2.1 _ (List.mem_of_getElem? (i := 13) rfl)) (hty.2.2 _ (List.mem_of_getElem? (i := 0) rfl))
  intro v21 e_v21
  replace h := h v21 e_v21
  have hj := h
  refine And.intro (fun c0 => ?_) (fun c0 => ?_)
  · intro _
    refine And.intro (fun c1 => ?_) (fun c1 => ?_)
    · intro _
      exact g_X12_tells_174 (fun _ _ _ _ _ _ _ _ _ _ _ _ _ _ _ => (hj _ (((if_neg (c0)).trans ((if_pos c1).trans rfl))).symm))
    · intro _
      exact g_X12_tells_174 (fun _ _ _ _ _ _ _ _ _ _ _ _ _ _ _ => (hj _ (((if_neg (c0)).trans ((if_neg (c1)).trans rfl))).symm))
  · intro _
    refine And.intro (fun c2 => ?_) (fun c2 => ?_)
    · intro _
      exact g_X12_tells_174 (fun _ _ _ _ _ _ _ _ _ _ _ _ _ _ _ => (hj _ (((if_pos c0).trans ((if_pos c2).trans rfl))).symm))
    · intro _
      exact g_X12_tells_174 (fun _ _ _ _ _ _ _ _ _ _ _ _ _ _ _ => (hj _ (((if_pos c0).trans ((if_neg (c2)).trans rfl))).symm))
set_option maxRecDepth 20000 in
theorem g_X12_tells_105 {Q X : m_Po} {v0 v1 v3 v4 v5 v6 v7 v9 v11 v12 v14 v16 v18 t : Int} {ε : m_E} {μ : m_M} (h : TY ε μ → i32 v1 → i32 v3 → i32 v4 → i32 v5 → i32 v6 → i64 v7 → i64 v9 → i32 v11 → i64 v12 → i64 v14 → i64 v16 → i64 v18 → i32 t → ∀ v20 : Int, v20 = t → ∀ t_1 : Int, t_1 = (if v6 = (-1) then if v20 = 0 then 1 else 4 else 256) → ∀ v21 : Int, v21 = t_1 → ∀ t_2 : Int, t_2 = (if v6 = (-1) then if v20 = 0 then 0 else 1 else if v20 = 0 then w64 (2 * v6) else w64 (64 + v6)) → ∀ v23 : Int, v23 = t_2 → kd ε v0 = 11 ∧ o_X12_point [(2, v0), (0, w32 (4 * v11)), (1, (-1)), (1, w64 ((w64 (v21 * v12)) + (w64 (v23 * (w64 (v16 - v12)))))), (1, w64 ((w64 (v21 * v14)) + (w64 (v23 * (w64 (v18 - v14)))))), (1, v21), (1, v7), (1, v9)] ε μ (fun z ε_1 μ_1 => G cd_X12_tells Q X 221 [(0, (2, v0)), (1, (0, v1)), (3, (0, v3)), (4, (0, v4)), (5, (0, v5)), (6, (0, v6)), (7, (1, v7)), (9, (1, v9)), (11, (0, v11)), (12, (1, v12)), (14, (1, v14)), (16, (1, v16)), (18, (1, v18)), (21, (1, v21)), (23, (1, v23))] [] ε_1 μ_1) m_F) : G cd_X12_tells Q X 105 [(0, (2, v0)), (1, (0, v1)), (3, (0, v3)), (4, (0, v4)), (5, (0, v5)), (6, (0, v6)), (7, (1, v7)), (9, (1, v9)), (11, (0, v11)), (12, (1, v12)), (14, (1, v14)), (16, (1, v16)), (18, (1, v18))] [(0, t)] ε μ := by
  refine G_run (m_in [11, 14, 48, 76, 85, 96, 100, 105, 131, 174, 221, 266, 277, 281, 301, 305, 309, 310, 358, 394, 422, 493, 499, 527, 543, 557, 573]) 53 _ _ _ _ ?_
  show m_ty [(0, (2, v0)), (1, (0, v1)), (3, (0, v3)), (4, (0, v4)), (5, (0, v5)), (6, (0, v6)), (7, (1, v7)), (9, (1, v9)), (11, (0, v11)), (12, (1, v12)), (14, (1, v14)), (16, (1, v16)), (18, (1, v18))] [(0, t)] ε μ → ∀ v20 : Int, v20 = t → (v6 ≠ (-1) → (m_ty [(0, (2, v0)), (1, (0, v1)), (3, (0, v3)), (4, (0, v4)), (5, (0, v5)), (6, (0, v6)), (7, (1, v7)), (9, (1, v9)), (11, (0, v11)), (12, (1, v12)), (14, (1, v14)), (16, (1, v16)), (18, (1, v18)), (20, (0, v20))] [] ε μ → G cd_X12_tells Q X 131 [(0, (2, v0)), (1, (0, v1)), (3, (0, v3)), (4, (0, v4)), (5, (0, v5)), (6, (0, v6)), (7, (1, v7)), (9, (1, v9)), (11, (0, v11)), (12, (1, v12)), (14, (1, v14)), (16, (1, v16)), (18, (1, v18)), (20, (0, v20))] [(1, 256)] ε μ)) ∧ (v6 = (-1) → (m_ty [(0, (2, v0)), (1, (0, v1)), (3, (0, v3)), (4, (0, v4)), (5, (0, v5)), (6, (0, v6)), (7, (1, v7)), (9, (1, v9)), (11, (0, v11)), (12, (1, v12)), (14, (1, v14)), (16, (1, v16)), (18, (1, v18)), (20, (0, v20))] [] ε μ → (v20 = 0 → (m_ty [(0, (2, v0)), (1, (0, v1)), (3, (0, v3)), (4, (0, v4)), (5, (0, v5)), (6, (0, v6)), (7, (1, v7)), (9, (1, v9)), (11, (0, v11)), (12, (1, v12)), (14, (1, v14)), (16, (1, v16)), (18, (1, v18)), (20, (0, v20))] [] ε μ → G cd_X12_tells Q X 131 [(0, (2, v0)), (1, (0, v1)), (3, (0, v3)), (4, (0, v4)), (5, (0, v5)), (6, (0, v6)), (7, (1, v7)), (9, (1, v9)), (11, (0, v11)), (12, (1, v12)), (14, (1, v14)), (16, (1, v16)), (18, (1, v18)), (20, (0, v20))] [(1, 1)] ε μ)) ∧ (v20 ≠ 0 → (m_ty [(0, (2, v0)), (1, (0, v1)), (3, (0, v3)), (4, (0, v4)), (5, (0, v5)), (6, (0, v6)), (7, (1, v7)), (9, (1, v9)), (11, (0, v11)), (12, (1, v12)), (14, (1, v14)), (16, (1, v16)), (18, (1, v18)), (20, (0, v20))] [] ε μ → G cd_X12_tells Q X 131 [(0, (2, v0)), (1, (0, v1)), (3, (0, v3)), (4, (0, v4)), (5, (0, v5)), (6, (0, v6)), (7, (1, v7)), (9, (1, v9)), (11, (0, v11)), (12, (1, v12)), (14, (1, v14)), (16, (1, v16)), (18, (1, v18)), (20, (0, v20))] [(1, 4)] ε μ))))
  intro hty
  replace h := h hty.1 (hty.2.1 _ (List.mem_of_getElem? (i := 1) rfl)) (hty.2.1 _ (List.mem_of_getElem? (i := 2) rfl)) (hty.2.1 _ (List.mem_of_getElem? (i := 3) rfl)) (hty.2.1 _ (List.mem_of_getElem? (i := 4) rfl)) (hty.2.1 _ (List.mem_of_getElem? (i := 5) rfl)) (hty.2.1 _ (List.mem_of_getElem? (i := 6) rfl)) (hty.2.1 _ (List.mem_of_getElem? (i := 7) rfl)) (hty.2.1 _ (List.mem_of_getElem? (i := 8) rfl)) (hty.2.1 _ (List.mem_of_getElem? (i := 9) rfl)) (hty.2.1 _ (List.mem_of_getElem? (i := 10) rfl)) (hty.2.1 _ (List.mem_of_getElem? (i := 11) rfl)) (hty.2.1 _ (List.mem_of_getElem? (i := 12) rfl)) (hty.2.2 _ (List.mem_of_getElem? (i := 0) rfl))
  intro v20 e_v20
  replace h := h v20 e_v20
  have hj := h
  refine And.intro (fun c0 => ?_) (fun c0 => ?_)
  · intro _
    exact g_X12_tells_131 (fun _ _ _ _ _ _ _ _ _ _ _ _ _ _ _ => (hj _ (((if_neg (c0)).trans rfl)).symm))
  · intro _
    refine And.intro (fun c1 => ?_) (fun c1 => ?_)
    · intro _
      exact g_X12_tells_131 (fun _ _ _ _ _ _ _ _ _ _ _ _ _ _ _ => (hj _ (((if_pos c0).trans ((if_pos c1).trans rfl))).symm))
    · intro _
      exact g_X12_tells_131 (fun _ _ _ _ _ _ _ _ _ _ _ _ _ _ _ => (hj _ (((if_pos c0).trans ((if_neg (c1)).trans rfl))).symm))
set_option maxRecDepth 20000 in
theorem g_X12_tells_100 {Q X : m_Po} {v0 v1 v3 v4 v5 v6 v7 v9 v11 v12 v14 v16 v18 : Int} {ε : m_E} {μ : m_M} (h : TY ε μ → i32 v1 → i32 v3 → i32 v4 → i32 v5 → i32 v6 → i64 v7 → i64 v9 → i32 v11 → i64 v12 → i64 v14 → i64 v16 → i64 v18 → G cd_X12_tells Q X 105 [(0, (2, v0)), (1, (0, v1)), (3, (0, v3)), (4, (0, v4)), (5, (0, v5)), (6, (0, v6)), (7, (1, v7)), (9, (1, v9)), (11, (0, v11)), (12, (1, v12)), (14, (1, v14)), (16, (1, v16)), (18, (1, v18))] [(0, 1)] ε μ) : G cd_X12_tells Q X 100 [(0, (2, v0)), (1, (0, v1)), (3, (0, v3)), (4, (0, v4)), (5, (0, v5)), (6, (0, v6)), (7, (1, v7)), (9, (1, v9)), (11, (0, v11)), (12, (1, v12)), (14, (1, v14)), (16, (1, v16)), (18, (1, v18))] [] ε μ := by
  refine G_run (m_in [11, 14, 48, 76, 85, 96, 100, 105, 131, 174, 221, 266, 277, 281, 301, 305, 309, 310, 358, 394, 422, 493, 499, 527, 543, 557, 573]) 53 _ _ _ _ ?_
  show m_ty [(0, (2, v0)), (1, (0, v1)), (3, (0, v3)), (4, (0, v4)), (5, (0, v5)), (6, (0, v6)), (7, (1, v7)), (9, (1, v9)), (11, (0, v11)), (12, (1, v12)), (14, (1, v14)), (16, (1, v16)), (18, (1, v18))] [] ε μ → G cd_X12_tells Q X 105 [(0, (2, v0)), (1, (0, v1)), (3, (0, v3)), (4, (0, v4)), (5, (0, v5)), (6, (0, v6)), (7, (1, v7)), (9, (1, v9)), (11, (0, v11)), (12, (1, v12)), (14, (1, v14)), (16, (1, v16)), (18, (1, v18))] [(0, 1)] ε μ
  intro hty
  replace h := h hty.1 (hty.2.1 _ (List.mem_of_getElem? (i := 1) rfl)) (hty.2.1 _ (List.mem_of_getElem? (i := 2) rfl)) (hty.2.1 _ (List.mem_of_getElem? (i := 3) rfl)) (hty.2.1 _ (List.mem_of_getElem? (i := 4) rfl)) (hty.2.1 _ (List.mem_of_getElem? (i := 5) rfl)) (hty.2.1 _ (List.mem_of_getElem? (i := 6) rfl)) (hty.2.1 _ (List.mem_of_getElem? (i := 7) rfl)) (hty.2.1 _ (List.mem_of_getElem? (i := 8) rfl)) (hty.2.1 _ (List.mem_of_getElem? (i := 9) rfl)) (hty.2.1 _ (List.mem_of_getElem? (i := 10) rfl)) (hty.2.1 _ (List.mem_of_getElem? (i := 11) rfl)) (hty.2.1 _ (List.mem_of_getElem? (i := 12) rfl))
  exact h
set_option maxRecDepth 20000 in
theorem g_X12_tells_96 {Q X : m_Po} {v0 v1 v3 v4 v5 v6 v7 v9 v11 v12 v14 v16 v18 t : Int} {ε : m_E} {μ : m_M} (h : TY ε μ → i32 v1 → i32 v3 → i32 v4 → i32 v5 → i32 v6 → i64 v7 → i64 v9 → i32 v11 → i64 v12 → i64 v14 → i64 v16 → i64 v18 → i32 t → (t < (3 : Int) → G cd_X12_tells Q X 105 [(0, (2, v0)), (1, (0, v1)), (3, (0, v3)), (4, (0, v4)), (5, (0, v5)), (6, (0, v6)), (7, (1, v7)), (9, (1, v9)), (11, (0, v11)), (12, (1, v12)), (14, (1, v14)), (16, (1, v16)), (18, (1, v18))] [(0, 0)] ε μ) ∧ ((3 : Int) ≤ t → G cd_X12_tells Q X 100 [(0, (2, v0)), (1, (0, v1)), (3, (0, v3)), (4, (0, v4)), (5, (0, v5)), (6, (0, v6)), (7, (1, v7)), (9, (1, v9)), (11, (0, v11)), (12, (1, v12)), (14, (1, v14)), (16, (1, v16)), (18, (1, v18))] [] ε μ)) : G cd_X12_tells Q X 96 [(0, (2, v0)), (1, (0, v1)), (3, (0, v3)), (4, (0, v4)), (5, (0, v5)), (6, (0, v6)), (7, (1, v7)), (9, (1, v9)), (11, (0, v11)), (12, (1, v12)), (14, (1, v14)), (16, (1, v16)), (18, (1, v18))] [(0, t)] ε μ := by
  refine G_run (m_in [11, 14, 48, 76, 85, 96, 100, 105, 131, 174, 221, 266, 277, 281, 301, 305, 309, 310, 358, 394, 422, 493, 499, 527, 543, 557, 573]) 53 _ _ _ _ ?_
  show m_ty [(0, (2, v0)), (1, (0, v1)), (3, (0, v3)), (4, (0, v4)), (5, (0, v5)), (6, (0, v6)), (7, (1, v7)), (9, (1, v9)), (11, (0, v11)), (12, (1, v12)), (14, (1, v14)), (16, (1, v16)), (18, (1, v18))] [(0, t)] ε μ → (t < (3 : Int) → (m_ty [(0, (2, v0)), (1, (0, v1)), (3, (0, v3)), (4, (0, v4)), (5, (0, v5)), (6, (0, v6)), (7, (1, v7)), (9, (1, v9)), (11, (0, v11)), (12, (1, v12)), (14, (1, v14)), (16, (1, v16)), (18, (1, v18))] [] ε μ → G cd_X12_tells Q X 105 [(0, (2, v0)), (1, (0, v1)), (3, (0, v3)), (4, (0, v4)), (5, (0, v5)), (6, (0, v6)), (7, (1, v7)), (9, (1, v9)), (11, (0, v11)), (12, (1, v12)), (14, (1, v14)), (16, (1, v16)), (18, (1, v18))] [(0, 0)] ε μ)) ∧ ((3 : Int) ≤ t → G cd_X12_tells Q X 100 [(0, (2, v0)), (1, (0, v1)), (3, (0, v3)), (4, (0, v4)), (5, (0, v5)), (6, (0, v6)), (7, (1, v7)), (9, (1, v9)), (11, (0, v11)), (12, (1, v12)), (14, (1, v14)), (16, (1, v16)), (18, (1, v18))] [] ε μ)
  intro hty
  replace h := h hty.1 (hty.2.1 _ (List.mem_of_getElem? (i := 1) rfl)) (hty.2.1 _ (List.mem_of_getElem? (i := 2) rfl)) (hty.2.1 _ (List.mem_of_getElem? (i := 3) rfl)) (hty.2.1 _ (List.mem_of_getElem? (i := 4) rfl)) (hty.2.1 _ (List.mem_of_getElem? (i := 5) rfl)) (hty.2.1 _ (List.mem_of_getElem? (i := 6) rfl)) (hty.2.1 _ (List.mem_of_getElem? (i := 7) rfl)) (hty.2.1 _ (List.mem_of_getElem? (i := 8) rfl)) (hty.2.1 _ (List.mem_of_getElem? (i := 9) rfl)) (hty.2.1 _ (List.mem_of_getElem? (i := 10) rfl)) (hty.2.1 _ (List.mem_of_getElem? (i := 11) rfl)) (hty.2.1 _ (List.mem_of_getElem? (i := 12) rfl)) (hty.2.2 _ (List.mem_of_getElem? (i := 0) rfl))
  obtain ⟨ha, hb⟩ := h
  refine And.intro (fun c0 => ?_) (fun c0 => ?_)
  · replace h := ha c0
    clear ha hb
    intro _
    exact h
  · replace h := hb c0
    clear ha hb
    exact h
set_option maxRecDepth 20000 in
theorem g_X12_tells_85 {Q X : m_Po} {v0 v1 v3 v4 v5 v6 v7 v9 v11 v12 v14 v16 v18 t : Int} {ε : m_E} {μ : m_M} (h : TY ε μ → i32 v1 → i32 v3 → i32 v4 → i32 v5 → i32 v6 → i64 v7 → i64 v9 → i32 v11 → i64 v12 → i64 v14 → i64 v16 → i64 v18 → i32 t → ((3 : Int) ≤ t → G cd_X12_tells Q X 100 [(0, (2, v0)), (1, (0, v1)), (3, (0, v3)), (4, (0, v4)), (5, (0, v5)), (6, (0, v6)), (7, (1, v7)), (9, (1, v9)), (11, (0, v11)), (12, (1, v12)), (14, (1, v14)), (16, (1, v16)), (18, (1, v18))] [] ε μ) ∧ (t < (3 : Int) → kd ε v0 = 11 ∧ o_X12_kindAt [(2, v0), (0, v1), (0, v11)] ε μ (fun z ε_1 μ_1 => G cd_X12_tells Q X 96 [(0, (2, v0)), (1, (0, v1)), (3, (0, v3)), (4, (0, v4)), (5, (0, v5)), (6, (0, v6)), (7, (1, v7)), (9, (1, v9)), (11, (0, v11)), (12, (1, v12)), (14, (1, v14)), (16, (1, v16)), (18, (1, v18))] [(0, z)] ε_1 μ_1) m_F)) : G cd_X12_tells Q X 85 [(0, (2, v0)), (1, (0, v1)), (3, (0, v3)), (4, (0, v4)), (5, (0, v5)), (6, (0, v6)), (7, (1, v7)), (9, (1, v9)), (11, (0, v11)), (12, (1, v12)), (14, (1, v14)), (16, (1, v16)), (18, (1, v18))] [(0, t)] ε μ := by
  refine G_run (m_in [11, 14, 48, 76, 85, 96, 100, 105, 131, 174, 221, 266, 277, 281, 301, 305, 309, 310, 358, 394, 422, 493, 499, 527, 543, 557, 573]) 53 _ _ _ _ ?_
  show m_ty [(0, (2, v0)), (1, (0, v1)), (3, (0, v3)), (4, (0, v4)), (5, (0, v5)), (6, (0, v6)), (7, (1, v7)), (9, (1, v9)), (11, (0, v11)), (12, (1, v12)), (14, (1, v14)), (16, (1, v16)), (18, (1, v18))] [(0, t)] ε μ → ((3 : Int) ≤ t → G cd_X12_tells Q X 100 [(0, (2, v0)), (1, (0, v1)), (3, (0, v3)), (4, (0, v4)), (5, (0, v5)), (6, (0, v6)), (7, (1, v7)), (9, (1, v9)), (11, (0, v11)), (12, (1, v12)), (14, (1, v14)), (16, (1, v16)), (18, (1, v18))] [] ε μ) ∧ (t < (3 : Int) → (m_ty [(0, (2, v0)), (1, (0, v1)), (3, (0, v3)), (4, (0, v4)), (5, (0, v5)), (6, (0, v6)), (7, (1, v7)), (9, (1, v9)), (11, (0, v11)), (12, (1, v12)), (14, (1, v14)), (16, (1, v16)), (18, (1, v18))] [] ε μ → (kd ε v0 = 11) ∧ o_X12_kindAt [(2, v0), (0, v1), (0, v11)] ε μ (fun z ε_1 μ_1 => G cd_X12_tells Q X 96 [(0, (2, v0)), (1, (0, v1)), (3, (0, v3)), (4, (0, v4)), (5, (0, v5)), (6, (0, v6)), (7, (1, v7)), (9, (1, v9)), (11, (0, v11)), (12, (1, v12)), (14, (1, v14)), (16, (1, v16)), (18, (1, v18))] [(0, z)] ε_1 μ_1) m_F))
  intro hty
  replace h := h hty.1 (hty.2.1 _ (List.mem_of_getElem? (i := 1) rfl)) (hty.2.1 _ (List.mem_of_getElem? (i := 2) rfl)) (hty.2.1 _ (List.mem_of_getElem? (i := 3) rfl)) (hty.2.1 _ (List.mem_of_getElem? (i := 4) rfl)) (hty.2.1 _ (List.mem_of_getElem? (i := 5) rfl)) (hty.2.1 _ (List.mem_of_getElem? (i := 6) rfl)) (hty.2.1 _ (List.mem_of_getElem? (i := 7) rfl)) (hty.2.1 _ (List.mem_of_getElem? (i := 8) rfl)) (hty.2.1 _ (List.mem_of_getElem? (i := 9) rfl)) (hty.2.1 _ (List.mem_of_getElem? (i := 10) rfl)) (hty.2.1 _ (List.mem_of_getElem? (i := 11) rfl)) (hty.2.1 _ (List.mem_of_getElem? (i := 12) rfl)) (hty.2.2 _ (List.mem_of_getElem? (i := 0) rfl))
  obtain ⟨ha, hb⟩ := h
  refine And.intro (fun c1 => ?_) (fun c1 => ?_)
  · replace h := ha c1
    clear ha hb
    exact h
  · replace h := hb c1
    clear ha hb
    intro _
    obtain ⟨k1, h⟩ := h
    refine And.intro k1 ?_
    exact h
set_option maxRecDepth 20000 in
theorem g_X12_tells_76 {Q X : m_Po} {v0 v1 v3 v4 v5 v6 v7 v9 v11 v12 v14 v16 v18 : Int} {ε : m_E} {μ : m_M} (h : TY ε μ → i32 v1 → i32 v3 → i32 v4 → i32 v5 → i32 v6 → i64 v7 → i64 v9 → i32 v11 → i64 v12 → i64 v14 → i64 v16 → i64 v18 → kd ε v0 = 11 ∧ o_X12_kindAt [(2, v0), (0, v1), (0, w32 (v11 - 1))] ε μ (fun z ε_1 μ_1 => G cd_X12_tells Q X 85 [(0, (2, v0)), (1, (0, v1)), (3, (0, v3)), (4, (0, v4)), (5, (0, v5)), (6, (0, v6)), (7, (1, v7)), (9, (1, v9)), (11, (0, v11)), (12, (1, v12)), (14, (1, v14)), (16, (1, v16)), (18, (1, v18))] [(0, z)] ε_1 μ_1) m_F) : G cd_X12_tells Q X 76 [(0, (2, v0)), (1, (0, v1)), (3, (0, v3)), (4, (0, v4)), (5, (0, v5)), (6, (0, v6)), (7, (1, v7)), (9, (1, v9)), (11, (0, v11)), (12, (1, v12)), (14, (1, v14)), (16, (1, v16)), (18, (1, v18))] [] ε μ := by
  refine G_run (m_in [11, 14, 48, 76, 85, 96, 100, 105, 131, 174, 221, 266, 277, 281, 301, 305, 309, 310, 358, 394, 422, 493, 499, 527, 543, 557, 573]) 53 _ _ _ _ ?_
  show m_ty [(0, (2, v0)), (1, (0, v1)), (3, (0, v3)), (4, (0, v4)), (5, (0, v5)), (6, (0, v6)), (7, (1, v7)), (9, (1, v9)), (11, (0, v11)), (12, (1, v12)), (14, (1, v14)), (16, (1, v16)), (18, (1, v18))] [] ε μ → (kd ε v0 = 11) ∧ o_X12_kindAt [(2, v0), (0, v1), (0, w32 (v11 - 1))] ε μ (fun z ε_1 μ_1 => G cd_X12_tells Q X 85 [(0, (2, v0)), (1, (0, v1)), (3, (0, v3)), (4, (0, v4)), (5, (0, v5)), (6, (0, v6)), (7, (1, v7)), (9, (1, v9)), (11, (0, v11)), (12, (1, v12)), (14, (1, v14)), (16, (1, v16)), (18, (1, v18))] [(0, z)] ε_1 μ_1) m_F
  intro hty
  replace h := h hty.1 (hty.2.1 _ (List.mem_of_getElem? (i := 1) rfl)) (hty.2.1 _ (List.mem_of_getElem? (i := 2) rfl)) (hty.2.1 _ (List.mem_of_getElem? (i := 3) rfl)) (hty.2.1 _ (List.mem_of_getElem? (i := 4) rfl)) (hty.2.1 _ (List.mem_of_getElem? (i := 5) rfl)) (hty.2.1 _ (List.mem_of_getElem? (i := 6) rfl)) (hty.2.1 _ (List.mem_of_getElem? (i := 7) rfl)) (hty.2.1 _ (List.mem_of_getElem? (i := 8) rfl)) (hty.2.1 _ (List.mem_of_getElem? (i := 9) rfl)) (hty.2.1 _ (List.mem_of_getElem? (i := 10) rfl)) (hty.2.1 _ (List.mem_of_getElem? (i := 11) rfl)) (hty.2.1 _ (List.mem_of_getElem? (i := 12) rfl))
  obtain ⟨k1, h⟩ := h
  refine And.intro k1 ?_
  exact h
set_option maxRecDepth 20000 in
theorem g_X12_tells_48 {Q X : m_Po} {v0 v1 v3 v4 v5 v6 v7 v9 v11 v12 v14 : Int} {ε : m_E} {μ : m_M} (h : TY ε μ → i32 v1 → i32 v3 → i32 v4 → i32 v5 → i32 v6 → i64 v7 → i64 v9 → i32 v11 → i64 v12 → i64 v14 → kd ε v0 = 11 ∧ kd ε (fn ε v0 28) = 100 ∧ (0 : Int) ≤ w32 ((w32 (4 * v11)) + 2) ∧ w32 ((w32 (4 * v11)) + 2) < ln ε (fn ε v0 28) ∧ ∀ v16 : Int, v16 = μ (fn ε v0 28) (w32 ((w32 (4 * v11)) + 2)) → (0 : Int) ≤ w32 ((w32 (4 * v11)) + 3) ∧ w32 ((w32 (4 * v11)) + 3) < ln ε (fn ε v0 28) ∧ ∀ v18 : Int, v18 = μ (fn ε v0 28) (w32 ((w32 (4 * v11)) + 3)) → kd ε v0 = 11 ∧ o_X12_kindAt [(2, v0), (0, v1), (0, w32 (v11 - 1))] ε μ (fun z ε_1 μ_1 => G cd_X12_tells Q X 85 [(0, (2, v0)), (1, (0, v1)), (3, (0, v3)), (4, (0, v4)), (5, (0, v5)), (6, (0, v6)), (7, (1, v7)), (9, (1, v9)), (11, (0, v11)), (12, (1, v12)), (14, (1, v14)), (16, (1, v16)), (18, (1, v18))] [(0, z)] ε_1 μ_1) m_F) : G cd_X12_tells Q X 48 [(0, (2, v0)), (1, (0, v1)), (3, (0, v3)), (4, (0, v4)), (5, (0, v5)), (6, (0, v6)), (7, (1, v7)), (9, (1, v9)), (11, (0, v11)), (12, (1, v12)), (14, (1, v14))] [] ε μ := by
  refine G_run (m_in [11, 14, 48, 76, 85, 96, 100, 105, 131, 174, 221, 266, 277, 281, 301, 305, 309, 310, 358, 394, 422, 493, 499, 527, 543, 557, 573]) 53 _ _ _ _ ?_
  show m_ty [(0, (2, v0)), (1, (0, v1)), (3, (0, v3)), (4, (0, v4)), (5, (0, v5)), (6, (0, v6)), (7, (1, v7)), (9, (1, v9)), (11, (0, v11)), (12, (1, v12)), (14, (1, v14))] [] ε μ → (kd ε v0 = 11) ∧ (kd ε (fn ε v0 28) = 100) ∧ ((0 : Int) ≤ w32 ((w32 (4 * v11)) + 2) ∧ w32 ((w32 (4 * v11)) + 2) < ln ε (fn ε v0 28)) ∧ ∀ v16 : Int, v16 = μ (fn ε v0 28) (w32 ((w32 (4 * v11)) + 2)) → (kd ε v0 = 11) ∧ (kd ε (fn ε v0 28) = 100) ∧ ((0 : Int) ≤ w32 ((w32 (4 * v11)) + 3) ∧ w32 ((w32 (4 * v11)) + 3) < ln ε (fn ε v0 28)) ∧ ∀ v18 : Int, v18 = μ (fn ε v0 28) (w32 ((w32 (4 * v11)) + 3)) → G cd_X12_tells Q X 76 [(0, (2, v0)), (1, (0, v1)), (3, (0, v3)), (4, (0, v4)), (5, (0, v5)), (6, (0, v6)), (7, (1, v7)), (9, (1, v9)), (11, (0, v11)), (12, (1, v12)), (14, (1, v14)), (16, (1, v16)), (18, (1, v18))] [] ε μ
  intro hty
  replace h := h hty.1 (hty.2.1 _ (List.mem_of_getElem? (i := 1) rfl)) (hty.2.1 _ (List.mem_of_getElem? (i := 2) rfl)) (hty.2.1 _ (List.mem_of_getElem? (i := 3) rfl)) (hty.2.1 _ (List.mem_of_getElem? (i := 4) rfl)) (hty.2.1 _ (List.mem_of_getElem? (i := 5) rfl)) (hty.2.1 _ (List.mem_of_getElem? (i := 6) rfl)) (hty.2.1 _ (List.mem_of_getElem? (i := 7) rfl)) (hty.2.1 _ (List.mem_of_getElem? (i := 8) rfl)) (hty.2.1 _ (List.mem_of_getElem? (i := 9) rfl)) (hty.2.1 _ (List.mem_of_getElem? (i := 10) rfl))
  obtain ⟨k1, h⟩ := h
  refine And.intro k1 ?_
  obtain ⟨k2, h⟩ := h
  refine And.intro k2 ?_
  obtain ⟨k3, h⟩ := h
  obtain ⟨k4, h⟩ := h
  refine And.intro (And.intro k3 k4) ?_
  intro v16 e_v16
  replace h := h v16 e_v16
  refine And.intro k1 ?_
  refine And.intro k2 ?_
  obtain ⟨k5, h⟩ := h
  obtain ⟨k6, h⟩ := h
  refine And.intro (And.intro k5 k6) ?_
  intro v18 e_v18
  replace h := h v18 e_v18
  exact g_X12_tells_76 (fun _ _ _ _ _ _ _ _ _ _ _ _ _ => h)
set_option maxRecDepth 20000 in
theorem g_X12_tells_14 {Q X : m_Po} {v0 v1 v3 v4 v5 v6 v7 v9 v11 : Int} {ε : m_E} {μ : m_M} (h : TY ε μ → i32 v1 → i32 v3 → i32 v4 → i32 v5 → i32 v6 → i64 v7 → i64 v9 → i32 v11 → ((w32 (v3 + 1)) < v11 → kd ε v0 = 11 ∧ kd ε (fn ε v0 17) = 100 ∧ (0 : Int) ≤ v1 ∧ v1 < ln ε (fn ε v0 17) ∧ ∀ v11_1 : Int, v11_1 = w32 (4 * (w32 ((μ (fn ε v0 17) v1) + 1))) → o_X12_keeps [(2, v0), (0, v11_1), (1, 1), (1, 0), (1, 0), (1, 0)] ε μ (fun z ε_1 μ_1 => G cd_X12_tells Q X 527 [(0, (2, v0)), (11, (0, v11_1))] [] ε_1 μ_1) m_F) ∧ (v11 ≤ (w32 (v3 + 1)) → kd ε v0 = 11 ∧ kd ε (fn ε v0 28) = 100 ∧ (0 : Int) ≤ w32 (4 * v11) ∧ w32 (4 * v11) < ln ε (fn ε v0 28) ∧ ∀ v12 : Int, v12 = μ (fn ε v0 28) (w32 (4 * v11)) → (0 : Int) ≤ w32 ((w32 (4 * v11)) + 1) ∧ w32 ((w32 (4 * v11)) + 1) < ln ε (fn ε v0 28) ∧ ∀ v14 : Int, v14 = μ (fn ε v0 28) (w32 ((w32 (4 * v11)) + 1)) → kd ε v0 = 11 ∧ kd ε (fn ε v0 28) = 100 ∧ (0 : Int) ≤ w32 ((w32 (4 * v11)) + 2) ∧ w32 ((w32 (4 * v11)) + 2) < ln ε (fn ε v0 28) ∧ ∀ v16 : Int, v16 = μ (fn ε v0 28) (w32 ((w32 (4 * v11)) + 2)) → (0 : Int) ≤ w32 ((w32 (4 * v11)) + 3) ∧ w32 ((w32 (4 * v11)) + 3) < ln ε (fn ε v0 28) ∧ ∀ v18 : Int, v18 = μ (fn ε v0 28) (w32 ((w32 (4 * v11)) + 3)) → kd ε v0 = 11 ∧ o_X12_kindAt [(2, v0), (0, v1), (0, w32 (v11 - 1))] ε μ (fun z_1 ε_2 μ_2 => G cd_X12_tells Q X 85 [(0, (2, v0)), (1, (0, v1)), (3, (0, v3)), (4, (0, v4)), (5, (0, v5)), (6, (0, v6)), (7, (1, v7)), (9, (1, v9)), (11, (0, v11)), (12, (1, v12)), (14, (1, v14)), (16, (1, v16)), (18, (1, v18))] [(0, z_1)] ε_2 μ_2) m_F)) : G cd_X12_tells Q X 14 [(0, (2, v0)), (1, (0, v1)), (3, (0, v3)), (4, (0, v4)), (5, (0, v5)), (6, (0, v6)), (7, (1, v7)), (9, (1, v9)), (11, (0, v11))] [] ε μ := by
  refine G_run (m_in [11, 14, 48, 76, 85, 96, 100, 105, 131, 174, 221, 266, 277, 281, 301, 305, 309, 310, 358, 394, 422, 493, 499, 527, 543, 557, 573]) 53 _ _ _ _ ?_
  show m_ty [(0, (2, v0)), (1, (0, v1)), (3, (0, v3)), (4, (0, v4)), (5, (0, v5)), (6, (0, v6)), (7, (1, v7)), (9, (1, v9)), (11, (0, v11))] [] ε μ → ((w32 (v3 + 1)) < v11 → (m_ty [(0, (2, v0)), (1, (0, v1))] [] ε μ → (kd ε v0 = 11) ∧ (kd ε (fn ε v0 17) = 100) ∧ ((0 : Int) ≤ v1 ∧ v1 < ln ε (fn ε v0 17)) ∧ ∀ v11_1 : Int, v11_1 = w32 (4 * (w32 ((μ (fn ε v0 17) v1) + 1))) → (kd ε v0 = 11) ∧ o_X12_keeps [(2, v0), (0, v11_1), (1, 1), (1, 0), (1, 0), (1, 0)] ε μ (fun z ε_1 μ_1 => G cd_X12_tells Q X 527 [(0, (2, v0)), (11, (0, v11_1))] [] ε_1 μ_1) m_F)) ∧ (v11 ≤ (w32 (v3 + 1)) → (m_ty [(0, (2, v0)), (1, (0, v1)), (3, (0, v3)), (4, (0, v4)), (5, (0, v5)), (6, (0, v6)), (7, (1, v7)), (9, (1, v9)), (11, (0, v11))] [] ε μ → (kd ε v0 = 11) ∧ (kd ε (fn ε v0 28) = 100) ∧ ((0 : Int) ≤ w32 (4 * v11) ∧ w32 (4 * v11) < ln ε (fn ε v0 28)) ∧ ∀ v12 : Int, v12 = μ (fn ε v0 28) (w32 (4 * v11)) → (kd ε v0 = 11) ∧ (kd ε (fn ε v0 28) = 100) ∧ ((0 : Int) ≤ w32 ((w32 (4 * v11)) + 1) ∧ w32 ((w32 (4 * v11)) + 1) < ln ε (fn ε v0 28)) ∧ ∀ v14 : Int, v14 = μ (fn ε v0 28) (w32 ((w32 (4 * v11)) + 1)) → G cd_X12_tells Q X 48 [(0, (2, v0)), (1, (0, v1)), (3, (0, v3)), (4, (0, v4)), (5, (0, v5)), (6, (0, v6)), (7, (1, v7)), (9, (1, v9)), (11, (0, v11)), (12, (1, v12)), (14, (1, v14))] [] ε μ))
  intro hty
  replace h := h hty.1 (hty.2.1 _ (List.mem_of_getElem? (i := 1) rfl)) (hty.2.1 _ (List.mem_of_getElem? (i := 2) rfl)) (hty.2.1 _ (List.mem_of_getElem? (i := 3) rfl)) (hty.2.1 _ (List.mem_of_getElem? (i := 4) rfl)) (hty.2.1 _ (List.mem_of_getElem? (i := 5) rfl)) (hty.2.1 _ (List.mem_of_getElem? (i := 6) rfl)) (hty.2.1 _ (List.mem_of_getElem? (i := 7) rfl)) (hty.2.1 _ (List.mem_of_getElem? (i := 8) rfl))
  obtain ⟨ha, hb⟩ := h
  refine And.intro (fun c17 => ?_) (fun c17 => ?_)
  · replace h := ha c17
    clear ha hb
    intro _
    obtain ⟨k1, h⟩ := h
    refine And.intro k1 ?_
    obtain ⟨k2, h⟩ := h
    refine And.intro k2 ?_
    obtain ⟨k3, h⟩ := h
    obtain ⟨k4, h⟩ := h
    refine And.intro (And.intro k3 k4) ?_
    intro v11_1 e_v11_1
    replace h := h v11_1 e_v11_1
    refine And.intro k1 ?_
    exact h
  · replace h := hb c17
    clear ha hb
    intro _
    obtain ⟨k5, h⟩ := h
    refine And.intro k5 ?_
    obtain ⟨k6, h⟩ := h
    refine And.intro k6 ?_
    obtain ⟨k7, h⟩ := h
    obtain ⟨k8, h⟩ := h
    refine And.intro (And.intro k7 k8) ?_
    intro v12 e_v12
    replace h := h v12 e_v12
    refine And.intro k5 ?_
    refine And.intro k6 ?_
    obtain ⟨k9, h⟩ := h
    obtain ⟨k10, h⟩ := h
    refine And.intro (And.intro k9 k10) ?_
    intro v14 e_v14
    replace h := h v14 e_v14
    exact g_X12_tells_48 (fun _ _ _ _ _ _ _ _ _ _ _ => h)
set_option maxRecDepth 20000 in
theorem g_X12_tells_11 {Q X : m_Po} {v0 v1 v2 v3 v4 v5 v6 v7 v9 : Int} {ε : m_E} {μ : m_M} (h : TY ε μ → i32 v1 → i32 v2 → i32 v3 → i32 v4 → i32 v5 → i32 v6 → i64 v7 → i64 v9 → ∀ v11 : Int, v11 = v2 → G cd_X12_tells Q X 14 [(0, (2, v0)), (1, (0, v1)), (3, (0, v3)), (4, (0, v4)), (5, (0, v5)), (6, (0, v6)), (7, (1, v7)), (9, (1, v9)), (11, (0, v11))] [] ε μ) : G cd_X12_tells Q X 11 [(0, (2, v0)), (1, (0, v1)), (2, (0, v2)), (3, (0, v3)), (4, (0, v4)), (5, (0, v5)), (6, (0, v6)), (7, (1, v7)), (9, (1, v9))] [] ε μ := by
  refine G_run (m_in [11, 14, 48, 76, 85, 96, 100, 105, 131, 174, 221, 266, 277, 281, 301, 305, 309, 310, 358, 394, 422, 493, 499, 527, 543, 557, 573]) 53 _ _ _ _ ?_
  show m_ty [(0, (2, v0)), (1, (0, v1)), (2, (0, v2)), (3, (0, v3)), (4, (0, v4)), (5, (0, v5)), (6, (0, v6)), (7, (1, v7)), (9, (1, v9))] [] ε μ → ∀ v11 : Int, v11 = v2 → G cd_X12_tells Q X 14 [(0, (2, v0)), (1, (0, v1)), (3, (0, v3)), (4, (0, v4)), (5, (0, v5)), (6, (0, v6)), (7, (1, v7)), (9, (1, v9)), (11, (0, v11))] [] ε μ
  intro hty
  replace h := h hty.1 (hty.2.1 _ (List.mem_of_getElem? (i := 1) rfl)) (hty.2.1 _ (List.mem_of_getElem? (i := 2) rfl)) (hty.2.1 _ (List.mem_of_getElem? (i := 3) rfl)) (hty.2.1 _ (List.mem_of_getElem? (i := 4) rfl)) (hty.2.1 _ (List.mem_of_getElem? (i := 5) rfl)) (hty.2.1 _ (List.mem_of_getElem? (i := 6) rfl)) (hty.2.1 _ (List.mem_of_getElem? (i := 7) rfl)) (hty.2.1 _ (List.mem_of_getElem? (i := 8) rfl))
  intro v11 e_v11
  replace h := h v11 e_v11
  exact h
set_option maxRecDepth 20000 in
theorem g_X12_tells_0 {Q X : m_Po} {v0 v1 v2 v3 v4 v5 v6 : Int} {ε : m_E} {μ : m_M} (h : TY ε μ → i32 v1 → i32 v2 → i32 v3 → i32 v4 → i32 v5 → i32 v6 → kd ε v0 = 11 ∧ ∀ μ_1 : m_M, μ_1 = st μ v0 35 0 → ∀ v7 : Int, v7 = 0 → ∀ v9 : Int, v9 = 0 → ∀ v11 : Int, v11 = v2 → G cd_X12_tells Q X 14 [(0, (2, v0)), (1, (0, v1)), (3, (0, v3)), (4, (0, v4)), (5, (0, v5)), (6, (0, v6)), (7, (1, v7)), (9, (1, v9)), (11, (0, v11))] [] ε μ_1) : G cd_X12_tells Q X 0 [(0, (2, v0)), (1, (0, v1)), (2, (0, v2)), (3, (0, v3)), (4, (0, v4)), (5, (0, v5)), (6, (0, v6))] [] ε μ := by
  refine G_run (m_in [11, 14, 48, 76, 85, 96, 100, 105, 131, 174, 221, 266, 277, 281, 301, 305, 309, 310, 358, 394, 422, 493, 499, 527, 543, 557, 573]) 53 _ _ _ _ ?_
  show m_ty [(0, (2, v0)), (1, (0, v1)), (2, (0, v2)), (3, (0, v3)), (4, (0, v4)), (5, (0, v5)), (6, (0, v6))] [] ε μ → (kd ε v0 = 11) ∧ ∀ μ_1 : m_M, μ_1 = st μ v0 35 0 → ∀ v7 : Int, v7 = 0 → ∀ v9 : Int, v9 = 0 → G cd_X12_tells Q X 11 [(0, (2, v0)), (1, (0, v1)), (2, (0, v2)), (3, (0, v3)), (4, (0, v4)), (5, (0, v5)), (6, (0, v6)), (7, (1, v7)), (9, (1, v9))] [] ε μ_1
  intro hty
  replace h := h hty.1 (hty.2.1 _ (List.mem_of_getElem? (i := 1) rfl)) (hty.2.1 _ (List.mem_of_getElem? (i := 2) rfl)) (hty.2.1 _ (List.mem_of_getElem? (i := 3) rfl)) (hty.2.1 _ (List.mem_of_getElem? (i := 4) rfl)) (hty.2.1 _ (List.mem_of_getElem? (i := 5) rfl)) (hty.2.1 _ (List.mem_of_getElem? (i := 6) rfl))
  obtain ⟨k1, h⟩ := h
  refine And.intro k1 ?_
  intro μ_1 e_μ_1
  replace h := h μ_1 e_μ_1
  intro v7 e_v7
  replace h := h v7 e_v7
  intro v9 e_v9
  replace h := h v9 e_v9
  exact g_X12_tells_11 (fun _ _ _ _ _ _ _ _ _ => h)
theorem e_X12_tells {Q X : m_Po} {v0 v1 v2 v3 v4 v5 v6 : Int} {ε : m_E} {μ : m_M} (h : TY ε μ → i32 v1 → i32 v2 → i32 v3 → i32 v4 → i32 v5 → i32 v6 → kd ε v0 = 11 ∧ ∀ μ_1 : m_M, μ_1 = st μ v0 35 0 → ∀ v7 : Int, v7 = 0 → ∀ v9 : Int, v9 = 0 → ∀ v11 : Int, v11 = v2 → G cd_X12_tells Q X 14 [(0, (2, v0)), (1, (0, v1)), (3, (0, v3)), (4, (0, v4)), (5, (0, v5)), (6, (0, v6)), (7, (1, v7)), (9, (1, v9)), (11, (0, v11))] [] ε μ_1) : o_X12_tells [(2, v0), (0, v1), (0, v2), (0, v3), (0, v4), (0, v5), (0, v6)] ε μ Q X := And.intro rfl (g_X12_tells_0 h)
/-! ArchYardModel.isJudged(IIZ)Z -/
set_option maxRecDepth 20000 in
theorem g_X12_isJudged_57 {Q X : m_Po} {t : Int} {ε : m_E} {μ : m_M} (h : TY ε μ → i32 t → (t = 0 ∨ t = 1) ∧ Q t ε μ) : G cd_X12_isJudged Q X 57 [] [(0, t)] ε μ := by
  refine G_run (m_in [5, 24, 33, 42, 57]) 16 _ _ _ _ ?_
  show m_ty [] [(0, t)] ε μ → (t = 0 ∨ t = 1) ∧ Q t ε μ
  intro hty
  replace h := h hty.1 (hty.2.2 _ (List.mem_of_getElem? (i := 0) rfl))
  obtain ⟨k1, h⟩ := h
  refine And.intro k1 ?_
  exact h
set_option maxRecDepth 20000 in
theorem g_X12_isJudged_42 {Q X : m_Po} {v0 t t_1 : Int} {ε : m_E} {μ : m_M} (h : TY ε μ → i32 t_1 → kd ε t = 11 ∧ ∀ μ_1 : m_M, μ_1 = st μ t 0 t_1 → kd ε v0 = 11 ∧ ∀ t_2 : Int, t_2 = (if (μ_1 v0 0) = 0 then 1 else 0) → Q t_2 ε μ_1) : G cd_X12_isJudged Q X 42 [(0, (2, v0))] [(0, t_1), (2, t)] ε μ := by
  refine G_run (m_in [5, 24, 33, 42, 57]) 16 _ _ _ _ ?_
  show m_ty [(0, (2, v0))] [(0, t_1), (2, t)] ε μ → (kd ε t = 11) ∧ ∀ μ_1 : m_M, μ_1 = st μ t 0 t_1 → (kd ε v0 = 11) ∧ ((μ_1 v0 0) ≠ 0 → (m_ty [] [] ε μ_1 → G cd_X12_isJudged Q X 57 [] [(0, 0)] ε μ_1)) ∧ ((μ_1 v0 0) = 0 → (m_ty [] [] ε μ_1 → G cd_X12_isJudged Q X 57 [] [(0, 1)] ε μ_1))
  intro hty
  replace h := h hty.1 (hty.2.2 _ (List.mem_of_getElem? (i := 0) rfl))
  obtain ⟨k1, h⟩ := h
  refine And.intro k1 ?_
  intro μ_1 e_μ_1
  replace h := h μ_1 e_μ_1
  obtain ⟨k2, h⟩ := h
  refine And.intro k2 ?_
  have hj := h
  refine And.intro (fun c2 => ?_) (fun c2 => ?_)
  · intro _
    exact g_X12_isJudged_57 (fun _ _ => (And.intro (Or.inl rfl) (hj _ (((if_neg (c2)).trans rfl)).symm)))
  · intro _
    exact g_X12_isJudged_57 (fun _ _ => (And.intro (Or.inr rfl) (hj _ (((if_pos c2).trans rfl)).symm)))
set_option maxRecDepth 20000 in
theorem g_X12_isJudged_33 {Q X : m_Po} {v0 t t_1 : Int} {ε : m_E} {μ : m_M} (h : TY ε μ → i32 t_1 → ∀ t_2 : Int, t_2 = (if t_1 = (-1) then 0 else 3) → G cd_X12_isJudged Q X 42 [(0, (2, v0))] [(0, t_2), (2, t)] ε μ) : G cd_X12_isJudged Q X 33 [(0, (2, v0))] [(0, t_1), (2, t)] ε μ := by
  refine G_run (m_in [5, 24, 33, 42, 57]) 16 _ _ _ _ ?_
  show m_ty [(0, (2, v0))] [(0, t_1), (2, t)] ε μ → (t_1 = (-1) → (m_ty [(0, (2, v0))] [(2, t)] ε μ → G cd_X12_isJudged Q X 42 [(0, (2, v0))] [(0, 0), (2, t)] ε μ)) ∧ (t_1 ≠ (-1) → (m_ty [(0, (2, v0))] [(2, t)] ε μ → G cd_X12_isJudged Q X 42 [(0, (2, v0))] [(0, 3), (2, t)] ε μ))
  intro hty
  replace h := h hty.1 (hty.2.2 _ (List.mem_of_getElem? (i := 0) rfl))
  have hj := h
  refine And.intro (fun c0 => ?_) (fun c0 => ?_)
  · intro _
    exact (hj _ (((if_pos c0).trans rfl)).symm)
  · intro _
    exact (hj _ (((if_neg (c0)).trans rfl)).symm)
set_option maxRecDepth 20000 in
theorem g_X12_isJudged_24 {Q X : m_Po} {v0 t : Int} {ε : m_E} {μ : m_M} (h : TY ε μ → G cd_X12_isJudged Q X 42 [(0, (2, v0))] [(0, 2), (2, t)] ε μ) : G cd_X12_isJudged Q X 24 [(0, (2, v0))] [(2, t)] ε μ := by
  refine G_run (m_in [5, 24, 33, 42, 57]) 16 _ _ _ _ ?_
  show m_ty [(0, (2, v0))] [(2, t)] ε μ → G cd_X12_isJudged Q X 42 [(0, (2, v0))] [(0, 2), (2, t)] ε μ
  intro hty
  replace h := h hty.1 
  exact h
set_option maxRecDepth 20000 in
theorem g_X12_isJudged_5 {Q X : m_Po} {v0 v1 v2 v3 t : Int} {ε : m_E} {μ : m_M} (h : TY ε μ → i32 v1 → i32 v2 → i32 v3 → i32 t → (t ≠ 0 → (v2 < 0 → G cd_X12_isJudged Q X 24 [(0, (2, v0))] [(2, v0)] ε μ) ∧ (0 ≤ v2 → ((1 : Int) < v2 → G cd_X12_isJudged Q X 24 [(0, (2, v0))] [(2, v0)] ε μ) ∧ (v2 ≤ (1 : Int) → (v3 = 0 → kd ε v0 = 11 ∧ o_X12_holeOf [(2, v0), (0, v1)] ε μ (fun z ε_1 μ_1 => G cd_X12_isJudged Q X 33 [(0, (2, v0))] [(0, z), (2, v0)] ε_1 μ_1) m_F) ∧ (v3 ≠ 0 → G cd_X12_isJudged Q X 24 [(0, (2, v0))] [(2, v0)] ε μ)))) ∧ (t = 0 → Q 0 ε μ)) : G cd_X12_isJudged Q X 5 [(0, (2, v0)), (1, (0, v1)), (2, (0, v2)), (3, (0, v3))] [(0, t)] ε μ := by
  refine G_run (m_in [5, 24, 33, 42, 57]) 16 _ _ _ _ ?_
  show m_ty [(0, (2, v0)), (1, (0, v1)), (2, (0, v2)), (3, (0, v3))] [(0, t)] ε μ → (t ≠ 0 → (m_ty [(0, (2, v0)), (1, (0, v1)), (2, (0, v2)), (3, (0, v3))] [] ε μ → (v2 < 0 → G cd_X12_isJudged Q X 24 [(0, (2, v0))] [(2, v0)] ε μ) ∧ (0 ≤ v2 → (m_ty [(0, (2, v0)), (1, (0, v1)), (2, (0, v2)), (3, (0, v3))] [(2, v0)] ε μ → ((1 : Int) < v2 → G cd_X12_isJudged Q X 24 [(0, (2, v0))] [(2, v0)] ε μ) ∧ (v2 ≤ (1 : Int) → (m_ty [(0, (2, v0)), (1, (0, v1)), (3, (0, v3))] [(2, v0)] ε μ → (v3 = 0 → (m_ty [(0, (2, v0)), (1, (0, v1))] [(2, v0)] ε μ → (kd ε v0 = 11) ∧ o_X12_holeOf [(2, v0), (0, v1)] ε μ (fun z ε_1 μ_1 => G cd_X12_isJudged Q X 33 [(0, (2, v0))] [(0, z), (2, v0)] ε_1 μ_1) m_F)) ∧ (v3 ≠ 0 → G cd_X12_isJudged Q X 24 [(0, (2, v0))] [(2, v0)] ε μ))))))) ∧ (t = 0 → (m_ty [] [] ε μ → (0 = 0 ∨ 0 = 1) ∧ Q 0 ε μ))
  intro hty
  replace h := h hty.1 (hty.2.1 _ (List.mem_of_getElem? (i := 1) rfl)) (hty.2.1 _ (List.mem_of_getElem? (i := 2) rfl)) (hty.2.1 _ (List.mem_of_getElem? (i := 3) rfl)) (hty.2.2 _ (List.mem_of_getElem? (i := 0) rfl))
  obtain ⟨ha, hb⟩ := h
  refine And.intro (fun c4 => ?_) (fun c4 => ?_)
  · replace h := ha c4
    clear ha hb
    intro _
    obtain ⟨ha, hb⟩ := h
    refine And.intro (fun c3 => ?_) (fun c3 => ?_)
    · replace h := ha c3
      clear ha hb
      exact h
    · replace h := hb c3
      clear ha hb
      intro _
      obtain ⟨ha, hb⟩ := h
      refine And.intro (fun c2 => ?_) (fun c2 => ?_)
      · replace h := ha c2
        clear ha hb
        exact h
      · replace h := hb c2
        clear ha hb
        intro _
        obtain ⟨ha, hb⟩ := h
        refine And.intro (fun c1 => ?_) (fun c1 => ?_)
        · replace h := ha c1
          clear ha hb
          intro _
          obtain ⟨k1, h⟩ := h
          refine And.intro k1 ?_
          exact h
        · replace h := hb c1
          clear ha hb
          exact h
  · replace h := hb c4
    clear ha hb
    intro _
    refine And.intro (Or.inl rfl) ?_
    exact h
set_option maxRecDepth 20000 in
theorem g_X12_isJudged_0 {Q X : m_Po} {v0 v1 v2 v3 : Int} {ε : m_E} {μ : m_M} (h : TY ε μ → i32 v1 → i32 v2 → i32 v3 → kd ε v0 = 11 ∧ o_X12_isArch [(2, v0), (0, v1)] ε μ (fun z ε_1 μ_1 => G cd_X12_isJudged Q X 5 [(0, (2, v0)), (1, (0, v1)), (2, (0, v2)), (3, (0, v3))] [(0, z)] ε_1 μ_1) m_F) : G cd_X12_isJudged Q X 0 [(0, (2, v0)), (1, (0, v1)), (2, (0, v2)), (3, (0, v3))] [] ε μ := by
  refine G_run (m_in [5, 24, 33, 42, 57]) 16 _ _ _ _ ?_
  show m_ty [(0, (2, v0)), (1, (0, v1)), (2, (0, v2)), (3, (0, v3))] [] ε μ → (kd ε v0 = 11) ∧ o_X12_isArch [(2, v0), (0, v1)] ε μ (fun z ε_1 μ_1 => G cd_X12_isJudged Q X 5 [(0, (2, v0)), (1, (0, v1)), (2, (0, v2)), (3, (0, v3))] [(0, z)] ε_1 μ_1) m_F
  intro hty
  replace h := h hty.1 (hty.2.1 _ (List.mem_of_getElem? (i := 1) rfl)) (hty.2.1 _ (List.mem_of_getElem? (i := 2) rfl)) (hty.2.1 _ (List.mem_of_getElem? (i := 3) rfl))
  obtain ⟨k1, h⟩ := h
  refine And.intro k1 ?_
  exact h
theorem e_X12_isJudged {Q X : m_Po} {v0 v1 v2 v3 : Int} {ε : m_E} {μ : m_M} (h : TY ε μ → i32 v1 → i32 v2 → i32 v3 → kd ε v0 = 11 ∧ o_X12_isArch [(2, v0), (0, v1)] ε μ (fun z ε_1 μ_1 => G cd_X12_isJudged Q X 5 [(0, (2, v0)), (1, (0, v1)), (2, (0, v2)), (3, (0, v3))] [(0, z)] ε_1 μ_1) m_F) : o_X12_isJudged [(2, v0), (0, v1), (0, v2), (0, v3)] ε μ Q X := And.intro rfl (g_X12_isJudged_0 h)
/-! ArchYardModel.isBeyond(I)Z -/
set_option maxRecDepth 20000 in
theorem g_X12_isBeyond_23 {Q X : m_Po} {t : Int} {ε : m_E} {μ : m_M} (h : TY ε μ → i32 t → (t = 0 ∨ t = 1) ∧ Q t ε μ) : G cd_X12_isBeyond Q X 23 [] [(0, t)] ε μ := by
  refine G_run (m_in [23]) 6 _ _ _ _ ?_
  show m_ty [] [(0, t)] ε μ → (t = 0 ∨ t = 1) ∧ Q t ε μ
  intro hty
  replace h := h hty.1 (hty.2.2 _ (List.mem_of_getElem? (i := 0) rfl))
  obtain ⟨k1, h⟩ := h
  refine And.intro k1 ?_
  exact h
set_option maxRecDepth 20000 in
theorem g_X12_isBeyond_0 {Q X : m_Po} {v0 : Int} {ε : m_E} {μ : m_M} (h : TY ε μ → i32 v0 → ∀ t : Int, t = (if v0 < (-1000000000) then 1 else if v0 ≤ (1000000000 : Int) then 0 else 1) → Q t ε μ) : G cd_X12_isBeyond Q X 0 [(0, (0, v0))] [] ε μ := by
  refine G_run (m_in [23]) 6 _ _ _ _ ?_
  show m_ty [(0, (0, v0))] [] ε μ → (v0 < (-1000000000) → (m_ty [] [] ε μ → G cd_X12_isBeyond Q X 23 [] [(0, 1)] ε μ)) ∧ ((-1000000000) ≤ v0 → (m_ty [(0, (0, v0))] [] ε μ → (v0 ≤ (1000000000 : Int) → (m_ty [] [] ε μ → G cd_X12_isBeyond Q X 23 [] [(0, 0)] ε μ)) ∧ ((1000000000 : Int) < v0 → (m_ty [] [] ε μ → G cd_X12_isBeyond Q X 23 [] [(0, 1)] ε μ))))
  intro hty
  replace h := h hty.1 (hty.2.1 _ (List.mem_of_getElem? (i := 0) rfl))
  have hj := h
  refine And.intro (fun c0 => ?_) (fun c0 => ?_)
  · intro _
    exact g_X12_isBeyond_23 (fun _ _ => (And.intro (Or.inr rfl) (hj _ (((if_pos c0).trans rfl)).symm)))
  · intro _
    refine And.intro (fun c1 => ?_) (fun c1 => ?_)
    · intro _
      exact g_X12_isBeyond_23 (fun _ _ => (And.intro (Or.inl rfl) (hj _ (((if_neg (Int.not_lt.mpr c0)).trans ((if_pos c1).trans rfl))).symm)))
    · intro _
      exact g_X12_isBeyond_23 (fun _ _ => (And.intro (Or.inr rfl) (hj _ (((if_neg (Int.not_lt.mpr c0)).trans ((if_neg (Int.not_le.mpr c1)).trans rfl))).symm)))
theorem e_X12_isBeyond {Q X : m_Po} {v0 : Int} {ε : m_E} {μ : m_M} (h : TY ε μ → i32 v0 → ∀ t : Int, t = (if v0 < (-1000000000) then 1 else if v0 ≤ (1000000000 : Int) then 0 else 1) → Q t ε μ) : o_X12_isBeyond [(0, v0)] ε μ Q X := And.intro rfl (g_X12_isBeyond_0 h)
/-! ArchYardModel.line(IIIII)I -/
set_option maxRecDepth 20000 in
theorem g_X12_line_67 {Q X : m_Po} {v0 v3 v4 v5 v6 : Int} {ε : m_E} {μ : m_M} (h : TY ε μ → i32 v3 → i32 v4 → i32 v5 → i32 v6 → kd ε v0 = 11 ∧ ((μ v0 35) ≤ v6 → Q (-1) ε μ) ∧ (v6 < (μ v0 35) → kd ε (fn ε v0 30) = 101 ∧ (0 : Int) ≤ v6 ∧ v6 < ln ε (fn ε v0 30) ∧ kd ε (fn ε v0 31) = 101 ∧ v6 < ln ε (fn ε v0 31) ∧ kd ε (fn ε v0 32) = 101 ∧ v6 < ln ε (fn ε v0 32) ∧ kd ε (fn ε v0 33) = 101 ∧ v6 < ln ε (fn ε v0 33) ∧ ((0 : Int) ≤ (w64 ((w64 ((w64 ((w64 ((μ (fn ε v0 30) v6) * v3)) + (w64 ((μ (fn ε v0 31) v6) * v4)))) + (w64 ((μ (fn ε v0 32) v6) * v5)))) + (μ (fn ε v0 33) v6))) → ∀ v6_1 : Int, v6_1 = w32 (v6 + 1) → G cd_X12_line Q X 67 [(0, (2, v0)), (3, (0, v3)), (4, (0, v4)), (5, (0, v5)), (6, (0, v6_1))] [] ε μ) ∧ ((w64 ((w64 ((w64 ((w64 ((μ (fn ε v0 30) v6) * v3)) + (w64 ((μ (fn ε v0 31) v6) * v4)))) + (w64 ((μ (fn ε v0 32) v6) * v5)))) + (μ (fn ε v0 33) v6))) < (0 : Int) → kd ε (fn ε v0 34) = 100 ∧ v6 < ln ε (fn ε v0 34) ∧ Q (μ (fn ε v0 34) v6) ε μ))) : G cd_X12_line Q X 67 [(0, (2, v0)), (3, (0, v3)), (4, (0, v4)), (5, (0, v5)), (6, (0, v6))] [] ε μ := by
  refine G_run (m_in [7, 15, 23, 26, 31, 34, 59, 64, 67]) 22 _ _ _ _ ?_
  show m_ty [(0, (2, v0)), (3, (0, v3)), (4, (0, v4)), (5, (0, v5)), (6, (0, v6))] [] ε μ → (kd ε v0 = 11) ∧ ((μ v0 35) ≤ v6 → (m_ty [] [] ε μ → Q (-1) ε μ)) ∧ (v6 < (μ v0 35) → (m_ty [(0, (2, v0)), (3, (0, v3)), (4, (0, v4)), (5, (0, v5)), (6, (0, v6))] [] ε μ → (kd ε v0 = 11) ∧ (kd ε (fn ε v0 30) = 101) ∧ ((0 : Int) ≤ v6 ∧ v6 < ln ε (fn ε v0 30)) ∧ (kd ε v0 = 11) ∧ (kd ε (fn ε v0 31) = 101) ∧ ((0 : Int) ≤ v6 ∧ v6 < ln ε (fn ε v0 31)) ∧ (kd ε v0 = 11) ∧ (kd ε (fn ε v0 32) = 101) ∧ ((0 : Int) ≤ v6 ∧ v6 < ln ε (fn ε v0 32)) ∧ (kd ε v0 = 11) ∧ (kd ε (fn ε v0 33) = 101) ∧ ((0 : Int) ≤ v6 ∧ v6 < ln ε (fn ε v0 33)) ∧ ((0 : Int) ≤ (w64 ((w64 ((w64 ((w64 ((μ (fn ε v0 30) v6) * v3)) + (w64 ((μ (fn ε v0 31) v6) * v4)))) + (w64 ((μ (fn ε v0 32) v6) * v5)))) + (μ (fn ε v0 33) v6))) → (m_ty [(0, (2, v0)), (3, (0, v3)), (4, (0, v4)), (5, (0, v5)), (6, (0, v6))] [] ε μ → ∀ v6_1 : Int, v6_1 = w32 (v6 + 1) → G cd_X12_line Q X 67 [(0, (2, v0)), (3, (0, v3)), (4, (0, v4)), (5, (0, v5)), (6, (0, v6_1))] [] ε μ)) ∧ ((w64 ((w64 ((w64 ((w64 ((μ (fn ε v0 30) v6) * v3)) + (w64 ((μ (fn ε v0 31) v6) * v4)))) + (w64 ((μ (fn ε v0 32) v6) * v5)))) + (μ (fn ε v0 33) v6))) < (0 : Int) → (m_ty [(0, (2, v0)), (6, (0, v6))] [] ε μ → (kd ε v0 = 11) ∧ (kd ε (fn ε v0 34) = 100) ∧ ((0 : Int) ≤ v6 ∧ v6 < ln ε (fn ε v0 34)) ∧ Q (μ (fn ε v0 34) v6) ε μ))))
  intro hty
  replace h := h hty.1 (hty.2.1 _ (List.mem_of_getElem? (i := 1) rfl)) (hty.2.1 _ (List.mem_of_getElem? (i := 2) rfl)) (hty.2.1 _ (List.mem_of_getElem? (i := 3) rfl)) (hty.2.1 _ (List.mem_of_getElem? (i := 4) rfl))
  obtain ⟨k1, h⟩ := h
  refine And.intro k1 ?_
  obtain ⟨ha, hb⟩ := h
  refine And.intro (fun c13 => ?_) (fun c13 => ?_)
  · replace h := ha c13
    clear ha hb
    intro _
    exact h
  · replace h := hb c13
    clear ha hb
    intro _
    refine And.intro k1 ?_
    obtain ⟨k2, h⟩ := h
    refine And.intro k2 ?_
    obtain ⟨k3, h⟩ := h
    obtain ⟨k4, h⟩ := h
    refine And.intro (And.intro k3 k4) ?_
    refine And.intro k1 ?_
    obtain ⟨k5, h⟩ := h
    refine And.intro k5 ?_
    obtain ⟨k6, h⟩ := h
    refine And.intro (And.intro k3 k6) ?_
    refine And.intro k1 ?_
    obtain ⟨k7, h⟩ := h
    refine And.intro k7 ?_
    obtain ⟨k8, h⟩ := h
    refine And.intro (And.intro k3 k8) ?_
    refine And.intro k1 ?_
    obtain ⟨k9, h⟩ := h
    refine And.intro k9 ?_
    obtain ⟨k10, h⟩ := h
    refine And.intro (And.intro k3 k10) ?_
    obtain ⟨ha, hb⟩ := h
    refine And.intro (fun c12 => ?_) (fun c12 => ?_)
    · replace h := ha c12
      clear ha hb
      intro _
      intro v6_1 e_v6_1
      replace h := h v6_1 e_v6_1
      exact h
    · replace h := hb c12
      clear ha hb
      intro _
      refine And.intro k1 ?_
      obtain ⟨k11, h⟩ := h
      refine And.intro k11 ?_
      obtain ⟨k12, h⟩ := h
      refine And.intro (And.intro k3 k12) ?_
      exact h
set_option maxRecDepth 20000 in
theorem g_X12_line_64 {Q X : m_Po} {v0 v3 v4 v5 : Int} {ε : m_E} {μ : m_M} (h : TY ε μ → i32 v3 → i32 v4 → i32 v5 → ∀ v6 : Int, v6 = 0 → G cd_X12_line Q X 67 [(0, (2, v0)), (3, (0, v3)), (4, (0, v4)), (5, (0, v5)), (6, (0, v6))] [] ε μ) : G cd_X12_line Q X 64 [(0, (2, v0)), (3, (0, v3)), (4, (0, v4)), (5, (0, v5))] [] ε μ := by
  refine G_run (m_in [7, 15, 23, 26, 31, 34, 59, 64, 67]) 22 _ _ _ _ ?_
  show m_ty [(0, (2, v0)), (3, (0, v3)), (4, (0, v4)), (5, (0, v5))] [] ε μ → ∀ v6 : Int, v6 = 0 → G cd_X12_line Q X 67 [(0, (2, v0)), (3, (0, v3)), (4, (0, v4)), (5, (0, v5)), (6, (0, v6))] [] ε μ
  intro hty
  replace h := h hty.1 (hty.2.1 _ (List.mem_of_getElem? (i := 1) rfl)) (hty.2.1 _ (List.mem_of_getElem? (i := 2) rfl)) (hty.2.1 _ (List.mem_of_getElem? (i := 3) rfl))
  intro v6 e_v6
  replace h := h v6 e_v6
  exact h
set_option maxRecDepth 20000 in
theorem g_X12_line_59 {Q X : m_Po} {v0 v3 v4 v5 t t_1 t_2 t_3 t_4 : Int} {ε : m_E} {μ : m_M} (h : TY ε μ → i32 v3 → i32 v4 → i32 v5 → i32 t_1 → i32 t_2 → i32 t_3 → i32 t_4 → kd ε t = 11 ∧ o_X12_tells [(2, t), (0, t_1), (0, t_2), (0, t_3), (0, t_4), (0, 1), (0, (-1))] ε μ (fun z ε_1 μ_1 => G cd_X12_line Q X 64 [(0, (2, v0)), (3, (0, v3)), (4, (0, v4)), (5, (0, v5))] [] ε_1 μ_1) m_F) : G cd_X12_line Q X 59 [(0, (2, v0)), (3, (0, v3)), (4, (0, v4)), (5, (0, v5))] [(0, t_4), (0, t_3), (0, t_2), (0, t_1), (2, t)] ε μ := by
  refine G_run (m_in [7, 15, 23, 26, 31, 34, 59, 64, 67]) 22 _ _ _ _ ?_
  show m_ty [(0, (2, v0)), (3, (0, v3)), (4, (0, v4)), (5, (0, v5))] [(0, t_4), (0, t_3), (0, t_2), (0, t_1), (2, t)] ε μ → (kd ε t = 11) ∧ o_X12_tells [(2, t), (0, t_1), (0, t_2), (0, t_3), (0, t_4), (0, 1), (0, (-1))] ε μ (fun z ε_1 μ_1 => G cd_X12_line Q X 64 [(0, (2, v0)), (3, (0, v3)), (4, (0, v4)), (5, (0, v5))] [] ε_1 μ_1) m_F
  intro hty
  replace h := h hty.1 (hty.2.1 _ (List.mem_of_getElem? (i := 1) rfl)) (hty.2.1 _ (List.mem_of_getElem? (i := 2) rfl)) (hty.2.1 _ (List.mem_of_getElem? (i := 3) rfl)) (hty.2.2 _ (List.mem_of_getElem? (i := 3) rfl)) (hty.2.2 _ (List.mem_of_getElem? (i := 2) rfl)) (hty.2.2 _ (List.mem_of_getElem? (i := 1) rfl)) (hty.2.2 _ (List.mem_of_getElem? (i := 0) rfl))
  obtain ⟨k1, h⟩ := h
  refine And.intro k1 ?_
  exact h
set_option maxRecDepth 20000 in
theorem g_X12_line_34 {Q X : m_Po} {v0 v1 v2 v3 v4 v5 t : Int} {ε : m_E} {μ : m_M} (h : TY ε μ → i32 v1 → i32 v2 → i32 v3 → i32 v4 → i32 v5 → i32 t → (t ≠ 0 → kd ε v0 = 11 ∧ kd ε (fn ε v0 17) = 100 ∧ (0 : Int) ≤ v1 ∧ v1 < ln ε (fn ε v0 17) ∧ ∀ t_1 : Int, t_1 = (if v2 = 0 then 1 else 0) → kd ε v0 = 11 ∧ o_X12_tells [(2, v0), (0, v1), (0, 0), (0, (w32 ((μ (fn ε v0 17) v1) - 1))), (0, t_1), (0, 1), (0, (-1))] ε μ (fun z ε_1 μ_1 => G cd_X12_line Q X 64 [(0, (2, v0)), (3, (0, v3)), (4, (0, v4)), (5, (0, v5))] [] ε_1 μ_1) m_F) ∧ (t = 0 → Q 0 ε μ)) : G cd_X12_line Q X 34 [(0, (2, v0)), (1, (0, v1)), (2, (0, v2)), (3, (0, v3)), (4, (0, v4)), (5, (0, v5))] [(0, t)] ε μ := by
  refine G_run (m_in [7, 15, 23, 26, 31, 34, 59, 64, 67]) 22 _ _ _ _ ?_
  show m_ty [(0, (2, v0)), (1, (0, v1)), (2, (0, v2)), (3, (0, v3)), (4, (0, v4)), (5, (0, v5))] [(0, t)] ε μ → (t ≠ 0 → (m_ty [(0, (2, v0)), (1, (0, v1)), (2, (0, v2)), (3, (0, v3)), (4, (0, v4)), (5, (0, v5))] [] ε μ → (kd ε v0 = 11) ∧ (kd ε (fn ε v0 17) = 100) ∧ ((0 : Int) ≤ v1 ∧ v1 < ln ε (fn ε v0 17)) ∧ (v2 ≠ 0 → (m_ty [(0, (2, v0)), (3, (0, v3)), (4, (0, v4)), (5, (0, v5))] [(0, w32 ((μ (fn ε v0 17) v1) - 1)), (0, 0), (0, v1), (2, v0)] ε μ → G cd_X12_line Q X 59 [(0, (2, v0)), (3, (0, v3)), (4, (0, v4)), (5, (0, v5))] [(0, 0), (0, w32 ((μ (fn ε v0 17) v1) - 1)), (0, 0), (0, v1), (2, v0)] ε μ)) ∧ (v2 = 0 → (m_ty [(0, (2, v0)), (3, (0, v3)), (4, (0, v4)), (5, (0, v5))] [(0, w32 ((μ (fn ε v0 17) v1) - 1)), (0, 0), (0, v1), (2, v0)] ε μ → G cd_X12_line Q X 59 [(0, (2, v0)), (3, (0, v3)), (4, (0, v4)), (5, (0, v5))] [(0, 1), (0, w32 ((μ (fn ε v0 17) v1) - 1)), (0, 0), (0, v1), (2, v0)] ε μ)))) ∧ (t = 0 → (m_ty [] [] ε μ → Q 0 ε μ))
  intro hty
  replace h := h hty.1 (hty.2.1 _ (List.mem_of_getElem? (i := 1) rfl)) (hty.2.1 _ (List.mem_of_getElem? (i := 2) rfl)) (hty.2.1 _ (List.mem_of_getElem? (i := 3) rfl)) (hty.2.1 _ (List.mem_of_getElem? (i := 4) rfl)) (hty.2.1 _ (List.mem_of_getElem? (i := 5) rfl)) (hty.2.2 _ (List.mem_of_getElem? (i := 0) rfl))
  obtain ⟨ha, hb⟩ := h
  refine And.intro (fun c6 => ?_) (fun c6 => ?_)
  · replace h := ha c6
    clear ha hb
    intro _
    obtain ⟨k1, h⟩ := h
    refine And.intro k1 ?_
    obtain ⟨k2, h⟩ := h
    refine And.intro k2 ?_
    obtain ⟨k3, h⟩ := h
    obtain ⟨k4, h⟩ := h
    refine And.intro (And.intro k3 k4) ?_
    have hj := h
    refine And.intro (fun c4 => ?_) (fun c4 => ?_)
    · intro _
      exact g_X12_line_59 (fun _ _ _ _ _ _ _ _ => (hj _ (((if_neg (c4)).trans rfl)).symm))
    · intro _
      exact g_X12_line_59 (fun _ _ _ _ _ _ _ _ => (hj _ (((if_pos c4).trans rfl)).symm))
  · replace h := hb c6
    clear ha hb
    intro _
    exact h
set_option maxRecDepth 20000 in
theorem g_X12_line_31 {Q X : m_Po} {v0 v1 v2 v3 v4 v5 t t_1 t_2 t_3 : Int} {ε : m_E} {μ : m_M} (h : TY ε μ → i32 v1 → i32 v2 → i32 v3 → i32 v4 → i32 v5 → i32 t_1 → i32 t_2 → i32 t_3 → kd ε t = 11 ∧ o_X12_isJudged [(2, t), (0, t_1), (0, t_2), (0, t_3)] ε μ (fun z ε_1 μ_1 => G cd_X12_line Q X 34 [(0, (2, v0)), (1, (0, v1)), (2, (0, v2)), (3, (0, v3)), (4, (0, v4)), (5, (0, v5))] [(0, z)] ε_1 μ_1) m_F) : G cd_X12_line Q X 31 [(0, (2, v0)), (1, (0, v1)), (2, (0, v2)), (3, (0, v3)), (4, (0, v4)), (5, (0, v5))] [(0, t_3), (0, t_2), (0, t_1), (2, t)] ε μ := by
  refine G_run (m_in [7, 15, 23, 26, 31, 34, 59, 64, 67]) 22 _ _ _ _ ?_
  show m_ty [(0, (2, v0)), (1, (0, v1)), (2, (0, v2)), (3, (0, v3)), (4, (0, v4)), (5, (0, v5))] [(0, t_3), (0, t_2), (0, t_1), (2, t)] ε μ → (kd ε t = 11) ∧ o_X12_isJudged [(2, t), (0, t_1), (0, t_2), (0, t_3)] ε μ (fun z ε_1 μ_1 => G cd_X12_line Q X 34 [(0, (2, v0)), (1, (0, v1)), (2, (0, v2)), (3, (0, v3)), (4, (0, v4)), (5, (0, v5))] [(0, z)] ε_1 μ_1) m_F
  intro hty
  replace h := h hty.1 (hty.2.1 _ (List.mem_of_getElem? (i := 1) rfl)) (hty.2.1 _ (List.mem_of_getElem? (i := 2) rfl)) (hty.2.1 _ (List.mem_of_getElem? (i := 3) rfl)) (hty.2.1 _ (List.mem_of_getElem? (i := 4) rfl)) (hty.2.1 _ (List.mem_of_getElem? (i := 5) rfl)) (hty.2.2 _ (List.mem_of_getElem? (i := 2) rfl)) (hty.2.2 _ (List.mem_of_getElem? (i := 1) rfl)) (hty.2.2 _ (List.mem_of_getElem? (i := 0) rfl))
  obtain ⟨k1, h⟩ := h
  refine And.intro k1 ?_
  exact h
set_option maxRecDepth 20000 in
theorem g_X12_line_26 {Q X : m_Po} {v0 v1 v2 v3 v4 v5 t t_1 t_2 : Int} {ε : m_E} {μ : m_M} (h : TY ε μ → i32 v1 → i32 v2 → i32 v3 → i32 v4 → i32 v5 → i32 t_1 → i32 t_2 → G cd_X12_line Q X 31 [(0, (2, v0)), (1, (0, v1)), (2, (0, v2)), (3, (0, v3)), (4, (0, v4)), (5, (0, v5))] [(0, 1), (0, t_2), (0, t_1), (2, t)] ε μ) : G cd_X12_line Q X 26 [(0, (2, v0)), (1, (0, v1)), (2, (0, v2)), (3, (0, v3)), (4, (0, v4)), (5, (0, v5))] [(0, t_2), (0, t_1), (2, t)] ε μ := by
  refine G_run (m_in [7, 15, 23, 26, 31, 34, 59, 64, 67]) 22 _ _ _ _ ?_
  show m_ty [(0, (2, v0)), (1, (0, v1)), (2, (0, v2)), (3, (0, v3)), (4, (0, v4)), (5, (0, v5))] [(0, t_2), (0, t_1), (2, t)] ε μ → G cd_X12_line Q X 31 [(0, (2, v0)), (1, (0, v1)), (2, (0, v2)), (3, (0, v3)), (4, (0, v4)), (5, (0, v5))] [(0, 1), (0, t_2), (0, t_1), (2, t)] ε μ
  intro hty
  replace h := h hty.1 (hty.2.1 _ (List.mem_of_getElem? (i := 1) rfl)) (hty.2.1 _ (List.mem_of_getElem? (i := 2) rfl)) (hty.2.1 _ (List.mem_of_getElem? (i := 3) rfl)) (hty.2.1 _ (List.mem_of_getElem? (i := 4) rfl)) (hty.2.1 _ (List.mem_of_getElem? (i := 5) rfl)) (hty.2.2 _ (List.mem_of_getElem? (i := 1) rfl)) (hty.2.2 _ (List.mem_of_getElem? (i := 0) rfl))
  exact h
set_option maxRecDepth 20000 in
theorem g_X12_line_23 {Q X : m_Po} {v0 v1 v2 v3 v4 v5 t t_1 t_2 t_3 : Int} {ε : m_E} {μ : m_M} (h : TY ε μ → i32 v1 → i32 v2 → i32 v3 → i32 v4 → i32 v5 → i32 t_1 → i32 t_2 → i32 t_3 → (t_3 = 0 → G cd_X12_line Q X 31 [(0, (2, v0)), (1, (0, v1)), (2, (0, v2)), (3, (0, v3)), (4, (0, v4)), (5, (0, v5))] [(0, 0), (0, t_2), (0, t_1), (2, t)] ε μ) ∧ (t_3 ≠ 0 → G cd_X12_line Q X 26 [(0, (2, v0)), (1, (0, v1)), (2, (0, v2)), (3, (0, v3)), (4, (0, v4)), (5, (0, v5))] [(0, t_2), (0, t_1), (2, t)] ε μ)) : G cd_X12_line Q X 23 [(0, (2, v0)), (1, (0, v1)), (2, (0, v2)), (3, (0, v3)), (4, (0, v4)), (5, (0, v5))] [(0, t_3), (0, t_2), (0, t_1), (2, t)] ε μ := by
  refine G_run (m_in [7, 15, 23, 26, 31, 34, 59, 64, 67]) 22 _ _ _ _ ?_
  show m_ty [(0, (2, v0)), (1, (0, v1)), (2, (0, v2)), (3, (0, v3)), (4, (0, v4)), (5, (0, v5))] [(0, t_3), (0, t_2), (0, t_1), (2, t)] ε μ → (t_3 = 0 → (m_ty [(0, (2, v0)), (1, (0, v1)), (2, (0, v2)), (3, (0, v3)), (4, (0, v4)), (5, (0, v5))] [(0, t_2), (0, t_1), (2, t)] ε μ → G cd_X12_line Q X 31 [(0, (2, v0)), (1, (0, v1)), (2, (0, v2)), (3, (0, v3)), (4, (0, v4)), (5, (0, v5))] [(0, 0), (0, t_2), (0, t_1), (2, t)] ε μ)) ∧ (t_3 ≠ 0 → G cd_X12_line Q X 26 [(0, (2, v0)), (1, (0, v1)), (2, (0, v2)), (3, (0, v3)), (4, (0, v4)), (5, (0, v5))] [(0, t_2), (0, t_1), (2, t)] ε μ)
  intro hty
  replace h := h hty.1 (hty.2.1 _ (List.mem_of_getElem? (i := 1) rfl)) (hty.2.1 _ (List.mem_of_getElem? (i := 2) rfl)) (hty.2.1 _ (List.mem_of_getElem? (i := 3) rfl)) (hty.2.1 _ (List.mem_of_getElem? (i := 4) rfl)) (hty.2.1 _ (List.mem_of_getElem? (i := 5) rfl)) (hty.2.2 _ (List.mem_of_getElem? (i := 2) rfl)) (hty.2.2 _ (List.mem_of_getElem? (i := 1) rfl)) (hty.2.2 _ (List.mem_of_getElem? (i := 0) rfl))
  obtain ⟨ha, hb⟩ := h
  refine And.intro (fun c0 => ?_) (fun c0 => ?_)
  · replace h := ha c0
    clear ha hb
    intro _
    exact h
  · replace h := hb c0
    clear ha hb
    exact h
set_option maxRecDepth 20000 in
theorem g_X12_line_15 {Q X : m_Po} {v0 v1 v2 v3 v4 v5 t t_1 t_2 t_3 : Int} {ε : m_E} {μ : m_M} (h : TY ε μ → i32 v1 → i32 v2 → i32 v3 → i32 v4 → i32 v5 → i32 t_1 → i32 t_2 → i32 t_3 → (t_3 ≠ 0 → G cd_X12_line Q X 26 [(0, (2, v0)), (1, (0, v1)), (2, (0, v2)), (3, (0, v3)), (4, (0, v4)), (5, (0, v5))] [(0, t_2), (0, t_1), (2, t)] ε μ) ∧ (t_3 = 0 → o_X12_isBeyond [(0, v5)] ε μ (fun z ε_1 μ_1 => G cd_X12_line Q X 23 [(0, (2, v0)), (1, (0, v1)), (2, (0, v2)), (3, (0, v3)), (4, (0, v4)), (5, (0, v5))] [(0, z), (0, t_2), (0, t_1), (2, t)] ε_1 μ_1) m_F)) : G cd_X12_line Q X 15 [(0, (2, v0)), (1, (0, v1)), (2, (0, v2)), (3, (0, v3)), (4, (0, v4)), (5, (0, v5))] [(0, t_3), (0, t_2), (0, t_1), (2, t)] ε μ := by
  refine G_run (m_in [7, 15, 23, 26, 31, 34, 59, 64, 67]) 22 _ _ _ _ ?_
  show m_ty [(0, (2, v0)), (1, (0, v1)), (2, (0, v2)), (3, (0, v3)), (4, (0, v4)), (5, (0, v5))] [(0, t_3), (0, t_2), (0, t_1), (2, t)] ε μ → (t_3 ≠ 0 → G cd_X12_line Q X 26 [(0, (2, v0)), (1, (0, v1)), (2, (0, v2)), (3, (0, v3)), (4, (0, v4)), (5, (0, v5))] [(0, t_2), (0, t_1), (2, t)] ε μ) ∧ (t_3 = 0 → (m_ty [(0, (2, v0)), (1, (0, v1)), (2, (0, v2)), (3, (0, v3)), (4, (0, v4)), (5, (0, v5))] [(0, t_2), (0, t_1), (2, t)] ε μ → o_X12_isBeyond [(0, v5)] ε μ (fun z ε_1 μ_1 => G cd_X12_line Q X 23 [(0, (2, v0)), (1, (0, v1)), (2, (0, v2)), (3, (0, v3)), (4, (0, v4)), (5, (0, v5))] [(0, z), (0, t_2), (0, t_1), (2, t)] ε_1 μ_1) m_F))
  intro hty
  replace h := h hty.1 (hty.2.1 _ (List.mem_of_getElem? (i := 1) rfl)) (hty.2.1 _ (List.mem_of_getElem? (i := 2) rfl)) (hty.2.1 _ (List.mem_of_getElem? (i := 3) rfl)) (hty.2.1 _ (List.mem_of_getElem? (i := 4) rfl)) (hty.2.1 _ (List.mem_of_getElem? (i := 5) rfl)) (hty.2.2 _ (List.mem_of_getElem? (i := 2) rfl)) (hty.2.2 _ (List.mem_of_getElem? (i := 1) rfl)) (hty.2.2 _ (List.mem_of_getElem? (i := 0) rfl))
  obtain ⟨ha, hb⟩ := h
  refine And.intro (fun c0 => ?_) (fun c0 => ?_)
  · replace h := ha c0
    clear ha hb
    exact h
  · replace h := hb c0
    clear ha hb
    intro _
    exact h
set_option maxRecDepth 20000 in
theorem g_X12_line_7 {Q X : m_Po} {v0 v1 v2 v3 v4 v5 t t_1 t_2 t_3 : Int} {ε : m_E} {μ : m_M} (h : TY ε μ → i32 v1 → i32 v2 → i32 v3 → i32 v4 → i32 v5 → i32 t_1 → i32 t_2 → i32 t_3 → (t_3 ≠ 0 → G cd_X12_line Q X 26 [(0, (2, v0)), (1, (0, v1)), (2, (0, v2)), (3, (0, v3)), (4, (0, v4)), (5, (0, v5))] [(0, t_2), (0, t_1), (2, t)] ε μ) ∧ (t_3 = 0 → o_X12_isBeyond [(0, v4)] ε μ (fun z ε_1 μ_1 => G cd_X12_line Q X 15 [(0, (2, v0)), (1, (0, v1)), (2, (0, v2)), (3, (0, v3)), (4, (0, v4)), (5, (0, v5))] [(0, z), (0, t_2), (0, t_1), (2, t)] ε_1 μ_1) m_F)) : G cd_X12_line Q X 7 [(0, (2, v0)), (1, (0, v1)), (2, (0, v2)), (3, (0, v3)), (4, (0, v4)), (5, (0, v5))] [(0, t_3), (0, t_2), (0, t_1), (2, t)] ε μ := by
  refine G_run (m_in [7, 15, 23, 26, 31, 34, 59, 64, 67]) 22 _ _ _ _ ?_
  show m_ty [(0, (2, v0)), (1, (0, v1)), (2, (0, v2)), (3, (0, v3)), (4, (0, v4)), (5, (0, v5))] [(0, t_3), (0, t_2), (0, t_1), (2, t)] ε μ → (t_3 ≠ 0 → G cd_X12_line Q X 26 [(0, (2, v0)), (1, (0, v1)), (2, (0, v2)), (3, (0, v3)), (4, (0, v4)), (5, (0, v5))] [(0, t_2), (0, t_1), (2, t)] ε μ) ∧ (t_3 = 0 → (m_ty [(0, (2, v0)), (1, (0, v1)), (2, (0, v2)), (3, (0, v3)), (4, (0, v4)), (5, (0, v5))] [(0, t_2), (0, t_1), (2, t)] ε μ → o_X12_isBeyond [(0, v4)] ε μ (fun z ε_1 μ_1 => G cd_X12_line Q X 15 [(0, (2, v0)), (1, (0, v1)), (2, (0, v2)), (3, (0, v3)), (4, (0, v4)), (5, (0, v5))] [(0, z), (0, t_2), (0, t_1), (2, t)] ε_1 μ_1) m_F))
  intro hty
  replace h := h hty.1 (hty.2.1 _ (List.mem_of_getElem? (i := 1) rfl)) (hty.2.1 _ (List.mem_of_getElem? (i := 2) rfl)) (hty.2.1 _ (List.mem_of_getElem? (i := 3) rfl)) (hty.2.1 _ (List.mem_of_getElem? (i := 4) rfl)) (hty.2.1 _ (List.mem_of_getElem? (i := 5) rfl)) (hty.2.2 _ (List.mem_of_getElem? (i := 2) rfl)) (hty.2.2 _ (List.mem_of_getElem? (i := 1) rfl)) (hty.2.2 _ (List.mem_of_getElem? (i := 0) rfl))
  obtain ⟨ha, hb⟩ := h
  refine And.intro (fun c0 => ?_) (fun c0 => ?_)
  · replace h := ha c0
    clear ha hb
    exact h
  · replace h := hb c0
    clear ha hb
    intro _
    exact h
set_option maxRecDepth 20000 in
theorem g_X12_line_0 {Q X : m_Po} {v0 v1 v2 v3 v4 v5 : Int} {ε : m_E} {μ : m_M} (h : TY ε μ → i32 v1 → i32 v2 → i32 v3 → i32 v4 → i32 v5 → o_X12_isBeyond [(0, v3)] ε μ (fun z ε_1 μ_1 => G cd_X12_line Q X 7 [(0, (2, v0)), (1, (0, v1)), (2, (0, v2)), (3, (0, v3)), (4, (0, v4)), (5, (0, v5))] [(0, z), (0, v2), (0, v1), (2, v0)] ε_1 μ_1) m_F) : G cd_X12_line Q X 0 [(0, (2, v0)), (1, (0, v1)), (2, (0, v2)), (3, (0, v3)), (4, (0, v4)), (5, (0, v5))] [] ε μ := by
  refine G_run (m_in [7, 15, 23, 26, 31, 34, 59, 64, 67]) 22 _ _ _ _ ?_
  show m_ty [(0, (2, v0)), (1, (0, v1)), (2, (0, v2)), (3, (0, v3)), (4, (0, v4)), (5, (0, v5))] [] ε μ → o_X12_isBeyond [(0, v3)] ε μ (fun z ε_1 μ_1 => G cd_X12_line Q X 7 [(0, (2, v0)), (1, (0, v1)), (2, (0, v2)), (3, (0, v3)), (4, (0, v4)), (5, (0, v5))] [(0, z), (0, v2), (0, v1), (2, v0)] ε_1 μ_1) m_F
  intro hty
  replace h := h hty.1 (hty.2.1 _ (List.mem_of_getElem? (i := 1) rfl)) (hty.2.1 _ (List.mem_of_getElem? (i := 2) rfl)) (hty.2.1 _ (List.mem_of_getElem? (i := 3) rfl)) (hty.2.1 _ (List.mem_of_getElem? (i := 4) rfl)) (hty.2.1 _ (List.mem_of_getElem? (i := 5) rfl))
  exact h
theorem e_X12_line {Q X : m_Po} {v0 v1 v2 v3 v4 v5 : Int} {ε : m_E} {μ : m_M} (h : TY ε μ → i32 v1 → i32 v2 → i32 v3 → i32 v4 → i32 v5 → o_X12_isBeyond [(0, v3)] ε μ (fun z ε_1 μ_1 => G cd_X12_line Q X 7 [(0, (2, v0)), (1, (0, v1)), (2, (0, v2)), (3, (0, v3)), (4, (0, v4)), (5, (0, v5))] [(0, z), (0, v2), (0, v1), (2, v0)] ε_1 μ_1) m_F) : o_X12_line [(2, v0), (0, v1), (0, v2), (0, v3), (0, v4), (0, v5)] ε μ Q X := And.intro rfl (g_X12_line_0 h)
/-! ArchYardModel.over(LArchYardModel$Big;LArchYardModel$Big;)V -/
set_option maxRecDepth 20000 in
theorem g_X12_over_158 {Q X : m_Po} {v0 v1 v3 v4 v5 : Int} {ε : m_E} {μ : m_M} (h : TY ε μ → i32 v3 → i32 v4 → i32 v5 → ∀ v5_1 : Int, v5_1 = w32 (v5 + 1) → G cd_X12_over Q X 89 [(0, (2, v0)), (1, (2, v1)), (3, (0, v3)), (4, (0, v4)), (5, (0, v5_1))] [] ε μ) : G cd_X12_over Q X 158 [(0, (2, v0)), (1, (2, v1)), (3, (0, v3)), (4, (0, v4)), (5, (0, v5))] [] ε μ := by
  refine G_run (m_in [10, 20, 42, 57, 69, 86, 89, 99, 114, 139, 149, 158]) 19 _ _ _ _ ?_
  show m_ty [(0, (2, v0)), (1, (2, v1)), (3, (0, v3)), (4, (0, v4)), (5, (0, v5))] [] ε μ → ∀ v5_1 : Int, v5_1 = w32 (v5 + 1) → G cd_X12_over Q X 89 [(0, (2, v0)), (1, (2, v1)), (3, (0, v3)), (4, (0, v4)), (5, (0, v5_1))] [] ε μ
  intro hty
  replace h := h hty.1 (hty.2.1 _ (List.mem_of_getElem? (i := 2) rfl)) (hty.2.1 _ (List.mem_of_getElem? (i := 3) rfl)) (hty.2.1 _ (List.mem_of_getElem? (i := 4) rfl))
  intro v5_1 e_v5_1
  replace h := h v5_1 e_v5_1
  exact h
set_option maxRecDepth 20000 in
theorem g_X12_over_149 {Q X : m_Po} {v0 v1 v3 v4 v5 : Int} {ε : m_E} {μ : m_M} (h : TY ε μ → i32 v3 → i32 v4 → i32 v5 → kd ε v0 = 11 ∧ kd ε (fn ε v0 36) = 107 ∧ 1 < ln ε (fn ε v0 36) ∧ kd ε (μ (fn ε v0 36) 1) = 10 ∧ o_X11_half [(2, μ (fn ε v0 36) 1)] ε μ (fun z ε_1 μ_1 => G cd_X12_over Q X 158 [(0, (2, v0)), (1, (2, v1)), (3, (0, v3)), (4, (0, v4)), (5, (0, v5))] [] ε_1 μ_1) m_F) : G cd_X12_over Q X 149 [(0, (2, v0)), (1, (2, v1)), (3, (0, v3)), (4, (0, v4)), (5, (0, v5))] [] ε μ := by
  refine G_run (m_in [10, 20, 42, 57, 69, 86, 89, 99, 114, 139, 149, 158]) 19 _ _ _ _ ?_
  show m_ty [(0, (2, v0)), (1, (2, v1)), (3, (0, v3)), (4, (0, v4)), (5, (0, v5))] [] ε μ → (kd ε v0 = 11) ∧ (kd ε (fn ε v0 36) = 107) ∧ ((0 : Int) ≤ 1 ∧ 1 < ln ε (fn ε v0 36)) ∧ (kd ε (μ (fn ε v0 36) 1) = 10) ∧ o_X11_half [(2, μ (fn ε v0 36) 1)] ε μ (fun z ε_1 μ_1 => G cd_X12_over Q X 158 [(0, (2, v0)), (1, (2, v1)), (3, (0, v3)), (4, (0, v4)), (5, (0, v5))] [] ε_1 μ_1) m_F
  intro hty
  replace h := h hty.1 (hty.2.1 _ (List.mem_of_getElem? (i := 2) rfl)) (hty.2.1 _ (List.mem_of_getElem? (i := 3) rfl)) (hty.2.1 _ (List.mem_of_getElem? (i := 4) rfl))
  obtain ⟨k1, h⟩ := h
  refine And.intro k1 ?_
  obtain ⟨k2, h⟩ := h
  refine And.intro k2 ?_
  obtain ⟨k3, h⟩ := h
  refine And.intro (And.intro (by decide) k3) ?_
  obtain ⟨k4, h⟩ := h
  refine And.intro k4 ?_
  exact h
set_option maxRecDepth 20000 in
theorem g_X12_over_139 {Q X : m_Po} {v0 v1 v3 v4 v5 : Int} {ε : m_E} {μ : m_M} (h : TY ε μ → i32 v3 → i32 v4 → i32 v5 → kd ε v1 = 10 ∧ kd ε (fn ε v1 0) = 100 ∧ 0 < ln ε (fn ε v1 0) ∧ ∀ μ_1 : m_M, μ_1 = st μ (fn ε v1 0) 0 (o_or32 (μ (fn ε v1 0) 0) 1) → G cd_X12_over Q X 149 [(0, (2, v0)), (1, (2, v1)), (3, (0, v3)), (4, (0, v4)), (5, (0, v5))] [] ε μ_1) : G cd_X12_over Q X 139 [(0, (2, v0)), (1, (2, v1)), (3, (0, v3)), (4, (0, v4)), (5, (0, v5))] [] ε μ := by
  refine G_run (m_in [10, 20, 42, 57, 69, 86, 89, 99, 114, 139, 149, 158]) 19 _ _ _ _ ?_
  show m_ty [(0, (2, v0)), (1, (2, v1)), (3, (0, v3)), (4, (0, v4)), (5, (0, v5))] [] ε μ → (kd ε v1 = 10) ∧ (kd ε (fn ε v1 0) = 100) ∧ ((0 : Int) ≤ 0 ∧ 0 < ln ε (fn ε v1 0)) ∧ (kd ε (fn ε v1 0) = 100) ∧ ((0 : Int) ≤ 0 ∧ 0 < ln ε (fn ε v1 0)) ∧ ∀ μ_1 : m_M, μ_1 = st μ (fn ε v1 0) 0 (o_or32 (μ (fn ε v1 0) 0) 1) → G cd_X12_over Q X 149 [(0, (2, v0)), (1, (2, v1)), (3, (0, v3)), (4, (0, v4)), (5, (0, v5))] [] ε μ_1
  intro hty
  replace h := h hty.1 (hty.2.1 _ (List.mem_of_getElem? (i := 2) rfl)) (hty.2.1 _ (List.mem_of_getElem? (i := 3) rfl)) (hty.2.1 _ (List.mem_of_getElem? (i := 4) rfl))
  obtain ⟨k1, h⟩ := h
  refine And.intro k1 ?_
  obtain ⟨k2, h⟩ := h
  refine And.intro k2 ?_
  obtain ⟨k3, h⟩ := h
  refine And.intro (And.intro (by decide) k3) ?_
  refine And.intro k2 ?_
  refine And.intro (And.intro (by decide) k3) ?_
  intro μ_1 e_μ_1
  replace h := h μ_1 e_μ_1
  exact h
set_option maxRecDepth 20000 in
theorem g_X12_over_114 {Q X : m_Po} {v0 v1 v3 v4 v5 t : Int} {ε : m_E} {μ : m_M} (h : TY ε μ → i32 v3 → i32 v4 → i32 v5 → i32 t → (0 < t → G cd_X12_over Q X 149 [(0, (2, v0)), (1, (2, v1)), (3, (0, v3)), (4, (0, v4)), (5, (0, v5))] [] ε μ) ∧ (t ≤ 0 → kd ε v0 = 11 ∧ kd ε (fn ε v0 36) = 107 ∧ 0 < ln ε (fn ε v0 36) ∧ 1 < ln ε (fn ε v0 36) ∧ kd ε (μ (fn ε v0 36) 0) = 10 ∧ o_X11_sum [(2, μ (fn ε v0 36) 0), (2, μ (fn ε v0 36) 0), (2, μ (fn ε v0 36) 1), (0, 1)] ε μ (fun z ε_1 μ_1 => G cd_X12_over Q X 139 [(0, (2, v0)), (1, (2, v1)), (3, (0, v3)), (4, (0, v4)), (5, (0, v5))] [] ε_1 μ_1) m_F)) : G cd_X12_over Q X 114 [(0, (2, v0)), (1, (2, v1)), (3, (0, v3)), (4, (0, v4)), (5, (0, v5))] [(0, t)] ε μ := by
  refine G_run (m_in [10, 20, 42, 57, 69, 86, 89, 99, 114, 139, 149, 158]) 19 _ _ _ _ ?_
  show m_ty [(0, (2, v0)), (1, (2, v1)), (3, (0, v3)), (4, (0, v4)), (5, (0, v5))] [(0, t)] ε μ → (0 < t → G cd_X12_over Q X 149 [(0, (2, v0)), (1, (2, v1)), (3, (0, v3)), (4, (0, v4)), (5, (0, v5))] [] ε μ) ∧ (t ≤ 0 → (m_ty [(0, (2, v0)), (1, (2, v1)), (3, (0, v3)), (4, (0, v4)), (5, (0, v5))] [] ε μ → (kd ε v0 = 11) ∧ (kd ε (fn ε v0 36) = 107) ∧ ((0 : Int) ≤ 0 ∧ 0 < ln ε (fn ε v0 36)) ∧ (kd ε v0 = 11) ∧ (kd ε (fn ε v0 36) = 107) ∧ ((0 : Int) ≤ 0 ∧ 0 < ln ε (fn ε v0 36)) ∧ (kd ε v0 = 11) ∧ (kd ε (fn ε v0 36) = 107) ∧ ((0 : Int) ≤ 1 ∧ 1 < ln ε (fn ε v0 36)) ∧ (kd ε (μ (fn ε v0 36) 0) = 10) ∧ o_X11_sum [(2, μ (fn ε v0 36) 0), (2, μ (fn ε v0 36) 0), (2, μ (fn ε v0 36) 1), (0, 1)] ε μ (fun z ε_1 μ_1 => G cd_X12_over Q X 139 [(0, (2, v0)), (1, (2, v1)), (3, (0, v3)), (4, (0, v4)), (5, (0, v5))] [] ε_1 μ_1) m_F))
  intro hty
  replace h := h hty.1 (hty.2.1 _ (List.mem_of_getElem? (i := 2) rfl)) (hty.2.1 _ (List.mem_of_getElem? (i := 3) rfl)) (hty.2.1 _ (List.mem_of_getElem? (i := 4) rfl)) (hty.2.2 _ (List.mem_of_getElem? (i := 0) rfl))
  obtain ⟨ha, hb⟩ := h
  refine And.intro (fun c5 => ?_) (fun c5 => ?_)
  · replace h := ha c5
    clear ha hb
    exact h
  · replace h := hb c5
    clear ha hb
    intro _
    obtain ⟨k1, h⟩ := h
    refine And.intro k1 ?_
    obtain ⟨k2, h⟩ := h
    refine And.intro k2 ?_
    obtain ⟨k3, h⟩ := h
    refine And.intro (And.intro (by decide) k3) ?_
    refine And.intro k1 ?_
    refine And.intro k2 ?_
    refine And.intro (And.intro (by decide) k3) ?_
    refine And.intro k1 ?_
    refine And.intro k2 ?_
    obtain ⟨k4, h⟩ := h
    refine And.intro (And.intro (by decide) k4) ?_
    obtain ⟨k5, h⟩ := h
    refine And.intro k5 ?_
    exact h
set_option maxRecDepth 20000 in
theorem g_X12_over_99 {Q X : m_Po} {v0 v1 v3 v4 v5 : Int} {ε : m_E} {μ : m_M} (h : TY ε μ → i32 v3 → i32 v4 → i32 v5 → kd ε v0 = 11 ∧ kd ε (fn ε v0 36) = 107 ∧ 1 < ln ε (fn ε v0 36) ∧ 0 < ln ε (fn ε v0 36) ∧ kd ε (μ (fn ε v0 36) 1) = 10 ∧ o_X11_sizes [(2, μ (fn ε v0 36) 1), (2, μ (fn ε v0 36) 0)] ε μ (fun z ε_1 μ_1 => G cd_X12_over Q X 114 [(0, (2, v0)), (1, (2, v1)), (3, (0, v3)), (4, (0, v4)), (5, (0, v5))] [(0, z)] ε_1 μ_1) m_F) : G cd_X12_over Q X 99 [(0, (2, v0)), (1, (2, v1)), (3, (0, v3)), (4, (0, v4)), (5, (0, v5))] [] ε μ := by
  refine G_run (m_in [10, 20, 42, 57, 69, 86, 89, 99, 114, 139, 149, 158]) 19 _ _ _ _ ?_
  show m_ty [(0, (2, v0)), (1, (2, v1)), (3, (0, v3)), (4, (0, v4)), (5, (0, v5))] [] ε μ → (kd ε v0 = 11) ∧ (kd ε (fn ε v0 36) = 107) ∧ ((0 : Int) ≤ 1 ∧ 1 < ln ε (fn ε v0 36)) ∧ (kd ε v0 = 11) ∧ (kd ε (fn ε v0 36) = 107) ∧ ((0 : Int) ≤ 0 ∧ 0 < ln ε (fn ε v0 36)) ∧ (kd ε (μ (fn ε v0 36) 1) = 10) ∧ o_X11_sizes [(2, μ (fn ε v0 36) 1), (2, μ (fn ε v0 36) 0)] ε μ (fun z ε_1 μ_1 => G cd_X12_over Q X 114 [(0, (2, v0)), (1, (2, v1)), (3, (0, v3)), (4, (0, v4)), (5, (0, v5))] [(0, z)] ε_1 μ_1) m_F
  intro hty
  replace h := h hty.1 (hty.2.1 _ (List.mem_of_getElem? (i := 2) rfl)) (hty.2.1 _ (List.mem_of_getElem? (i := 3) rfl)) (hty.2.1 _ (List.mem_of_getElem? (i := 4) rfl))
  obtain ⟨k1, h⟩ := h
  refine And.intro k1 ?_
  obtain ⟨k2, h⟩ := h
  refine And.intro k2 ?_
  obtain ⟨k3, h⟩ := h
  refine And.intro (And.intro (by decide) k3) ?_
  refine And.intro k1 ?_
  refine And.intro k2 ?_
  obtain ⟨k4, h⟩ := h
  refine And.intro (And.intro (by decide) k4) ?_
  obtain ⟨k5, h⟩ := h
  refine And.intro k5 ?_
  exact h
set_option maxRecDepth 20000 in
theorem g_X12_over_89 {Q X : m_Po} {v0 v1 v3 v4 v5 : Int} {ε : m_E} {μ : m_M} (h : TY ε μ → i32 v3 → i32 v4 → i32 v5 → (v3 < v5 → kd ε v1 = 10 ∧ (v4 = 0 ∨ v4 = 1) ∧ ∀ μ_1 : m_M, μ_1 = st μ v1 1 v4 → Q 0 ε μ_1) ∧ (v5 ≤ v3 → kd ε v1 = 10 ∧ o_X11_twice [(2, v1)] ε μ (fun z ε_1 μ_2 => G cd_X12_over Q X 99 [(0, (2, v0)), (1, (2, v1)), (3, (0, v3)), (4, (0, v4)), (5, (0, v5))] [] ε_1 μ_2) m_F)) : G cd_X12_over Q X 89 [(0, (2, v0)), (1, (2, v1)), (3, (0, v3)), (4, (0, v4)), (5, (0, v5))] [] ε μ := by
  refine G_run (m_in [10, 20, 42, 57, 69, 86, 89, 99, 114, 139, 149, 158]) 19 _ _ _ _ ?_
  show m_ty [(0, (2, v0)), (1, (2, v1)), (3, (0, v3)), (4, (0, v4)), (5, (0, v5))] [] ε μ → (v3 < v5 → (m_ty [(1, (2, v1)), (4, (0, v4))] [] ε μ → (kd ε v1 = 10) ∧ (v4 = 0 ∨ v4 = 1) ∧ ∀ μ_1 : m_M, μ_1 = st μ v1 1 v4 → Q 0 ε μ_1)) ∧ (v5 ≤ v3 → (m_ty [(0, (2, v0)), (1, (2, v1)), (3, (0, v3)), (4, (0, v4)), (5, (0, v5))] [] ε μ → (kd ε v1 = 10) ∧ o_X11_twice [(2, v1)] ε μ (fun z ε_1 μ_2 => G cd_X12_over Q X 99 [(0, (2, v0)), (1, (2, v1)), (3, (0, v3)), (4, (0, v4)), (5, (0, v5))] [] ε_1 μ_2) m_F))
  intro hty
  replace h := h hty.1 (hty.2.1 _ (List.mem_of_getElem? (i := 2) rfl)) (hty.2.1 _ (List.mem_of_getElem? (i := 3) rfl)) (hty.2.1 _ (List.mem_of_getElem? (i := 4) rfl))
  obtain ⟨ha, hb⟩ := h
  refine And.intro (fun c3 => ?_) (fun c3 => ?_)
  · replace h := ha c3
    clear ha hb
    intro _
    obtain ⟨k1, h⟩ := h
    refine And.intro k1 ?_
    obtain ⟨k2, h⟩ := h
    refine And.intro k2 ?_
    intro μ_1 e_μ_1
    replace h := h μ_1 e_μ_1
    exact h
  · replace h := hb c3
    clear ha hb
    intro _
    obtain ⟨k3, h⟩ := h
    refine And.intro k3 ?_
    exact h
set_option maxRecDepth 20000 in
theorem g_X12_over_86 {Q X : m_Po} {v0 v1 v3 v4 : Int} {ε : m_E} {μ : m_M} (h : TY ε μ → i32 v3 → i32 v4 → ∀ v5 : Int, v5 = 0 → G cd_X12_over Q X 89 [(0, (2, v0)), (1, (2, v1)), (3, (0, v3)), (4, (0, v4)), (5, (0, v5))] [] ε μ) : G cd_X12_over Q X 86 [(0, (2, v0)), (1, (2, v1)), (3, (0, v3)), (4, (0, v4))] [] ε μ := by
  refine G_run (m_in [10, 20, 42, 57, 69, 86, 89, 99, 114, 139, 149, 158]) 19 _ _ _ _ ?_
  show m_ty [(0, (2, v0)), (1, (2, v1)), (3, (0, v3)), (4, (0, v4))] [] ε μ → ∀ v5 : Int, v5 = 0 → G cd_X12_over Q X 89 [(0, (2, v0)), (1, (2, v1)), (3, (0, v3)), (4, (0, v4)), (5, (0, v5))] [] ε μ
  intro hty
  replace h := h hty.1 (hty.2.1 _ (List.mem_of_getElem? (i := 2) rfl)) (hty.2.1 _ (List.mem_of_getElem? (i := 3) rfl))
  intro v5 e_v5
  replace h := h v5 e_v5
  exact h
set_option maxRecDepth 20000 in
theorem g_X12_over_69 {Q X : m_Po} {v0 v1 v3 : Int} {ε : m_E} {μ : m_M} (h : TY ε μ → i32 v3 → ∀ v3_1 : Int, v3_1 = w32 (v3 + 1) → G cd_X12_over Q X 42 [(0, (2, v0)), (1, (2, v1)), (3, (0, v3_1))] [] ε μ) : G cd_X12_over Q X 69 [(0, (2, v0)), (1, (2, v1)), (3, (0, v3))] [] ε μ := by
  refine G_run (m_in [10, 20, 42, 57, 69, 86, 89, 99, 114, 139, 149, 158]) 19 _ _ _ _ ?_
  show m_ty [(0, (2, v0)), (1, (2, v1)), (3, (0, v3))] [] ε μ → ∀ v3_1 : Int, v3_1 = w32 (v3 + 1) → G cd_X12_over Q X 42 [(0, (2, v0)), (1, (2, v1)), (3, (0, v3_1))] [] ε μ
  intro hty
  replace h := h hty.1 (hty.2.1 _ (List.mem_of_getElem? (i := 2) rfl))
  intro v3_1 e_v3_1
  replace h := h v3_1 e_v3_1
  exact h
set_option maxRecDepth 20000 in
theorem g_X12_over_57 {Q X : m_Po} {v0 v1 v3 t : Int} {ε : m_E} {μ : m_M} (h : TY ε μ → i32 v3 → i32 t → (0 < t → kd ε v1 = 10 ∧ ∀ v4 : Int, v4 = μ v1 1 → o_X11_set [(2, v1), (1, 0)] ε μ (fun z ε_1 μ_1 => G cd_X12_over Q X 86 [(0, (2, v0)), (1, (2, v1)), (3, (0, v3)), (4, (0, v4))] [] ε_1 μ_1) m_F) ∧ (t ≤ 0 → kd ε v0 = 11 ∧ kd ε (fn ε v0 36) = 107 ∧ 1 < ln ε (fn ε v0 36) ∧ kd ε (μ (fn ε v0 36) 1) = 10 ∧ o_X11_twice [(2, μ (fn ε v0 36) 1)] ε μ (fun z_1 ε_2 μ_2 => G cd_X12_over Q X 69 [(0, (2, v0)), (1, (2, v1)), (3, (0, v3))] [] ε_2 μ_2) m_F)) : G cd_X12_over Q X 57 [(0, (2, v0)), (1, (2, v1)), (3, (0, v3))] [(0, t)] ε μ := by
  refine G_run (m_in [10, 20, 42, 57, 69, 86, 89, 99, 114, 139, 149, 158]) 19 _ _ _ _ ?_
  show m_ty [(0, (2, v0)), (1, (2, v1)), (3, (0, v3))] [(0, t)] ε μ → (0 < t → (m_ty [(0, (2, v0)), (1, (2, v1)), (3, (0, v3))] [] ε μ → (kd ε v1 = 10) ∧ ∀ v4 : Int, v4 = μ v1 1 → (kd ε v1 = 10) ∧ o_X11_set [(2, v1), (1, 0)] ε μ (fun z ε_1 μ_1 => G cd_X12_over Q X 86 [(0, (2, v0)), (1, (2, v1)), (3, (0, v3)), (4, (0, v4))] [] ε_1 μ_1) m_F)) ∧ (t ≤ 0 → (m_ty [(0, (2, v0)), (1, (2, v1)), (3, (0, v3))] [] ε μ → (kd ε v0 = 11) ∧ (kd ε (fn ε v0 36) = 107) ∧ ((0 : Int) ≤ 1 ∧ 1 < ln ε (fn ε v0 36)) ∧ (kd ε (μ (fn ε v0 36) 1) = 10) ∧ o_X11_twice [(2, μ (fn ε v0 36) 1)] ε μ (fun z_1 ε_2 μ_2 => G cd_X12_over Q X 69 [(0, (2, v0)), (1, (2, v1)), (3, (0, v3))] [] ε_2 μ_2) m_F))
  intro hty
  replace h := h hty.1 (hty.2.1 _ (List.mem_of_getElem? (i := 2) rfl)) (hty.2.2 _ (List.mem_of_getElem? (i := 0) rfl))
  obtain ⟨ha, hb⟩ := h
  refine And.intro (fun c5 => ?_) (fun c5 => ?_)
  · replace h := ha c5
    clear ha hb
    intro _
    obtain ⟨k1, h⟩ := h
    refine And.intro k1 ?_
    intro v4 e_v4
    replace h := h v4 e_v4
    refine And.intro k1 ?_
    exact h
  · replace h := hb c5
    clear ha hb
    intro _
    obtain ⟨k2, h⟩ := h
    refine And.intro k2 ?_
    obtain ⟨k3, h⟩ := h
    refine And.intro k3 ?_
    obtain ⟨k4, h⟩ := h
    refine And.intro (And.intro (by decide) k4) ?_
    obtain ⟨k5, h⟩ := h
    refine And.intro k5 ?_
    exact h
set_option maxRecDepth 20000 in
theorem g_X12_over_42 {Q X : m_Po} {v0 v1 v3 : Int} {ε : m_E} {μ : m_M} (h : TY ε μ → i32 v3 → kd ε v0 = 11 ∧ kd ε (fn ε v0 36) = 107 ∧ 1 < ln ε (fn ε v0 36) ∧ 0 < ln ε (fn ε v0 36) ∧ kd ε (μ (fn ε v0 36) 1) = 10 ∧ o_X11_sizes [(2, μ (fn ε v0 36) 1), (2, μ (fn ε v0 36) 0)] ε μ (fun z ε_1 μ_1 => G cd_X12_over Q X 57 [(0, (2, v0)), (1, (2, v1)), (3, (0, v3))] [(0, z)] ε_1 μ_1) m_F) : G cd_X12_over Q X 42 [(0, (2, v0)), (1, (2, v1)), (3, (0, v3))] [] ε μ := by
  refine G_run (m_in [10, 20, 42, 57, 69, 86, 89, 99, 114, 139, 149, 158]) 19 _ _ _ _ ?_
  show m_ty [(0, (2, v0)), (1, (2, v1)), (3, (0, v3))] [] ε μ → (kd ε v0 = 11) ∧ (kd ε (fn ε v0 36) = 107) ∧ ((0 : Int) ≤ 1 ∧ 1 < ln ε (fn ε v0 36)) ∧ (kd ε v0 = 11) ∧ (kd ε (fn ε v0 36) = 107) ∧ ((0 : Int) ≤ 0 ∧ 0 < ln ε (fn ε v0 36)) ∧ (kd ε (μ (fn ε v0 36) 1) = 10) ∧ o_X11_sizes [(2, μ (fn ε v0 36) 1), (2, μ (fn ε v0 36) 0)] ε μ (fun z ε_1 μ_1 => G cd_X12_over Q X 57 [(0, (2, v0)), (1, (2, v1)), (3, (0, v3))] [(0, z)] ε_1 μ_1) m_F
  intro hty
  replace h := h hty.1 (hty.2.1 _ (List.mem_of_getElem? (i := 2) rfl))
  obtain ⟨k1, h⟩ := h
  refine And.intro k1 ?_
  obtain ⟨k2, h⟩ := h
  refine And.intro k2 ?_
  obtain ⟨k3, h⟩ := h
  refine And.intro (And.intro (by decide) k3) ?_
  refine And.intro k1 ?_
  refine And.intro k2 ?_
  obtain ⟨k4, h⟩ := h
  refine And.intro (And.intro (by decide) k4) ?_
  obtain ⟨k5, h⟩ := h
  refine And.intro k5 ?_
  exact h
set_option maxRecDepth 20000 in
theorem g_X12_over_20 {Q X : m_Po} {v0 v1 : Int} {ε : m_E} {μ : m_M} (h : TY ε μ → kd ε v0 = 11 ∧ kd ε (fn ε v0 36) = 107 ∧ 0 < ln ε (fn ε v0 36) ∧ kd ε (μ (fn ε v0 36) 0) = 10 ∧ ∀ μ_1 : m_M, μ_1 = st μ (μ (fn ε v0 36) 0) 1 0 → 1 < ln ε (fn ε v0 36) ∧ kd ε (μ_1 (fn ε v0 36) 1) = 10 ∧ ∀ μ_2 : m_M, μ_2 = st μ_1 (μ_1 (fn ε v0 36) 1) 1 0 → ∀ v3 : Int, v3 = 0 → G cd_X12_over Q X 42 [(0, (2, v0)), (1, (2, v1)), (3, (0, v3))] [] ε μ_2) : G cd_X12_over Q X 20 [(0, (2, v0)), (1, (2, v1))] [] ε μ := by
  refine G_run (m_in [10, 20, 42, 57, 69, 86, 89, 99, 114, 139, 149, 158]) 19 _ _ _ _ ?_
  show m_ty [(0, (2, v0)), (1, (2, v1))] [] ε μ → (kd ε v0 = 11) ∧ (kd ε (fn ε v0 36) = 107) ∧ ((0 : Int) ≤ 0 ∧ 0 < ln ε (fn ε v0 36)) ∧ (kd ε (μ (fn ε v0 36) 0) = 10) ∧ (0 = 0 ∨ 0 = 1) ∧ ∀ μ_1 : m_M, μ_1 = st μ (μ (fn ε v0 36) 0) 1 0 → (kd ε v0 = 11) ∧ (kd ε (fn ε v0 36) = 107) ∧ ((0 : Int) ≤ 1 ∧ 1 < ln ε (fn ε v0 36)) ∧ (kd ε (μ_1 (fn ε v0 36) 1) = 10) ∧ (0 = 0 ∨ 0 = 1) ∧ ∀ μ_2 : m_M, μ_2 = st μ_1 (μ_1 (fn ε v0 36) 1) 1 0 → ∀ v3 : Int, v3 = 0 → G cd_X12_over Q X 42 [(0, (2, v0)), (1, (2, v1)), (3, (0, v3))] [] ε μ_2
  intro hty
  replace h := h hty.1 
  obtain ⟨k1, h⟩ := h
  refine And.intro k1 ?_
  obtain ⟨k2, h⟩ := h
  refine And.intro k2 ?_
  obtain ⟨k3, h⟩ := h
  refine And.intro (And.intro (by decide) k3) ?_
  obtain ⟨k4, h⟩ := h
  refine And.intro k4 ?_
  refine And.intro (Or.inl rfl) ?_
  intro μ_1 e_μ_1
  replace h := h μ_1 e_μ_1
  refine And.intro k1 ?_
  refine And.intro k2 ?_
  obtain ⟨k5, h⟩ := h
  refine And.intro (And.intro (by decide) k5) ?_
  obtain ⟨k6, h⟩ := h
  refine And.intro k6 ?_
  refine And.intro (Or.inl rfl) ?_
  intro μ_2 e_μ_2
  replace h := h μ_2 e_μ_2
  intro v3 e_v3
  replace h := h v3 e_v3
  exact h
set_option maxRecDepth 20000 in
theorem g_X12_over_10 {Q X : m_Po} {v0 v1 v2 : Int} {ε : m_E} {μ : m_M} (h : TY ε μ → kd ε v0 = 11 ∧ kd ε (fn ε v0 36) = 107 ∧ 1 < ln ε (fn ε v0 36) ∧ kd ε (μ (fn ε v0 36) 1) = 10 ∧ o_X11_take [(2, μ (fn ε v0 36) 1), (2, v2)] ε μ (fun z ε_1 μ_1 => G cd_X12_over Q X 20 [(0, (2, v0)), (1, (2, v1))] [] ε_1 μ_1) m_F) : G cd_X12_over Q X 10 [(0, (2, v0)), (1, (2, v1)), (2, (2, v2))] [] ε μ := by
  refine G_run (m_in [10, 20, 42, 57, 69, 86, 89, 99, 114, 139, 149, 158]) 19 _ _ _ _ ?_
  show m_ty [(0, (2, v0)), (1, (2, v1)), (2, (2, v2))] [] ε μ → (kd ε v0 = 11) ∧ (kd ε (fn ε v0 36) = 107) ∧ ((0 : Int) ≤ 1 ∧ 1 < ln ε (fn ε v0 36)) ∧ (kd ε (μ (fn ε v0 36) 1) = 10) ∧ o_X11_take [(2, μ (fn ε v0 36) 1), (2, v2)] ε μ (fun z ε_1 μ_1 => G cd_X12_over Q X 20 [(0, (2, v0)), (1, (2, v1))] [] ε_1 μ_1) m_F
  intro hty
  replace h := h hty.1 
  obtain ⟨k1, h⟩ := h
  refine And.intro k1 ?_
  obtain ⟨k2, h⟩ := h
  refine And.intro k2 ?_
  obtain ⟨k3, h⟩ := h
  refine And.intro (And.intro (by decide) k3) ?_
  obtain ⟨k4, h⟩ := h
  refine And.intro k4 ?_
  exact h
set_option maxRecDepth 20000 in
theorem g_X12_over_0 {Q X : m_Po} {v0 v1 v2 : Int} {ε : m_E} {μ : m_M} (h : TY ε μ → kd ε v0 = 11 ∧ kd ε (fn ε v0 36) = 107 ∧ 0 < ln ε (fn ε v0 36) ∧ kd ε (μ (fn ε v0 36) 0) = 10 ∧ o_X11_take [(2, μ (fn ε v0 36) 0), (2, v1)] ε μ (fun z ε_1 μ_1 => G cd_X12_over Q X 10 [(0, (2, v0)), (1, (2, v1)), (2, (2, v2))] [] ε_1 μ_1) m_F) : G cd_X12_over Q X 0 [(0, (2, v0)), (1, (2, v1)), (2, (2, v2))] [] ε μ := by
  refine G_run (m_in [10, 20, 42, 57, 69, 86, 89, 99, 114, 139, 149, 158]) 19 _ _ _ _ ?_
  show m_ty [(0, (2, v0)), (1, (2, v1)), (2, (2, v2))] [] ε μ → (kd ε v0 = 11) ∧ (kd ε (fn ε v0 36) = 107) ∧ ((0 : Int) ≤ 0 ∧ 0 < ln ε (fn ε v0 36)) ∧ (kd ε (μ (fn ε v0 36) 0) = 10) ∧ o_X11_take [(2, μ (fn ε v0 36) 0), (2, v1)] ε μ (fun z ε_1 μ_1 => G cd_X12_over Q X 10 [(0, (2, v0)), (1, (2, v1)), (2, (2, v2))] [] ε_1 μ_1) m_F
  intro hty
  replace h := h hty.1 
  obtain ⟨k1, h⟩ := h
  refine And.intro k1 ?_
  obtain ⟨k2, h⟩ := h
  refine And.intro k2 ?_
  obtain ⟨k3, h⟩ := h
  refine And.intro (And.intro (by decide) k3) ?_
  obtain ⟨k4, h⟩ := h
  refine And.intro k4 ?_
  exact h
theorem e_X12_over {Q X : m_Po} {v0 v1 v2 : Int} {ε : m_E} {μ : m_M} (h : TY ε μ → kd ε v0 = 11 ∧ kd ε (fn ε v0 36) = 107 ∧ 0 < ln ε (fn ε v0 36) ∧ kd ε (μ (fn ε v0 36) 0) = 10 ∧ o_X11_take [(2, μ (fn ε v0 36) 0), (2, v1)] ε μ (fun z ε_1 μ_1 => G cd_X12_over Q X 10 [(0, (2, v0)), (1, (2, v1)), (2, (2, v2))] [] ε_1 μ_1) m_F) : o_X12_over [(2, v0), (2, v1), (2, v2)] ε μ Q X := And.intro rfl (g_X12_over_0 h)
/-! ArchYardModel.lowest(LArchYardModel$Big;LArchYardModel$Big;)V -/
set_option maxRecDepth 20000 in
theorem g_X12_lowest_169 {Q X : m_Po} {ε : m_E} {μ : m_M} (h : TY ε μ → Q 0 ε μ) : G cd_X12_lowest Q X 169 [] [] ε μ := by
  refine G_run (m_in [25, 28, 32, 40, 45, 54, 62, 70, 77, 93, 107, 118, 131, 147, 158, 169]) 25 _ _ _ _ ?_
  show m_ty [] [] ε μ → Q 0 ε μ
  intro hty
  replace h := h hty.1 
  exact h
set_option maxRecDepth 20000 in
theorem g_X12_lowest_158 {Q X : m_Po} {v0 v2 : Int} {ε : m_E} {μ : m_M} (h : TY ε μ → kd ε v0 = 11 ∧ kd ε (fn ε v0 36) = 107 ∧ 3 < ln ε (fn ε v0 36) ∧ o_X12_over [(2, v0), (2, v2), (2, μ (fn ε v0 36) 3)] ε μ (fun z ε_1 μ_1 => G cd_X12_lowest Q X 169 [] [] ε_1 μ_1) m_F) : G cd_X12_lowest Q X 158 [(0, (2, v0)), (2, (2, v2))] [] ε μ := by
  refine G_run (m_in [25, 28, 32, 40, 45, 54, 62, 70, 77, 93, 107, 118, 131, 147, 158, 169]) 25 _ _ _ _ ?_
  show m_ty [(0, (2, v0)), (2, (2, v2))] [] ε μ → (kd ε v0 = 11) ∧ (kd ε (fn ε v0 36) = 107) ∧ ((0 : Int) ≤ 3 ∧ 3 < ln ε (fn ε v0 36)) ∧ (kd ε v0 = 11) ∧ o_X12_over [(2, v0), (2, v2), (2, μ (fn ε v0 36) 3)] ε μ (fun z ε_1 μ_1 => G cd_X12_lowest Q X 169 [] [] ε_1 μ_1) m_F
  intro hty
  replace h := h hty.1 
  obtain ⟨k1, h⟩ := h
  refine And.intro k1 ?_
  obtain ⟨k2, h⟩ := h
  refine And.intro k2 ?_
  obtain ⟨k3, h⟩ := h
  refine And.intro (And.intro (by decide) k3) ?_
  refine And.intro k1 ?_
  exact h
set_option maxRecDepth 20000 in
theorem g_X12_lowest_147 {Q X : m_Po} {v0 v1 v2 : Int} {ε : m_E} {μ : m_M} (h : TY ε μ → kd ε v0 = 11 ∧ kd ε (fn ε v0 36) = 107 ∧ 3 < ln ε (fn ε v0 36) ∧ o_X12_over [(2, v0), (2, v1), (2, μ (fn ε v0 36) 3)] ε μ (fun z ε_1 μ_1 => G cd_X12_lowest Q X 158 [(0, (2, v0)), (2, (2, v2))] [] ε_1 μ_1) m_F) : G cd_X12_lowest Q X 147 [(0, (2, v0)), (1, (2, v1)), (2, (2, v2))] [] ε μ := by
  refine G_run (m_in [25, 28, 32, 40, 45, 54, 62, 70, 77, 93, 107, 118, 131, 147, 158, 169]) 25 _ _ _ _ ?_
  show m_ty [(0, (2, v0)), (1, (2, v1)), (2, (2, v2))] [] ε μ → (kd ε v0 = 11) ∧ (kd ε (fn ε v0 36) = 107) ∧ ((0 : Int) ≤ 3 ∧ 3 < ln ε (fn ε v0 36)) ∧ (kd ε v0 = 11) ∧ o_X12_over [(2, v0), (2, v1), (2, μ (fn ε v0 36) 3)] ε μ (fun z ε_1 μ_1 => G cd_X12_lowest Q X 158 [(0, (2, v0)), (2, (2, v2))] [] ε_1 μ_1) m_F
  intro hty
  replace h := h hty.1 
  obtain ⟨k1, h⟩ := h
  refine And.intro k1 ?_
  obtain ⟨k2, h⟩ := h
  refine And.intro k2 ?_
  obtain ⟨k3, h⟩ := h
  refine And.intro (And.intro (by decide) k3) ?_
  refine And.intro k1 ?_
  exact h
set_option maxRecDepth 20000 in
theorem g_X12_lowest_131 {Q X : m_Po} {v0 v1 v2 : Int} {ε : m_E} {μ : m_M} (h : TY ε μ → G cd_X12_lowest Q X 70 [(0, (2, v0)), (1, (2, v1)), (2, (2, v2))] [] ε μ) : G cd_X12_lowest Q X 131 [(0, (2, v0)), (1, (2, v1)), (2, (2, v2))] [] ε μ := by
  refine G_run (m_in [25, 28, 32, 40, 45, 54, 62, 70, 77, 93, 107, 118, 131, 147, 158, 169]) 25 _ _ _ _ ?_
  show m_ty [(0, (2, v0)), (1, (2, v1)), (2, (2, v2))] [] ε μ → G cd_X12_lowest Q X 70 [(0, (2, v0)), (1, (2, v1)), (2, (2, v2))] [] ε μ
  intro hty
  replace h := h hty.1 
  exact h
set_option maxRecDepth 20000 in
theorem g_X12_lowest_118 {Q X : m_Po} {v0 v1 v2 : Int} {ε : m_E} {μ : m_M} (h : TY ε μ → kd ε v0 = 11 ∧ kd ε (fn ε v0 36) = 107 ∧ 0 < ln ε (fn ε v0 36) ∧ kd ε (fn ε v0 38) = 10 ∧ o_X11_take [(2, fn ε v0 38), (2, μ (fn ε v0 36) 0)] ε μ (fun z ε_1 μ_1 => G cd_X12_lowest Q X 131 [(0, (2, v0)), (1, (2, v1)), (2, (2, v2))] [] ε_1 μ_1) m_F) : G cd_X12_lowest Q X 118 [(0, (2, v0)), (1, (2, v1)), (2, (2, v2))] [] ε μ := by
  refine G_run (m_in [25, 28, 32, 40, 45, 54, 62, 70, 77, 93, 107, 118, 131, 147, 158, 169]) 25 _ _ _ _ ?_
  show m_ty [(0, (2, v0)), (1, (2, v1)), (2, (2, v2))] [] ε μ → (kd ε v0 = 11) ∧ (kd ε v0 = 11) ∧ (kd ε (fn ε v0 36) = 107) ∧ ((0 : Int) ≤ 0 ∧ 0 < ln ε (fn ε v0 36)) ∧ (kd ε (fn ε v0 38) = 10) ∧ o_X11_take [(2, fn ε v0 38), (2, μ (fn ε v0 36) 0)] ε μ (fun z ε_1 μ_1 => G cd_X12_lowest Q X 131 [(0, (2, v0)), (1, (2, v1)), (2, (2, v2))] [] ε_1 μ_1) m_F
  intro hty
  replace h := h hty.1 
  obtain ⟨k1, h⟩ := h
  refine And.intro k1 ?_
  refine And.intro k1 ?_
  obtain ⟨k2, h⟩ := h
  refine And.intro k2 ?_
  obtain ⟨k3, h⟩ := h
  refine And.intro (And.intro (by decide) k3) ?_
  obtain ⟨k4, h⟩ := h
  refine And.intro k4 ?_
  exact h
set_option maxRecDepth 20000 in
theorem g_X12_lowest_107 {Q X : m_Po} {v0 v1 v2 : Int} {ε : m_E} {μ : m_M} (h : TY ε μ → kd ε v0 = 11 ∧ kd ε (fn ε v0 37) = 10 ∧ o_X11_take [(2, fn ε v0 37), (2, fn ε v0 38)] ε μ (fun z ε_1 μ_1 => G cd_X12_lowest Q X 118 [(0, (2, v0)), (1, (2, v1)), (2, (2, v2))] [] ε_1 μ_1) m_F) : G cd_X12_lowest Q X 107 [(0, (2, v0)), (1, (2, v1)), (2, (2, v2))] [] ε μ := by
  refine G_run (m_in [25, 28, 32, 40, 45, 54, 62, 70, 77, 93, 107, 118, 131, 147, 158, 169]) 25 _ _ _ _ ?_
  show m_ty [(0, (2, v0)), (1, (2, v1)), (2, (2, v2))] [] ε μ → (kd ε v0 = 11) ∧ (kd ε v0 = 11) ∧ (kd ε (fn ε v0 37) = 10) ∧ o_X11_take [(2, fn ε v0 37), (2, fn ε v0 38)] ε μ (fun z ε_1 μ_1 => G cd_X12_lowest Q X 118 [(0, (2, v0)), (1, (2, v1)), (2, (2, v2))] [] ε_1 μ_1) m_F
  intro hty
  replace h := h hty.1 
  obtain ⟨k1, h⟩ := h
  refine And.intro k1 ?_
  refine And.intro k1 ?_
  obtain ⟨k2, h⟩ := h
  refine And.intro k2 ?_
  exact h
set_option maxRecDepth 20000 in
theorem g_X12_lowest_93 {Q X : m_Po} {v0 v1 v2 : Int} {ε : m_E} {μ : m_M} (h : TY ε μ → kd ε v0 = 11 ∧ kd ε (fn ε v0 36) = 107 ∧ 2 < ln ε (fn ε v0 36) ∧ o_X12_over [(2, v0), (2, μ (fn ε v0 36) 2), (2, fn ε v0 38)] ε μ (fun z ε_1 μ_1 => G cd_X12_lowest Q X 107 [(0, (2, v0)), (1, (2, v1)), (2, (2, v2))] [] ε_1 μ_1) m_F) : G cd_X12_lowest Q X 93 [(0, (2, v0)), (1, (2, v1)), (2, (2, v2))] [] ε μ := by
  refine G_run (m_in [25, 28, 32, 40, 45, 54, 62, 70, 77, 93, 107, 118, 131, 147, 158, 169]) 25 _ _ _ _ ?_
  show m_ty [(0, (2, v0)), (1, (2, v1)), (2, (2, v2))] [] ε μ → (kd ε v0 = 11) ∧ (kd ε (fn ε v0 36) = 107) ∧ ((0 : Int) ≤ 2 ∧ 2 < ln ε (fn ε v0 36)) ∧ (kd ε v0 = 11) ∧ (kd ε v0 = 11) ∧ o_X12_over [(2, v0), (2, μ (fn ε v0 36) 2), (2, fn ε v0 38)] ε μ (fun z ε_1 μ_1 => G cd_X12_lowest Q X 107 [(0, (2, v0)), (1, (2, v1)), (2, (2, v2))] [] ε_1 μ_1) m_F
  intro hty
  replace h := h hty.1 
  obtain ⟨k1, h⟩ := h
  refine And.intro k1 ?_
  obtain ⟨k2, h⟩ := h
  refine And.intro k2 ?_
  obtain ⟨k3, h⟩ := h
  refine And.intro (And.intro (by decide) k3) ?_
  refine And.intro k1 ?_
  refine And.intro k1 ?_
  exact h
set_option maxRecDepth 20000 in
theorem g_X12_lowest_77 {Q X : m_Po} {v0 v1 v2 t : Int} {ε : m_E} {μ : m_M} (h : TY ε μ → i32 t → (t ≠ 0 → kd ε v0 = 11 ∧ kd ε (fn ε v0 36) = 107 ∧ 3 < ln ε (fn ε v0 36) ∧ kd ε (μ (fn ε v0 36) 3) = 10 ∧ o_X11_take [(2, μ (fn ε v0 36) 3), (2, fn ε v0 37)] ε μ (fun z ε_1 μ_1 => G cd_X12_lowest Q X 147 [(0, (2, v0)), (1, (2, v1)), (2, (2, v2))] [] ε_1 μ_1) m_F) ∧ (t = 0 → kd ε v0 = 11 ∧ kd ε (fn ε v0 36) = 107 ∧ 2 < ln ε (fn ε v0 36) ∧ kd ε (μ (fn ε v0 36) 2) = 10 ∧ o_X11_take [(2, μ (fn ε v0 36) 2), (2, fn ε v0 37)] ε μ (fun z_1 ε_2 μ_2 => G cd_X12_lowest Q X 93 [(0, (2, v0)), (1, (2, v1)), (2, (2, v2))] [] ε_2 μ_2) m_F)) : G cd_X12_lowest Q X 77 [(0, (2, v0)), (1, (2, v1)), (2, (2, v2))] [(0, t)] ε μ := by
  refine G_run (m_in [25, 28, 32, 40, 45, 54, 62, 70, 77, 93, 107, 118, 131, 147, 158, 169]) 25 _ _ _ _ ?_
  show m_ty [(0, (2, v0)), (1, (2, v1)), (2, (2, v2))] [(0, t)] ε μ → (t ≠ 0 → (m_ty [(0, (2, v0)), (1, (2, v1)), (2, (2, v2))] [] ε μ → (kd ε v0 = 11) ∧ (kd ε (fn ε v0 36) = 107) ∧ ((0 : Int) ≤ 3 ∧ 3 < ln ε (fn ε v0 36)) ∧ (kd ε v0 = 11) ∧ (kd ε (μ (fn ε v0 36) 3) = 10) ∧ o_X11_take [(2, μ (fn ε v0 36) 3), (2, fn ε v0 37)] ε μ (fun z ε_1 μ_1 => G cd_X12_lowest Q X 147 [(0, (2, v0)), (1, (2, v1)), (2, (2, v2))] [] ε_1 μ_1) m_F)) ∧ (t = 0 → (m_ty [(0, (2, v0)), (1, (2, v1)), (2, (2, v2))] [] ε μ → (kd ε v0 = 11) ∧ (kd ε (fn ε v0 36) = 107) ∧ ((0 : Int) ≤ 2 ∧ 2 < ln ε (fn ε v0 36)) ∧ (kd ε v0 = 11) ∧ (kd ε (μ (fn ε v0 36) 2) = 10) ∧ o_X11_take [(2, μ (fn ε v0 36) 2), (2, fn ε v0 37)] ε μ (fun z_1 ε_2 μ_2 => G cd_X12_lowest Q X 93 [(0, (2, v0)), (1, (2, v1)), (2, (2, v2))] [] ε_2 μ_2) m_F))
  intro hty
  replace h := h hty.1 (hty.2.2 _ (List.mem_of_getElem? (i := 0) rfl))
  obtain ⟨ha, hb⟩ := h
  refine And.intro (fun c8 => ?_) (fun c8 => ?_)
  · replace h := ha c8
    clear ha hb
    intro _
    obtain ⟨k1, h⟩ := h
    refine And.intro k1 ?_
    obtain ⟨k2, h⟩ := h
    refine And.intro k2 ?_
    obtain ⟨k3, h⟩ := h
    refine And.intro (And.intro (by decide) k3) ?_
    refine And.intro k1 ?_
    obtain ⟨k4, h⟩ := h
    refine And.intro k4 ?_
    exact h
  · replace h := hb c8
    clear ha hb
    intro _
    obtain ⟨k5, h⟩ := h
    refine And.intro k5 ?_
    obtain ⟨k6, h⟩ := h
    refine And.intro k6 ?_
    obtain ⟨k7, h⟩ := h
    refine And.intro (And.intro (by decide) k7) ?_
    refine And.intro k5 ?_
    obtain ⟨k8, h⟩ := h
    refine And.intro k8 ?_
    exact h
set_option maxRecDepth 20000 in
theorem g_X12_lowest_70 {Q X : m_Po} {v0 v1 v2 : Int} {ε : m_E} {μ : m_M} (h : TY ε μ → kd ε v0 = 11 ∧ kd ε (fn ε v0 38) = 10 ∧ o_X11_isNothing [(2, fn ε v0 38)] ε μ (fun z ε_1 μ_1 => G cd_X12_lowest Q X 77 [(0, (2, v0)), (1, (2, v1)), (2, (2, v2))] [(0, z)] ε_1 μ_1) m_F) : G cd_X12_lowest Q X 70 [(0, (2, v0)), (1, (2, v1)), (2, (2, v2))] [] ε μ := by
  refine G_run (m_in [25, 28, 32, 40, 45, 54, 62, 70, 77, 93, 107, 118, 131, 147, 158, 169]) 25 _ _ _ _ ?_
  show m_ty [(0, (2, v0)), (1, (2, v1)), (2, (2, v2))] [] ε μ → (kd ε v0 = 11) ∧ (kd ε (fn ε v0 38) = 10) ∧ o_X11_isNothing [(2, fn ε v0 38)] ε μ (fun z ε_1 μ_1 => G cd_X12_lowest Q X 77 [(0, (2, v0)), (1, (2, v1)), (2, (2, v2))] [(0, z)] ε_1 μ_1) m_F
  intro hty
  replace h := h hty.1 
  obtain ⟨k1, h⟩ := h
  refine And.intro k1 ?_
  obtain ⟨k2, h⟩ := h
  refine And.intro k2 ?_
  exact h
set_option maxRecDepth 20000 in
theorem g_X12_lowest_62 {Q X : m_Po} {v0 v1 v2 : Int} {ε : m_E} {μ : m_M} (h : TY ε μ → kd ε v0 = 11 ∧ kd ε (fn ε v0 37) = 10 ∧ ∀ μ_1 : m_M, μ_1 = st μ (fn ε v0 37) 1 0 → G cd_X12_lowest Q X 70 [(0, (2, v0)), (1, (2, v1)), (2, (2, v2))] [] ε μ_1) : G cd_X12_lowest Q X 62 [(0, (2, v0)), (1, (2, v1)), (2, (2, v2))] [] ε μ := by
  refine G_run (m_in [25, 28, 32, 40, 45, 54, 62, 70, 77, 93, 107, 118, 131, 147, 158, 169]) 25 _ _ _ _ ?_
  show m_ty [(0, (2, v0)), (1, (2, v1)), (2, (2, v2))] [] ε μ → (kd ε v0 = 11) ∧ (kd ε (fn ε v0 37) = 10) ∧ (0 = 0 ∨ 0 = 1) ∧ ∀ μ_1 : m_M, μ_1 = st μ (fn ε v0 37) 1 0 → G cd_X12_lowest Q X 70 [(0, (2, v0)), (1, (2, v1)), (2, (2, v2))] [] ε μ_1
  intro hty
  replace h := h hty.1 
  obtain ⟨k1, h⟩ := h
  refine And.intro k1 ?_
  obtain ⟨k2, h⟩ := h
  refine And.intro k2 ?_
  refine And.intro (Or.inl rfl) ?_
  intro μ_1 e_μ_1
  replace h := h μ_1 e_μ_1
  exact h
set_option maxRecDepth 20000 in
theorem g_X12_lowest_54 {Q X : m_Po} {v0 v1 v2 : Int} {ε : m_E} {μ : m_M} (h : TY ε μ → kd ε v0 = 11 ∧ kd ε (fn ε v0 38) = 10 ∧ o_X11_take [(2, fn ε v0 38), (2, v2)] ε μ (fun z ε_1 μ_1 => G cd_X12_lowest Q X 62 [(0, (2, v0)), (1, (2, v1)), (2, (2, v2))] [] ε_1 μ_1) m_F) : G cd_X12_lowest Q X 54 [(0, (2, v0)), (1, (2, v1)), (2, (2, v2))] [] ε μ := by
  refine G_run (m_in [25, 28, 32, 40, 45, 54, 62, 70, 77, 93, 107, 118, 131, 147, 158, 169]) 25 _ _ _ _ ?_
  show m_ty [(0, (2, v0)), (1, (2, v1)), (2, (2, v2))] [] ε μ → (kd ε v0 = 11) ∧ (kd ε (fn ε v0 38) = 10) ∧ o_X11_take [(2, fn ε v0 38), (2, v2)] ε μ (fun z ε_1 μ_1 => G cd_X12_lowest Q X 62 [(0, (2, v0)), (1, (2, v1)), (2, (2, v2))] [] ε_1 μ_1) m_F
  intro hty
  replace h := h hty.1 
  obtain ⟨k1, h⟩ := h
  refine And.intro k1 ?_
  obtain ⟨k2, h⟩ := h
  refine And.intro k2 ?_
  exact h
set_option maxRecDepth 20000 in
theorem g_X12_lowest_45 {Q X : m_Po} {ε : m_E} {μ : m_M} (h : TY ε μ → Q 0 ε μ) : G cd_X12_lowest Q X 45 [] [] ε μ := by
  refine G_run (m_in [25, 28, 32, 40, 45, 54, 62, 70, 77, 93, 107, 118, 131, 147, 158, 169]) 25 _ _ _ _ ?_
  show m_ty [] [] ε μ → Q 0 ε μ
  intro hty
  replace h := h hty.1 
  exact h
set_option maxRecDepth 20000 in
theorem g_X12_lowest_40 {Q X : m_Po} {v2 : Int} {ε : m_E} {μ : m_M} (h : TY ε μ → kd ε v2 = 10 ∧ o_X11_set [(2, v2), (1, 1)] ε μ (fun z ε_1 μ_1 => G cd_X12_lowest Q X 45 [] [] ε_1 μ_1) m_F) : G cd_X12_lowest Q X 40 [(2, (2, v2))] [] ε μ := by
  refine G_run (m_in [25, 28, 32, 40, 45, 54, 62, 70, 77, 93, 107, 118, 131, 147, 158, 169]) 25 _ _ _ _ ?_
  show m_ty [(2, (2, v2))] [] ε μ → (kd ε v2 = 10) ∧ o_X11_set [(2, v2), (1, 1)] ε μ (fun z ε_1 μ_1 => G cd_X12_lowest Q X 45 [] [] ε_1 μ_1) m_F
  intro hty
  replace h := h hty.1 
  obtain ⟨k1, h⟩ := h
  refine And.intro k1 ?_
  exact h
set_option maxRecDepth 20000 in
theorem g_X12_lowest_32 {Q X : m_Po} {v0 v1 v2 t : Int} {ε : m_E} {μ : m_M} (h : TY ε μ → i32 t → (t = 0 → kd ε v0 = 11 ∧ kd ε (fn ε v0 37) = 10 ∧ o_X11_take [(2, fn ε v0 37), (2, v1)] ε μ (fun z ε_1 μ_1 => G cd_X12_lowest Q X 54 [(0, (2, v0)), (1, (2, v1)), (2, (2, v2))] [] ε_1 μ_1) m_F) ∧ (t ≠ 0 → kd ε v1 = 10 ∧ o_X11_set [(2, v1), (1, 0)] ε μ (fun z_1 ε_2 μ_2 => G cd_X12_lowest Q X 40 [(2, (2, v2))] [] ε_2 μ_2) m_F)) : G cd_X12_lowest Q X 32 [(0, (2, v0)), (1, (2, v1)), (2, (2, v2))] [(0, t)] ε μ := by
  refine G_run (m_in [25, 28, 32, 40, 45, 54, 62, 70, 77, 93, 107, 118, 131, 147, 158, 169]) 25 _ _ _ _ ?_
  show m_ty [(0, (2, v0)), (1, (2, v1)), (2, (2, v2))] [(0, t)] ε μ → (t = 0 → (m_ty [(0, (2, v0)), (1, (2, v1)), (2, (2, v2))] [] ε μ → (kd ε v0 = 11) ∧ (kd ε (fn ε v0 37) = 10) ∧ o_X11_take [(2, fn ε v0 37), (2, v1)] ε μ (fun z ε_1 μ_1 => G cd_X12_lowest Q X 54 [(0, (2, v0)), (1, (2, v1)), (2, (2, v2))] [] ε_1 μ_1) m_F)) ∧ (t ≠ 0 → (m_ty [(1, (2, v1)), (2, (2, v2))] [] ε μ → (kd ε v1 = 10) ∧ o_X11_set [(2, v1), (1, 0)] ε μ (fun z_1 ε_2 μ_2 => G cd_X12_lowest Q X 40 [(2, (2, v2))] [] ε_2 μ_2) m_F))
  intro hty
  replace h := h hty.1 (hty.2.2 _ (List.mem_of_getElem? (i := 0) rfl))
  obtain ⟨ha, hb⟩ := h
  refine And.intro (fun c3 => ?_) (fun c3 => ?_)
  · replace h := ha c3
    clear ha hb
    intro _
    obtain ⟨k1, h⟩ := h
    refine And.intro k1 ?_
    obtain ⟨k2, h⟩ := h
    refine And.intro k2 ?_
    exact h
  · replace h := hb c3
    clear ha hb
    intro _
    obtain ⟨k3, h⟩ := h
    refine And.intro k3 ?_
    exact h
set_option maxRecDepth 20000 in
theorem g_X12_lowest_28 {Q X : m_Po} {v0 v1 v2 : Int} {ε : m_E} {μ : m_M} (h : TY ε μ → kd ε v1 = 10 ∧ o_X11_isNothing [(2, v1)] ε μ (fun z ε_1 μ_1 => G cd_X12_lowest Q X 32 [(0, (2, v0)), (1, (2, v1)), (2, (2, v2))] [(0, z)] ε_1 μ_1) m_F) : G cd_X12_lowest Q X 28 [(0, (2, v0)), (1, (2, v1)), (2, (2, v2))] [] ε μ := by
  refine G_run (m_in [25, 28, 32, 40, 45, 54, 62, 70, 77, 93, 107, 118, 131, 147, 158, 169]) 25 _ _ _ _ ?_
  show m_ty [(0, (2, v0)), (1, (2, v1)), (2, (2, v2))] [] ε μ → (kd ε v1 = 10) ∧ o_X11_isNothing [(2, v1)] ε μ (fun z ε_1 μ_1 => G cd_X12_lowest Q X 32 [(0, (2, v0)), (1, (2, v1)), (2, (2, v2))] [(0, z)] ε_1 μ_1) m_F
  intro hty
  replace h := h hty.1 
  obtain ⟨k1, h⟩ := h
  refine And.intro k1 ?_
  exact h
set_option maxRecDepth 20000 in
theorem g_X12_lowest_25 {Q X : m_Po} {v0 v1 v2 t t_1 : Int} {ε : m_E} {μ : m_M} (h : TY ε μ → i32 t_1 → kd ε t = 10 ∧ (t_1 = 0 ∨ t_1 = 1) ∧ ∀ μ_1 : m_M, μ_1 = st μ t 1 t_1 → G cd_X12_lowest Q X 28 [(0, (2, v0)), (1, (2, v1)), (2, (2, v2))] [] ε μ_1) : G cd_X12_lowest Q X 25 [(0, (2, v0)), (1, (2, v1)), (2, (2, v2))] [(0, t_1), (2, t)] ε μ := by
  refine G_run (m_in [25, 28, 32, 40, 45, 54, 62, 70, 77, 93, 107, 118, 131, 147, 158, 169]) 25 _ _ _ _ ?_
  show m_ty [(0, (2, v0)), (1, (2, v1)), (2, (2, v2))] [(0, t_1), (2, t)] ε μ → (kd ε t = 10) ∧ (t_1 = 0 ∨ t_1 = 1) ∧ ∀ μ_1 : m_M, μ_1 = st μ t 1 t_1 → G cd_X12_lowest Q X 28 [(0, (2, v0)), (1, (2, v1)), (2, (2, v2))] [] ε μ_1
  intro hty
  replace h := h hty.1 (hty.2.2 _ (List.mem_of_getElem? (i := 0) rfl))
  obtain ⟨k1, h⟩ := h
  refine And.intro k1 ?_
  obtain ⟨k2, h⟩ := h
  refine And.intro k2 ?_
  intro μ_1 e_μ_1
  replace h := h μ_1 e_μ_1
  exact h
set_option maxRecDepth 20000 in
theorem g_X12_lowest_0 {Q X : m_Po} {v0 v1 v2 : Int} {ε : m_E} {μ : m_M} (h : TY ε μ → kd ε v2 = 10 ∧ ((μ v2 1) = 0 → G cd_X12_lowest Q X 28 [(0, (2, v0)), (1, (2, v1)), (2, (2, v2))] [] ε μ) ∧ ((μ v2 1) ≠ 0 → ∀ μ_1 : m_M, μ_1 = st μ v2 1 0 → kd ε v1 = 10 ∧ ∀ t : Int, t = (if (μ_1 v1 1) = 0 then 1 else 0) → kd ε v1 = 10 ∧ (t = 0 ∨ t = 1) ∧ ∀ μ_2 : m_M, μ_2 = st μ_1 v1 1 t → G cd_X12_lowest Q X 28 [(0, (2, v0)), (1, (2, v1)), (2, (2, v2))] [] ε μ_2)) : G cd_X12_lowest Q X 0 [(0, (2, v0)), (1, (2, v1)), (2, (2, v2))] [] ε μ := by
  refine G_run (m_in [25, 28, 32, 40, 45, 54, 62, 70, 77, 93, 107, 118, 131, 147, 158, 169]) 25 _ _ _ _ ?_
  show m_ty [(0, (2, v0)), (1, (2, v1)), (2, (2, v2))] [] ε μ → (kd ε v2 = 10) ∧ ((μ v2 1) = 0 → G cd_X12_lowest Q X 28 [(0, (2, v0)), (1, (2, v1)), (2, (2, v2))] [] ε μ) ∧ ((μ v2 1) ≠ 0 → (m_ty [(0, (2, v0)), (1, (2, v1)), (2, (2, v2))] [] ε μ → (kd ε v2 = 10) ∧ (0 = 0 ∨ 0 = 1) ∧ ∀ μ_1 : m_M, μ_1 = st μ v2 1 0 → (kd ε v1 = 10) ∧ ((μ_1 v1 1) ≠ 0 → (m_ty [(0, (2, v0)), (1, (2, v1)), (2, (2, v2))] [(2, v1)] ε μ_1 → G cd_X12_lowest Q X 25 [(0, (2, v0)), (1, (2, v1)), (2, (2, v2))] [(0, 0), (2, v1)] ε μ_1)) ∧ ((μ_1 v1 1) = 0 → (m_ty [(0, (2, v0)), (1, (2, v1)), (2, (2, v2))] [(2, v1)] ε μ_1 → G cd_X12_lowest Q X 25 [(0, (2, v0)), (1, (2, v1)), (2, (2, v2))] [(0, 1), (2, v1)] ε μ_1))))
  intro hty
  replace h := h hty.1 
  obtain ⟨k1, h⟩ := h
  refine And.intro k1 ?_
  obtain ⟨ha, hb⟩ := h
  refine And.intro (fun c5 => ?_) (fun c5 => ?_)
  · replace h := ha c5
    clear ha hb
    exact h
  · replace h := hb c5
    clear ha hb
    intro _
    refine And.intro k1 ?_
    refine And.intro (Or.inl rfl) ?_
    intro μ_1 e_μ_1
    replace h := h μ_1 e_μ_1
    obtain ⟨k2, h⟩ := h
    refine And.intro k2 ?_
    have hj := h
    refine And.intro (fun c2 => ?_) (fun c2 => ?_)
    · intro _
      exact g_X12_lowest_25 (fun _ _ => (hj _ (((if_neg (c2)).trans rfl)).symm))
    · intro _
      exact g_X12_lowest_25 (fun _ _ => (hj _ (((if_pos c2).trans rfl)).symm))
theorem e_X12_lowest {Q X : m_Po} {v0 v1 v2 : Int} {ε : m_E} {μ : m_M} (h : TY ε μ → kd ε v2 = 10 ∧ ((μ v2 1) = 0 → G cd_X12_lowest Q X 28 [(0, (2, v0)), (1, (2, v1)), (2, (2, v2))] [] ε μ) ∧ ((μ v2 1) ≠ 0 → ∀ μ_1 : m_M, μ_1 = st μ v2 1 0 → kd ε v1 = 10 ∧ ∀ t : Int, t = (if (μ_1 v1 1) = 0 then 1 else 0) → kd ε v1 = 10 ∧ (t = 0 ∨ t = 1) ∧ ∀ μ_2 : m_M, μ_2 = st μ_1 v1 1 t → G cd_X12_lowest Q X 28 [(0, (2, v0)), (1, (2, v1)), (2, (2, v2))] [] ε μ_2)) : o_X12_lowest [(2, v0), (2, v1), (2, v2)] ε μ Q X := And.intro rfl (g_X12_lowest_0 h)
/-! ArchYardModel.two(JJJ)V -/
set_option maxRecDepth 20000 in
theorem g_X12_two_0 {Q X : m_Po} {v0 v1 v3 v5 : Int} {ε : m_E} {μ : m_M} (h : TY ε μ → i64 v1 → i64 v3 → i64 v5 → kd ε v0 = 11 ∧ kd ε (fn ε v0 39) = 101 ∧ (0 : Int) ≤ μ v0 42 ∧ μ v0 42 < ln ε (fn ε v0 39) ∧ ∀ μ_1 : m_M, μ_1 = st μ (fn ε v0 39) (μ v0 42) v1 → kd ε (fn ε v0 40) = 101 ∧ (0 : Int) ≤ μ_1 v0 42 ∧ μ_1 v0 42 < ln ε (fn ε v0 40) ∧ ∀ μ_2 : m_M, μ_2 = st μ_1 (fn ε v0 40) (μ_1 v0 42) v3 → kd ε (fn ε v0 41) = 101 ∧ (0 : Int) ≤ μ_2 v0 42 ∧ μ_2 v0 42 < ln ε (fn ε v0 41) ∧ ∀ μ_3 : m_M, μ_3 = st μ_2 (fn ε v0 41) (μ_2 v0 42) v5 → ∀ μ_4 : m_M, μ_4 = st μ_3 v0 42 (w32 ((μ_3 v0 42) + 1)) → Q 0 ε μ_4) : G cd_X12_two Q X 0 [(0, (2, v0)), (1, (1, v1)), (3, (1, v3)), (5, (1, v5))] [] ε μ := by
  refine G_run (m_in []) 2 _ _ _ _ ?_
  show m_ty [(0, (2, v0)), (1, (1, v1)), (3, (1, v3)), (5, (1, v5))] [] ε μ → (kd ε v0 = 11) ∧ (kd ε v0 = 11) ∧ (kd ε (fn ε v0 39) = 101) ∧ ((0 : Int) ≤ μ v0 42 ∧ μ v0 42 < ln ε (fn ε v0 39)) ∧ ∀ μ_1 : m_M, μ_1 = st μ (fn ε v0 39) (μ v0 42) v1 → (kd ε v0 = 11) ∧ (kd ε v0 = 11) ∧ (kd ε (fn ε v0 40) = 101) ∧ ((0 : Int) ≤ μ_1 v0 42 ∧ μ_1 v0 42 < ln ε (fn ε v0 40)) ∧ ∀ μ_2 : m_M, μ_2 = st μ_1 (fn ε v0 40) (μ_1 v0 42) v3 → (kd ε v0 = 11) ∧ (kd ε v0 = 11) ∧ (kd ε (fn ε v0 41) = 101) ∧ ((0 : Int) ≤ μ_2 v0 42 ∧ μ_2 v0 42 < ln ε (fn ε v0 41)) ∧ ∀ μ_3 : m_M, μ_3 = st μ_2 (fn ε v0 41) (μ_2 v0 42) v5 → (kd ε v0 = 11) ∧ (kd ε v0 = 11) ∧ ∀ μ_4 : m_M, μ_4 = st μ_3 v0 42 (w32 ((μ_3 v0 42) + 1)) → Q 0 ε μ_4
  intro hty
  replace h := h hty.1 (hty.2.1 _ (List.mem_of_getElem? (i := 1) rfl)) (hty.2.1 _ (List.mem_of_getElem? (i := 2) rfl)) (hty.2.1 _ (List.mem_of_getElem? (i := 3) rfl))
  obtain ⟨k1, h⟩ := h
  refine And.intro k1 ?_
  refine And.intro k1 ?_
  obtain ⟨k2, h⟩ := h
  refine And.intro k2 ?_
  obtain ⟨k3, h⟩ := h
  obtain ⟨k4, h⟩ := h
  refine And.intro (And.intro k3 k4) ?_
  intro μ_1 e_μ_1
  replace h := h μ_1 e_μ_1
  refine And.intro k1 ?_
  refine And.intro k1 ?_
  obtain ⟨k5, h⟩ := h
  refine And.intro k5 ?_
  obtain ⟨k6, h⟩ := h
  obtain ⟨k7, h⟩ := h
  refine And.intro (And.intro k6 k7) ?_
  intro μ_2 e_μ_2
  replace h := h μ_2 e_μ_2
  refine And.intro k1 ?_
  refine And.intro k1 ?_
  obtain ⟨k8, h⟩ := h
  refine And.intro k8 ?_
  obtain ⟨k9, h⟩ := h
  obtain ⟨k10, h⟩ := h
  refine And.intro (And.intro k9 k10) ?_
  intro μ_3 e_μ_3
  replace h := h μ_3 e_μ_3
  refine And.intro k1 ?_
  refine And.intro k1 ?_
  intro μ_4 e_μ_4
  replace h := h μ_4 e_μ_4
  exact h
theorem e_X12_two {Q X : m_Po} {v0 v1 v3 v5 : Int} {ε : m_E} {μ : m_M} (h : TY ε μ → i64 v1 → i64 v3 → i64 v5 → kd ε v0 = 11 ∧ kd ε (fn ε v0 39) = 101 ∧ (0 : Int) ≤ μ v0 42 ∧ μ v0 42 < ln ε (fn ε v0 39) ∧ ∀ μ_1 : m_M, μ_1 = st μ (fn ε v0 39) (μ v0 42) v1 → kd ε (fn ε v0 40) = 101 ∧ (0 : Int) ≤ μ_1 v0 42 ∧ μ_1 v0 42 < ln ε (fn ε v0 40) ∧ ∀ μ_2 : m_M, μ_2 = st μ_1 (fn ε v0 40) (μ_1 v0 42) v3 → kd ε (fn ε v0 41) = 101 ∧ (0 : Int) ≤ μ_2 v0 42 ∧ μ_2 v0 42 < ln ε (fn ε v0 41) ∧ ∀ μ_3 : m_M, μ_3 = st μ_2 (fn ε v0 41) (μ_2 v0 42) v5 → ∀ μ_4 : m_M, μ_4 = st μ_3 v0 42 (w32 ((μ_3 v0 42) + 1)) → Q 0 ε μ_4) : o_X12_two [(2, v0), (1, v1), (1, v3), (1, v5)] ε μ Q X := And.intro rfl (g_X12_two_0 h)
/-! ArchYardModel.lies(JJJJ)I -/
set_option maxRecDepth 20000 in
theorem g_X12_lies_180 {Q X : m_Po} {v8 v10 v12 v14 v16 : Int} {ε : m_E} {μ : m_M} (h : TY ε μ → i64 v8 → i64 v10 → i64 v12 → i64 v14 → i32 v16 → ∀ v16_1 : Int, v16_1 = w32 (-v16) → G cd_X12_lies Q X 17 [(8, (1, v8)), (10, (1, v10)), (12, (1, v12)), (14, (1, v14)), (16, (0, v16_1))] [] ε μ) : G cd_X12_lies Q X 180 [(8, (1, v8)), (10, (1, v10)), (12, (1, v12)), (14, (1, v14)), (16, (0, v16))] [] ε μ := by
  refine G_run (m_in [6, 14, 17, 37, 60, 87, 108, 122, 155, 164, 172, 180]) 29 _ _ _ _ ?_
  show m_ty [(8, (1, v8)), (10, (1, v10)), (12, (1, v12)), (14, (1, v14)), (16, (0, v16))] [] ε μ → ∀ v16_1 : Int, v16_1 = w32 (-v16) → G cd_X12_lies Q X 17 [(8, (1, v8)), (10, (1, v10)), (12, (1, v12)), (14, (1, v14)), (16, (0, v16_1))] [] ε μ
  intro hty
  replace h := h hty.1 (hty.2.1 _ (List.mem_of_getElem? (i := 0) rfl)) (hty.2.1 _ (List.mem_of_getElem? (i := 1) rfl)) (hty.2.1 _ (List.mem_of_getElem? (i := 2) rfl)) (hty.2.1 _ (List.mem_of_getElem? (i := 3) rfl)) (hty.2.1 _ (List.mem_of_getElem? (i := 4) rfl))
  intro v16_1 e_v16_1
  replace h := h v16_1 e_v16_1
  exact h
set_option maxRecDepth 20000 in
theorem g_X12_lies_172 {Q X : m_Po} {v8 v10 v14 v16 v21 : Int} {ε : m_E} {μ : m_M} (h : TY ε μ → i64 v8 → i64 v10 → i64 v14 → i32 v16 → i64 v21 → ∀ v12 : Int, v12 = v14 → ∀ v14_1 : Int, v14_1 = v21 → ∀ v16_1 : Int, v16_1 = w32 (-v16) → G cd_X12_lies Q X 17 [(8, (1, v8)), (10, (1, v10)), (12, (1, v12)), (14, (1, v14_1)), (16, (0, v16_1))] [] ε μ) : G cd_X12_lies Q X 172 [(8, (1, v8)), (10, (1, v10)), (14, (1, v14)), (16, (0, v16)), (21, (1, v21))] [] ε μ := by
  refine G_run (m_in [6, 14, 17, 37, 60, 87, 108, 122, 155, 164, 172, 180]) 29 _ _ _ _ ?_
  show m_ty [(8, (1, v8)), (10, (1, v10)), (14, (1, v14)), (16, (0, v16)), (21, (1, v21))] [] ε μ → ∀ v12 : Int, v12 = v14 → ∀ v14_1 : Int, v14_1 = v21 → G cd_X12_lies Q X 180 [(8, (1, v8)), (10, (1, v10)), (12, (1, v12)), (14, (1, v14_1)), (16, (0, v16))] [] ε μ
  intro hty
  replace h := h hty.1 (hty.2.1 _ (List.mem_of_getElem? (i := 0) rfl)) (hty.2.1 _ (List.mem_of_getElem? (i := 1) rfl)) (hty.2.1 _ (List.mem_of_getElem? (i := 2) rfl)) (hty.2.1 _ (List.mem_of_getElem? (i := 3) rfl)) (hty.2.1 _ (List.mem_of_getElem? (i := 4) rfl))
  intro v12 e_v12
  replace h := h v12 e_v12
  intro v14_1 e_v14_1
  replace h := h v14_1 e_v14_1
  exact g_X12_lies_180 (fun _ _ _ _ _ _ => h)
set_option maxRecDepth 20000 in
theorem g_X12_lies_164 {Q X : m_Po} {v8 v12 v14 v16 v21 : Int} {ε : m_E} {μ : m_M} (h : TY ε μ → i64 v8 → i64 v12 → i64 v14 → i32 v16 → i64 v21 → ∀ v10 : Int, v10 = v21 → ∀ v21_1 : Int, v21_1 = v12 → ∀ v12_1 : Int, v12_1 = v14 → ∀ v14_1 : Int, v14_1 = v21_1 → ∀ v16_1 : Int, v16_1 = w32 (-v16) → G cd_X12_lies Q X 17 [(8, (1, v8)), (10, (1, v10)), (12, (1, v12_1)), (14, (1, v14_1)), (16, (0, v16_1))] [] ε μ) : G cd_X12_lies Q X 164 [(8, (1, v8)), (12, (1, v12)), (14, (1, v14)), (16, (0, v16)), (21, (1, v21))] [] ε μ := by
  refine G_run (m_in [6, 14, 17, 37, 60, 87, 108, 122, 155, 164, 172, 180]) 29 _ _ _ _ ?_
  show m_ty [(8, (1, v8)), (12, (1, v12)), (14, (1, v14)), (16, (0, v16)), (21, (1, v21))] [] ε μ → ∀ v10 : Int, v10 = v21 → ∀ v21_1 : Int, v21_1 = v12 → G cd_X12_lies Q X 172 [(8, (1, v8)), (10, (1, v10)), (14, (1, v14)), (16, (0, v16)), (21, (1, v21_1))] [] ε μ
  intro hty
  replace h := h hty.1 (hty.2.1 _ (List.mem_of_getElem? (i := 0) rfl)) (hty.2.1 _ (List.mem_of_getElem? (i := 1) rfl)) (hty.2.1 _ (List.mem_of_getElem? (i := 2) rfl)) (hty.2.1 _ (List.mem_of_getElem? (i := 3) rfl)) (hty.2.1 _ (List.mem_of_getElem? (i := 4) rfl))
  intro v10 e_v10
  replace h := h v10 e_v10
  intro v21_1 e_v21_1
  replace h := h v21_1 e_v21_1
  exact g_X12_lies_172 (fun _ _ _ _ _ _ => h)
set_option maxRecDepth 20000 in
theorem g_X12_lies_155 {Q X : m_Po} {t : Int} {ε : m_E} {μ : m_M} (h : TY ε μ → i32 t → Q t ε μ) : G cd_X12_lies Q X 155 [] [(0, t)] ε μ := by
  refine G_run (m_in [6, 14, 17, 37, 60, 87, 108, 122, 155, 164, 172, 180]) 29 _ _ _ _ ?_
  show m_ty [] [(0, t)] ε μ → Q t ε μ
  intro hty
  replace h := h hty.1 (hty.2.2 _ (List.mem_of_getElem? (i := 0) rfl))
  exact h
set_option maxRecDepth 20000 in
theorem g_X12_lies_122 {Q X : m_Po} {v8 v12 v16 : Int} {ε : m_E} {μ : m_M} (h : TY ε μ → i64 v8 → i64 v12 → i32 v16 → ∀ t : Int, t = (if v8 = (0 : Int) then if v12 = (0 : Int) then 0 else if v8 = (0 : Int) then w32 (-v16) else v16 else if v8 = (0 : Int) then w32 (-v16) else v16) → Q t ε μ) : G cd_X12_lies Q X 122 [(8, (1, v8)), (12, (1, v12)), (16, (0, v16))] [] ε μ := by
  refine G_run (m_in [6, 14, 17, 37, 60, 87, 108, 122, 155, 164, 172, 180]) 29 _ _ _ _ ?_
  show m_ty [(8, (1, v8)), (12, (1, v12)), (16, (0, v16))] [] ε μ → (v8 ≠ (0 : Int) → (m_ty [(8, (1, v8)), (16, (0, v16))] [] ε μ → (v8 ≠ (0 : Int) → (m_ty [(16, (0, v16))] [] ε μ → G cd_X12_lies Q X 155 [] [(0, v16)] ε μ)) ∧ (v8 = (0 : Int) → (m_ty [(16, (0, v16))] [] ε μ → G cd_X12_lies Q X 155 [] [(0, w32 (-v16))] ε μ)))) ∧ (v8 = (0 : Int) → (m_ty [(8, (1, v8)), (12, (1, v12)), (16, (0, v16))] [] ε μ → (v12 ≠ (0 : Int) → (m_ty [(8, (1, v8)), (16, (0, v16))] [] ε μ → (v8 ≠ (0 : Int) → (m_ty [(16, (0, v16))] [] ε μ → G cd_X12_lies Q X 155 [] [(0, v16)] ε μ)) ∧ (v8 = (0 : Int) → (m_ty [(16, (0, v16))] [] ε μ → G cd_X12_lies Q X 155 [] [(0, w32 (-v16))] ε μ)))) ∧ (v12 = (0 : Int) → (m_ty [] [] ε μ → G cd_X12_lies Q X 155 [] [(0, 0)] ε μ))))
  intro hty
  replace h := h hty.1 (hty.2.1 _ (List.mem_of_getElem? (i := 0) rfl)) (hty.2.1 _ (List.mem_of_getElem? (i := 1) rfl)) (hty.2.1 _ (List.mem_of_getElem? (i := 2) rfl))
  have hj := h
  refine And.intro (fun c0 => ?_) (fun c0 => ?_)
  · intro _
    refine And.intro (fun c1 => ?_) (fun c1 => ?_)
    · intro _
      exact g_X12_lies_155 (fun _ _ => (hj _ (((if_neg (c0)).trans ((if_neg (c1)).trans rfl))).symm))
    · intro _
      exact g_X12_lies_155 (fun _ _ => (hj _ (((if_neg (c0)).trans ((if_pos c1).trans rfl))).symm))
  · intro _
    refine And.intro (fun c2 => ?_) (fun c2 => ?_)
    · intro _
      refine And.intro (fun c3 => ?_) (fun c3 => ?_)
      · intro _
        exact g_X12_lies_155 (fun _ _ => (hj _ (((if_pos c0).trans ((if_neg (c2)).trans ((if_neg (c3)).trans rfl)))).symm))
      · intro _
        exact g_X12_lies_155 (fun _ _ => (hj _ (((if_pos c0).trans ((if_neg (c2)).trans ((if_pos c3).trans rfl)))).symm))
    · intro _
      exact g_X12_lies_155 (fun _ _ => (hj _ (((if_pos c0).trans ((if_pos c2).trans rfl))).symm))
set_option maxRecDepth 20000 in
theorem g_X12_lies_108 {Q X : m_Po} {v8 v10 v12 v14 v16 : Int} {ε : m_E} {μ : m_M} (h : TY ε μ → i64 v8 → i64 v10 → i64 v12 → i64 v14 → i32 v16 → (v8 = (0 : Int) → G cd_X12_lies Q X 122 [(8, (1, v8)), (12, (1, v12)), (16, (0, v16))] [] ε μ) ∧ (v8 ≠ (0 : Int) → (v12 ≠ (0 : Int) → ∀ v21 : Int, v21 = v8 → ∀ v8_1 : Int, v8_1 = v10 → ∀ v10_1 : Int, v10_1 = v21 → ∀ v21_1 : Int, v21_1 = v12 → ∀ v12_1 : Int, v12_1 = v14 → ∀ v14_1 : Int, v14_1 = v21_1 → ∀ v16_1 : Int, v16_1 = w32 (-v16) → G cd_X12_lies Q X 17 [(8, (1, v8_1)), (10, (1, v10_1)), (12, (1, v12_1)), (14, (1, v14_1)), (16, (0, v16_1))] [] ε μ) ∧ (v12 = (0 : Int) → G cd_X12_lies Q X 122 [(8, (1, v8)), (12, (1, v12)), (16, (0, v16))] [] ε μ))) : G cd_X12_lies Q X 108 [(8, (1, v8)), (10, (1, v10)), (12, (1, v12)), (14, (1, v14)), (16, (0, v16))] [] ε μ := by
  refine G_run (m_in [6, 14, 17, 37, 60, 87, 108, 122, 155, 164, 172, 180]) 29 _ _ _ _ ?_
  show m_ty [(8, (1, v8)), (10, (1, v10)), (12, (1, v12)), (14, (1, v14)), (16, (0, v16))] [] ε μ → (v8 = (0 : Int) → G cd_X12_lies Q X 122 [(8, (1, v8)), (12, (1, v12)), (16, (0, v16))] [] ε μ) ∧ (v8 ≠ (0 : Int) → (m_ty [(8, (1, v8)), (10, (1, v10)), (12, (1, v12)), (14, (1, v14)), (16, (0, v16))] [] ε μ → (v12 ≠ (0 : Int) → (m_ty [(8, (1, v8)), (10, (1, v10)), (12, (1, v12)), (14, (1, v14)), (16, (0, v16))] [] ε μ → ∀ v21 : Int, v21 = v8 → ∀ v8_1 : Int, v8_1 = v10 → G cd_X12_lies Q X 164 [(8, (1, v8_1)), (12, (1, v12)), (14, (1, v14)), (16, (0, v16)), (21, (1, v21))] [] ε μ)) ∧ (v12 = (0 : Int) → G cd_X12_lies Q X 122 [(8, (1, v8)), (12, (1, v12)), (16, (0, v16))] [] ε μ)))
  intro hty
  replace h := h hty.1 (hty.2.1 _ (List.mem_of_getElem? (i := 0) rfl)) (hty.2.1 _ (List.mem_of_getElem? (i := 1) rfl)) (hty.2.1 _ (List.mem_of_getElem? (i := 2) rfl)) (hty.2.1 _ (List.mem_of_getElem? (i := 3) rfl)) (hty.2.1 _ (List.mem_of_getElem? (i := 4) rfl))
  obtain ⟨ha, hb⟩ := h
  refine And.intro (fun c1 => ?_) (fun c1 => ?_)
  · replace h := ha c1
    clear ha hb
    exact h
  · replace h := hb c1
    clear ha hb
    intro _
    obtain ⟨ha, hb⟩ := h
    refine And.intro (fun c0 => ?_) (fun c0 => ?_)
    · replace h := ha c0
      clear ha hb
      intro _
      intro v21 e_v21
      replace h := h v21 e_v21
      intro v8_1 e_v8_1
      replace h := h v8_1 e_v8_1
      exact g_X12_lies_164 (fun _ _ _ _ _ _ => h)
    · replace h := hb c0
      clear ha hb
      exact h
set_option maxRecDepth 20000 in
theorem g_X12_lies_87 {Q X : m_Po} {t : Int} {ε : m_E} {μ : m_M} (h : TY ε μ → i32 t → Q t ε μ) : G cd_X12_lies Q X 87 [] [(0, t)] ε μ := by
  refine G_run (m_in [6, 14, 17, 37, 60, 87, 108, 122, 155, 164, 172, 180]) 29 _ _ _ _ ?_
  show m_ty [] [(0, t)] ε μ → Q t ε μ
  intro hty
  replace h := h hty.1 (hty.2.2 _ (List.mem_of_getElem? (i := 0) rfl))
  exact h
set_option maxRecDepth 20000 in
theorem g_X12_lies_60 {Q X : m_Po} {v8 v10 v12 v14 v16 v17 t t_1 : Int} {ε : m_E} {μ : m_M} (h : TY ε μ → i64 v8 → i64 v10 → i64 v12 → i64 v14 → i32 v16 → i64 v17 → i64 t → i64 t_1 → ∀ v19 : Int, v19 = w64 (t - t_1) → (v17 = v19 → ∀ v8_1 : Int, v8_1 = w64 (v8 - (w64 (v17 * v10))) → ∀ v12_1 : Int, v12_1 = w64 (v12 - (w64 (v19 * v14))) → (v8_1 = (0 : Int) → G cd_X12_lies Q X 122 [(8, (1, v8_1)), (12, (1, v12_1)), (16, (0, v16))] [] ε μ) ∧ (v8_1 ≠ (0 : Int) → (v12_1 ≠ (0 : Int) → ∀ v21 : Int, v21 = v8_1 → ∀ v8_2 : Int, v8_2 = v10 → ∀ v10_1 : Int, v10_1 = v21 → ∀ v21_1 : Int, v21_1 = v12_1 → ∀ v12_2 : Int, v12_2 = v14 → ∀ v14_1 : Int, v14_1 = v21_1 → ∀ v16_1 : Int, v16_1 = w32 (-v16) → G cd_X12_lies Q X 17 [(8, (1, v8_2)), (10, (1, v10_1)), (12, (1, v12_2)), (14, (1, v14_1)), (16, (0, v16_1))] [] ε μ) ∧ (v12_1 = (0 : Int) → G cd_X12_lies Q X 122 [(8, (1, v8_1)), (12, (1, v12_1)), (16, (0, v16))] [] ε μ))) ∧ (v17 ≠ v19 → ∀ t_2 : Int, t_2 = (if v19 ≤ v17 then v16 else w32 (-v16)) → Q t_2 ε μ)) : G cd_X12_lies Q X 60 [(8, (1, v8)), (10, (1, v10)), (12, (1, v12)), (14, (1, v14)), (16, (0, v16)), (17, (1, v17))] [(1, t_1), (1, t)] ε μ := by
  refine G_run (m_in [6, 14, 17, 37, 60, 87, 108, 122, 155, 164, 172, 180]) 29 _ _ _ _ ?_
  show m_ty [(8, (1, v8)), (10, (1, v10)), (12, (1, v12)), (14, (1, v14)), (16, (0, v16)), (17, (1, v17))] [(1, t_1), (1, t)] ε μ → ∀ v19 : Int, v19 = w64 (t - t_1) → (v17 = v19 → (m_ty [(8, (1, v8)), (10, (1, v10)), (12, (1, v12)), (14, (1, v14)), (16, (0, v16)), (17, (1, v17)), (19, (1, v19))] [] ε μ → ∀ v8_1 : Int, v8_1 = w64 (v8 - (w64 (v17 * v10))) → ∀ v12_1 : Int, v12_1 = w64 (v12 - (w64 (v19 * v14))) → G cd_X12_lies Q X 108 [(8, (1, v8_1)), (10, (1, v10)), (12, (1, v12_1)), (14, (1, v14)), (16, (0, v16))] [] ε μ)) ∧ (v17 ≠ v19 → (m_ty [(16, (0, v16)), (17, (1, v17)), (19, (1, v19))] [] ε μ → (v19 ≤ v17 → (m_ty [(16, (0, v16))] [] ε μ → G cd_X12_lies Q X 87 [] [(0, v16)] ε μ)) ∧ (v17 < v19 → (m_ty [(16, (0, v16))] [] ε μ → G cd_X12_lies Q X 87 [] [(0, w32 (-v16))] ε μ))))
  intro hty
  replace h := h hty.1 (hty.2.1 _ (List.mem_of_getElem? (i := 0) rfl)) (hty.2.1 _ (List.mem_of_getElem? (i := 1) rfl)) (hty.2.1 _ (List.mem_of_getElem? (i := 2) rfl)) (hty.2.1 _ (List.mem_of_getElem? (i := 3) rfl)) (hty.2.1 _ (List.mem_of_getElem? (i := 4) rfl)) (hty.2.1 _ (List.mem_of_getElem? (i := 5) rfl)) (hty.2.2 _ (List.mem_of_getElem? (i := 1) rfl)) (hty.2.2 _ (List.mem_of_getElem? (i := 0) rfl))
  intro v19 e_v19
  replace h := h v19 e_v19
  obtain ⟨ha, hb⟩ := h
  refine And.intro (fun c3 => ?_) (fun c3 => ?_)
  · replace h := ha c3
    clear ha hb
    intro _
    intro v8_1 e_v8_1
    replace h := h v8_1 e_v8_1
    intro v12_1 e_v12_1
    replace h := h v12_1 e_v12_1
    exact g_X12_lies_108 (fun _ _ _ _ _ _ => h)
  · replace h := hb c3
    clear ha hb
    intro _
    have hj := h
    refine And.intro (fun c2 => ?_) (fun c2 => ?_)
    · intro _
      exact g_X12_lies_87 (fun _ _ => (hj _ (((if_pos c2).trans rfl)).symm))
    · intro _
      exact g_X12_lies_87 (fun _ _ => (hj _ (((if_neg (Int.not_le.mpr c2)).trans rfl)).symm))
set_option maxRecDepth 20000 in
theorem g_X12_lies_37 {Q X : m_Po} {v8 v10 v12 v14 v16 t t_1 : Int} {ε : m_E} {μ : m_M} (h : TY ε μ → i64 v8 → i64 v10 → i64 v12 → i64 v14 → i32 v16 → i64 t → i64 t_1 → ∀ v17 : Int, v17 = w64 (t - t_1) → v14 ≠ 0 ∧ ∀ t_2 : Int, t_2 = (if (0 : Int) ≤ (Int.tmod v12 v14) then 0 else 1) → ∀ v19 : Int, v19 = w64 ((w64 (Int.tdiv v12 v14)) - t_2) → (v17 = v19 → ∀ v8_1 : Int, v8_1 = w64 (v8 - (w64 (v17 * v10))) → ∀ v12_1 : Int, v12_1 = w64 (v12 - (w64 (v19 * v14))) → (v8_1 = (0 : Int) → G cd_X12_lies Q X 122 [(8, (1, v8_1)), (12, (1, v12_1)), (16, (0, v16))] [] ε μ) ∧ (v8_1 ≠ (0 : Int) → (v12_1 ≠ (0 : Int) → ∀ v21 : Int, v21 = v8_1 → ∀ v8_2 : Int, v8_2 = v10 → ∀ v10_1 : Int, v10_1 = v21 → ∀ v21_1 : Int, v21_1 = v12_1 → ∀ v12_2 : Int, v12_2 = v14 → ∀ v14_1 : Int, v14_1 = v21_1 → ∀ v16_1 : Int, v16_1 = w32 (-v16) → G cd_X12_lies Q X 17 [(8, (1, v8_2)), (10, (1, v10_1)), (12, (1, v12_2)), (14, (1, v14_1)), (16, (0, v16_1))] [] ε μ) ∧ (v12_1 = (0 : Int) → G cd_X12_lies Q X 122 [(8, (1, v8_1)), (12, (1, v12_1)), (16, (0, v16))] [] ε μ))) ∧ (v17 ≠ v19 → ∀ t_3 : Int, t_3 = (if v19 ≤ v17 then v16 else w32 (-v16)) → Q t_3 ε μ)) : G cd_X12_lies Q X 37 [(8, (1, v8)), (10, (1, v10)), (12, (1, v12)), (14, (1, v14)), (16, (0, v16))] [(1, t_1), (1, t)] ε μ := by
  refine G_run (m_in [6, 14, 17, 37, 60, 87, 108, 122, 155, 164, 172, 180]) 29 _ _ _ _ ?_
  show m_ty [(8, (1, v8)), (10, (1, v10)), (12, (1, v12)), (14, (1, v14)), (16, (0, v16))] [(1, t_1), (1, t)] ε μ → ∀ v17 : Int, v17 = w64 (t - t_1) → (v14 ≠ 0) ∧ (v14 ≠ 0) ∧ ((0 : Int) ≤ (Int.tmod v12 v14) → (m_ty [(8, (1, v8)), (10, (1, v10)), (12, (1, v12)), (14, (1, v14)), (16, (0, v16)), (17, (1, v17))] [(1, w64 (Int.tdiv v12 v14))] ε μ → G cd_X12_lies Q X 60 [(8, (1, v8)), (10, (1, v10)), (12, (1, v12)), (14, (1, v14)), (16, (0, v16)), (17, (1, v17))] [(1, 0), (1, w64 (Int.tdiv v12 v14))] ε μ)) ∧ ((Int.tmod v12 v14) < (0 : Int) → (m_ty [(8, (1, v8)), (10, (1, v10)), (12, (1, v12)), (14, (1, v14)), (16, (0, v16)), (17, (1, v17))] [(1, w64 (Int.tdiv v12 v14))] ε μ → G cd_X12_lies Q X 60 [(8, (1, v8)), (10, (1, v10)), (12, (1, v12)), (14, (1, v14)), (16, (0, v16)), (17, (1, v17))] [(1, 1), (1, w64 (Int.tdiv v12 v14))] ε μ))
  intro hty
  replace h := h hty.1 (hty.2.1 _ (List.mem_of_getElem? (i := 0) rfl)) (hty.2.1 _ (List.mem_of_getElem? (i := 1) rfl)) (hty.2.1 _ (List.mem_of_getElem? (i := 2) rfl)) (hty.2.1 _ (List.mem_of_getElem? (i := 3) rfl)) (hty.2.1 _ (List.mem_of_getElem? (i := 4) rfl)) (hty.2.2 _ (List.mem_of_getElem? (i := 1) rfl)) (hty.2.2 _ (List.mem_of_getElem? (i := 0) rfl))
  intro v17 e_v17
  replace h := h v17 e_v17
  obtain ⟨k1, h⟩ := h
  refine And.intro k1 ?_
  refine And.intro k1 ?_
  have hj := h
  refine And.intro (fun c1 => ?_) (fun c1 => ?_)
  · intro _
    exact g_X12_lies_60 (fun _ _ _ _ _ _ _ _ _ => (hj _ (((if_pos c1).trans rfl)).symm))
  · intro _
    exact g_X12_lies_60 (fun _ _ _ _ _ _ _ _ _ => (hj _ (((if_neg (Int.not_le.mpr c1)).trans rfl)).symm))
set_option maxRecDepth 20000 in
theorem g_X12_lies_17 {Q X : m_Po} {v8 v10 v12 v14 v16 : Int} {ε : m_E} {μ : m_M} (h : TY ε μ → i64 v8 → i64 v10 → i64 v12 → i64 v14 → i32 v16 → v10 ≠ 0 ∧ ∀ t : Int, t = (if (0 : Int) ≤ (Int.tmod v8 v10) then 0 else 1) → ∀ v17 : Int, v17 = w64 ((w64 (Int.tdiv v8 v10)) - t) → v14 ≠ 0 ∧ ∀ t_1 : Int, t_1 = (if (0 : Int) ≤ (Int.tmod v12 v14) then 0 else 1) → ∀ v19 : Int, v19 = w64 ((w64 (Int.tdiv v12 v14)) - t_1) → (v17 = v19 → ∀ v8_1 : Int, v8_1 = w64 (v8 - (w64 (v17 * v10))) → ∀ v12_1 : Int, v12_1 = w64 (v12 - (w64 (v19 * v14))) → (v8_1 = (0 : Int) → G cd_X12_lies Q X 122 [(8, (1, v8_1)), (12, (1, v12_1)), (16, (0, v16))] [] ε μ) ∧ (v8_1 ≠ (0 : Int) → (v12_1 ≠ (0 : Int) → ∀ v21 : Int, v21 = v8_1 → ∀ v8_2 : Int, v8_2 = v10 → ∀ v10_1 : Int, v10_1 = v21 → ∀ v21_1 : Int, v21_1 = v12_1 → ∀ v12_2 : Int, v12_2 = v14 → ∀ v14_1 : Int, v14_1 = v21_1 → ∀ v16_1 : Int, v16_1 = w32 (-v16) → G cd_X12_lies Q X 17 [(8, (1, v8_2)), (10, (1, v10_1)), (12, (1, v12_2)), (14, (1, v14_1)), (16, (0, v16_1))] [] ε μ) ∧ (v12_1 = (0 : Int) → G cd_X12_lies Q X 122 [(8, (1, v8_1)), (12, (1, v12_1)), (16, (0, v16))] [] ε μ))) ∧ (v17 ≠ v19 → ∀ t_2 : Int, t_2 = (if v19 ≤ v17 then v16 else w32 (-v16)) → Q t_2 ε μ)) : G cd_X12_lies Q X 17 [(8, (1, v8)), (10, (1, v10)), (12, (1, v12)), (14, (1, v14)), (16, (0, v16))] [] ε μ := by
  refine G_run (m_in [6, 14, 17, 37, 60, 87, 108, 122, 155, 164, 172, 180]) 29 _ _ _ _ ?_
  show m_ty [(8, (1, v8)), (10, (1, v10)), (12, (1, v12)), (14, (1, v14)), (16, (0, v16))] [] ε μ → (v10 ≠ 0) ∧ (v10 ≠ 0) ∧ ((0 : Int) ≤ (Int.tmod v8 v10) → (m_ty [(8, (1, v8)), (10, (1, v10)), (12, (1, v12)), (14, (1, v14)), (16, (0, v16))] [(1, w64 (Int.tdiv v8 v10))] ε μ → G cd_X12_lies Q X 37 [(8, (1, v8)), (10, (1, v10)), (12, (1, v12)), (14, (1, v14)), (16, (0, v16))] [(1, 0), (1, w64 (Int.tdiv v8 v10))] ε μ)) ∧ ((Int.tmod v8 v10) < (0 : Int) → (m_ty [(8, (1, v8)), (10, (1, v10)), (12, (1, v12)), (14, (1, v14)), (16, (0, v16))] [(1, w64 (Int.tdiv v8 v10))] ε μ → G cd_X12_lies Q X 37 [(8, (1, v8)), (10, (1, v10)), (12, (1, v12)), (14, (1, v14)), (16, (0, v16))] [(1, 1), (1, w64 (Int.tdiv v8 v10))] ε μ))
  intro hty
  replace h := h hty.1 (hty.2.1 _ (List.mem_of_getElem? (i := 0) rfl)) (hty.2.1 _ (List.mem_of_getElem? (i := 1) rfl)) (hty.2.1 _ (List.mem_of_getElem? (i := 2) rfl)) (hty.2.1 _ (List.mem_of_getElem? (i := 3) rfl)) (hty.2.1 _ (List.mem_of_getElem? (i := 4) rfl))
  obtain ⟨k1, h⟩ := h
  refine And.intro k1 ?_
  refine And.intro k1 ?_
  have hj := h
  refine And.intro (fun c1 => ?_) (fun c1 => ?_)
  · intro _
    exact g_X12_lies_37 (fun _ _ _ _ _ _ _ _ => (hj _ (((if_pos c1).trans rfl)).symm))
  · intro _
    exact g_X12_lies_37 (fun _ _ _ _ _ _ _ _ => (hj _ (((if_neg (Int.not_le.mpr c1)).trans rfl)).symm))
set_option maxRecDepth 20000 in
theorem g_X12_lies_14 {Q X : m_Po} {v8 v10 v12 v14 : Int} {ε : m_E} {μ : m_M} (h : TY ε μ → i64 v8 → i64 v10 → i64 v12 → i64 v14 → ∀ v16 : Int, v16 = 1 → G cd_X12_lies Q X 17 [(8, (1, v8)), (10, (1, v10)), (12, (1, v12)), (14, (1, v14)), (16, (0, v16))] [] ε μ) : G cd_X12_lies Q X 14 [(8, (1, v8)), (10, (1, v10)), (12, (1, v12)), (14, (1, v14))] [] ε μ := by
  refine G_run (m_in [6, 14, 17, 37, 60, 87, 108, 122, 155, 164, 172, 180]) 29 _ _ _ _ ?_
  show m_ty [(8, (1, v8)), (10, (1, v10)), (12, (1, v12)), (14, (1, v14))] [] ε μ → ∀ v16 : Int, v16 = 1 → G cd_X12_lies Q X 17 [(8, (1, v8)), (10, (1, v10)), (12, (1, v12)), (14, (1, v14)), (16, (0, v16))] [] ε μ
  intro hty
  replace h := h hty.1 (hty.2.1 _ (List.mem_of_getElem? (i := 0) rfl)) (hty.2.1 _ (List.mem_of_getElem? (i := 1) rfl)) (hty.2.1 _ (List.mem_of_getElem? (i := 2) rfl)) (hty.2.1 _ (List.mem_of_getElem? (i := 3) rfl))
  intro v16 e_v16
  replace h := h v16 e_v16
  exact h
set_option maxRecDepth 20000 in
theorem g_X12_lies_6 {Q X : m_Po} {v4 v6 v8 v10 : Int} {ε : m_E} {μ : m_M} (h : TY ε μ → i64 v4 → i64 v6 → i64 v8 → i64 v10 → ∀ v12 : Int, v12 = v4 → ∀ v14 : Int, v14 = v6 → ∀ v16 : Int, v16 = 1 → G cd_X12_lies Q X 17 [(8, (1, v8)), (10, (1, v10)), (12, (1, v12)), (14, (1, v14)), (16, (0, v16))] [] ε μ) : G cd_X12_lies Q X 6 [(4, (1, v4)), (6, (1, v6)), (8, (1, v8)), (10, (1, v10))] [] ε μ := by
  refine G_run (m_in [6, 14, 17, 37, 60, 87, 108, 122, 155, 164, 172, 180]) 29 _ _ _ _ ?_
  show m_ty [(4, (1, v4)), (6, (1, v6)), (8, (1, v8)), (10, (1, v10))] [] ε μ → ∀ v12 : Int, v12 = v4 → ∀ v14 : Int, v14 = v6 → G cd_X12_lies Q X 14 [(8, (1, v8)), (10, (1, v10)), (12, (1, v12)), (14, (1, v14))] [] ε μ
  intro hty
  replace h := h hty.1 (hty.2.1 _ (List.mem_of_getElem? (i := 0) rfl)) (hty.2.1 _ (List.mem_of_getElem? (i := 1) rfl)) (hty.2.1 _ (List.mem_of_getElem? (i := 2) rfl)) (hty.2.1 _ (List.mem_of_getElem? (i := 3) rfl))
  intro v12 e_v12
  replace h := h v12 e_v12
  intro v14 e_v14
  replace h := h v14 e_v14
  exact g_X12_lies_14 (fun _ _ _ _ _ => h)
set_option maxRecDepth 20000 in
theorem g_X12_lies_0 {Q X : m_Po} {v0 v2 v4 v6 : Int} {ε : m_E} {μ : m_M} (h : TY ε μ → i64 v0 → i64 v2 → i64 v4 → i64 v6 → ∀ v8 : Int, v8 = v0 → ∀ v10 : Int, v10 = v2 → ∀ v12 : Int, v12 = v4 → ∀ v14 : Int, v14 = v6 → ∀ v16 : Int, v16 = 1 → G cd_X12_lies Q X 17 [(8, (1, v8)), (10, (1, v10)), (12, (1, v12)), (14, (1, v14)), (16, (0, v16))] [] ε μ) : G cd_X12_lies Q X 0 [(0, (1, v0)), (2, (1, v2)), (4, (1, v4)), (6, (1, v6))] [] ε μ := by
  refine G_run (m_in [6, 14, 17, 37, 60, 87, 108, 122, 155, 164, 172, 180]) 29 _ _ _ _ ?_
  show m_ty [(0, (1, v0)), (2, (1, v2)), (4, (1, v4)), (6, (1, v6))] [] ε μ → ∀ v8 : Int, v8 = v0 → ∀ v10 : Int, v10 = v2 → G cd_X12_lies Q X 6 [(4, (1, v4)), (6, (1, v6)), (8, (1, v8)), (10, (1, v10))] [] ε μ
  intro hty
  replace h := h hty.1 (hty.2.1 _ (List.mem_of_getElem? (i := 0) rfl)) (hty.2.1 _ (List.mem_of_getElem? (i := 1) rfl)) (hty.2.1 _ (List.mem_of_getElem? (i := 2) rfl)) (hty.2.1 _ (List.mem_of_getElem? (i := 3) rfl))
  intro v8 e_v8
  replace h := h v8 e_v8
  intro v10 e_v10
  replace h := h v10 e_v10
  exact g_X12_lies_6 (fun _ _ _ _ _ => h)
theorem e_X12_lies {Q X : m_Po} {v0 v2 v4 v6 : Int} {ε : m_E} {μ : m_M} (h : TY ε μ → i64 v0 → i64 v2 → i64 v4 → i64 v6 → ∀ v8 : Int, v8 = v0 → ∀ v10 : Int, v10 = v2 → ∀ v12 : Int, v12 = v4 → ∀ v14 : Int, v14 = v6 → ∀ v16 : Int, v16 = 1 → G cd_X12_lies Q X 17 [(8, (1, v8)), (10, (1, v10)), (12, (1, v12)), (14, (1, v14)), (16, (0, v16))] [] ε μ) : o_X12_lies [(1, v0), (1, v2), (1, v4), (1, v6)] ε μ Q X := And.intro rfl (g_X12_lies_0 h)
/-! ArchYardModel.alone(JJ)V -/
set_option maxRecDepth 20000 in
theorem g_X12_alone_159 {Q X : m_Po} {v0 v5 v7 : Int} {ε : m_E} {μ : m_M} (h : TY ε μ → i64 v5 → i64 v7 → kd ε v0 = 11 ∧ ∀ μ_1 : m_M, μ_1 = st μ v0 46 v5 → ∀ μ_2 : m_M, μ_2 = st μ_1 v0 47 v7 → ∀ μ_3 : m_M, μ_3 = st μ_2 v0 49 1 → Q 0 ε μ_3) : G cd_X12_alone Q X 159 [(0, (2, v0)), (5, (1, v5)), (7, (1, v7))] [] ε μ := by
  refine G_run (m_in [25, 41, 55, 64, 73, 108, 111, 128, 156, 159]) 26 _ _ _ _ ?_
  show m_ty [(0, (2, v0)), (5, (1, v5)), (7, (1, v7))] [] ε μ → (kd ε v0 = 11) ∧ ∀ μ_1 : m_M, μ_1 = st μ v0 46 v5 → (kd ε v0 = 11) ∧ ∀ μ_2 : m_M, μ_2 = st μ_1 v0 47 v7 → (kd ε v0 = 11) ∧ (1 = 0 ∨ 1 = 1) ∧ ∀ μ_3 : m_M, μ_3 = st μ_2 v0 49 1 → (m_ty [] [] ε μ_3 → Q 0 ε μ_3)
  intro hty
  replace h := h hty.1 (hty.2.1 _ (List.mem_of_getElem? (i := 1) rfl)) (hty.2.1 _ (List.mem_of_getElem? (i := 2) rfl))
  obtain ⟨k1, h⟩ := h
  refine And.intro k1 ?_
  intro μ_1 e_μ_1
  replace h := h μ_1 e_μ_1
  refine And.intro k1 ?_
  intro μ_2 e_μ_2
  replace h := h μ_2 e_μ_2
  refine And.intro k1 ?_
  refine And.intro (Or.inr rfl) ?_
  intro μ_3 e_μ_3
  replace h := h μ_3 e_μ_3
  intro _
  exact h
set_option maxRecDepth 20000 in
theorem g_X12_alone_156 {Q X : m_Po} {v0 v5 v7 t : Int} {ε : m_E} {μ : m_M} (h : TY ε μ → i64 v5 → i64 v7 → i32 t → (0 ≤ t → Q 0 ε μ) ∧ (t < 0 → G cd_X12_alone Q X 159 [(0, (2, v0)), (5, (1, v5)), (7, (1, v7))] [] ε μ)) : G cd_X12_alone Q X 156 [(0, (2, v0)), (5, (1, v5)), (7, (1, v7))] [(0, t)] ε μ := by
  refine G_run (m_in [25, 41, 55, 64, 73, 108, 111, 128, 156, 159]) 26 _ _ _ _ ?_
  show m_ty [(0, (2, v0)), (5, (1, v5)), (7, (1, v7))] [(0, t)] ε μ → (0 ≤ t → (m_ty [] [] ε μ → Q 0 ε μ)) ∧ (t < 0 → G cd_X12_alone Q X 159 [(0, (2, v0)), (5, (1, v5)), (7, (1, v7))] [] ε μ)
  intro hty
  replace h := h hty.1 (hty.2.1 _ (List.mem_of_getElem? (i := 1) rfl)) (hty.2.1 _ (List.mem_of_getElem? (i := 2) rfl)) (hty.2.2 _ (List.mem_of_getElem? (i := 0) rfl))
  obtain ⟨ha, hb⟩ := h
  refine And.intro (fun c0 => ?_) (fun c0 => ?_)
  · replace h := ha c0
    clear ha hb
    intro _
    exact h
  · replace h := hb c0
    clear ha hb
    exact h
set_option maxRecDepth 20000 in
theorem g_X12_alone_128 {Q X : m_Po} {v0 v1 v5 v7 : Int} {ε : m_E} {μ : m_M} (h : TY ε μ → i64 v1 → i64 v5 → i64 v7 → ((0 : Int) ≤ v1 → Q 0 ε μ) ∧ (v1 < (0 : Int) → kd ε v0 = 11 ∧ ((μ v0 49) = 0 → G cd_X12_alone Q X 159 [(0, (2, v0)), (5, (1, v5)), (7, (1, v7))] [] ε μ) ∧ ((μ v0 49) ≠ 0 → o_X12_lies [(1, v5), (1, v7), (1, μ v0 46), (1, μ v0 47)] ε μ (fun z ε_1 μ_1 => G cd_X12_alone Q X 156 [(0, (2, v0)), (5, (1, v5)), (7, (1, v7))] [(0, z)] ε_1 μ_1) m_F))) : G cd_X12_alone Q X 128 [(0, (2, v0)), (1, (1, v1)), (5, (1, v5)), (7, (1, v7))] [] ε μ := by
  refine G_run (m_in [25, 41, 55, 64, 73, 108, 111, 128, 156, 159]) 26 _ _ _ _ ?_
  show m_ty [(0, (2, v0)), (1, (1, v1)), (5, (1, v5)), (7, (1, v7))] [] ε μ → ((0 : Int) ≤ v1 → (m_ty [] [] ε μ → Q 0 ε μ)) ∧ (v1 < (0 : Int) → (m_ty [(0, (2, v0)), (5, (1, v5)), (7, (1, v7))] [] ε μ → (kd ε v0 = 11) ∧ ((μ v0 49) = 0 → G cd_X12_alone Q X 159 [(0, (2, v0)), (5, (1, v5)), (7, (1, v7))] [] ε μ) ∧ ((μ v0 49) ≠ 0 → (m_ty [(0, (2, v0)), (5, (1, v5)), (7, (1, v7))] [] ε μ → (kd ε v0 = 11) ∧ (kd ε v0 = 11) ∧ o_X12_lies [(1, v5), (1, v7), (1, μ v0 46), (1, μ v0 47)] ε μ (fun z ε_1 μ_1 => G cd_X12_alone Q X 156 [(0, (2, v0)), (5, (1, v5)), (7, (1, v7))] [(0, z)] ε_1 μ_1) m_F))))
  intro hty
  replace h := h hty.1 (hty.2.1 _ (List.mem_of_getElem? (i := 1) rfl)) (hty.2.1 _ (List.mem_of_getElem? (i := 2) rfl)) (hty.2.1 _ (List.mem_of_getElem? (i := 3) rfl))
  obtain ⟨ha, hb⟩ := h
  refine And.intro (fun c2 => ?_) (fun c2 => ?_)
  · replace h := ha c2
    clear ha hb
    intro _
    exact h
  · replace h := hb c2
    clear ha hb
    intro _
    obtain ⟨k1, h⟩ := h
    refine And.intro k1 ?_
    obtain ⟨ha, hb⟩ := h
    refine And.intro (fun c1 => ?_) (fun c1 => ?_)
    · replace h := ha c1
      clear ha hb
      exact h
    · replace h := hb c1
      clear ha hb
      intro _
      refine And.intro k1 ?_
      refine And.intro k1 ?_
      exact h
set_option maxRecDepth 20000 in
theorem g_X12_alone_111 {Q X : m_Po} {v0 v1 v5 v7 : Int} {ε : m_E} {μ : m_M} (h : TY ε μ → i64 v1 → i64 v5 → i64 v7 → kd ε v0 = 11 ∧ ∀ μ_1 : m_M, μ_1 = st μ v0 44 v5 → ∀ μ_2 : m_M, μ_2 = st μ_1 v0 45 v7 → ∀ μ_3 : m_M, μ_3 = st μ_2 v0 48 1 → G cd_X12_alone Q X 128 [(0, (2, v0)), (1, (1, v1)), (5, (1, v5)), (7, (1, v7))] [] ε μ_3) : G cd_X12_alone Q X 111 [(0, (2, v0)), (1, (1, v1)), (5, (1, v5)), (7, (1, v7))] [] ε μ := by
  refine G_run (m_in [25, 41, 55, 64, 73, 108, 111, 128, 156, 159]) 26 _ _ _ _ ?_
  show m_ty [(0, (2, v0)), (1, (1, v1)), (5, (1, v5)), (7, (1, v7))] [] ε μ → (kd ε v0 = 11) ∧ ∀ μ_1 : m_M, μ_1 = st μ v0 44 v5 → (kd ε v0 = 11) ∧ ∀ μ_2 : m_M, μ_2 = st μ_1 v0 45 v7 → (kd ε v0 = 11) ∧ (1 = 0 ∨ 1 = 1) ∧ ∀ μ_3 : m_M, μ_3 = st μ_2 v0 48 1 → G cd_X12_alone Q X 128 [(0, (2, v0)), (1, (1, v1)), (5, (1, v5)), (7, (1, v7))] [] ε μ_3
  intro hty
  replace h := h hty.1 (hty.2.1 _ (List.mem_of_getElem? (i := 1) rfl)) (hty.2.1 _ (List.mem_of_getElem? (i := 2) rfl)) (hty.2.1 _ (List.mem_of_getElem? (i := 3) rfl))
  obtain ⟨k1, h⟩ := h
  refine And.intro k1 ?_
  intro μ_1 e_μ_1
  replace h := h μ_1 e_μ_1
  refine And.intro k1 ?_
  intro μ_2 e_μ_2
  replace h := h μ_2 e_μ_2
  refine And.intro k1 ?_
  refine And.intro (Or.inr rfl) ?_
  intro μ_3 e_μ_3
  replace h := h μ_3 e_μ_3
  exact h
set_option maxRecDepth 20000 in
theorem g_X12_alone_108 {Q X : m_Po} {v0 v1 v5 v7 t : Int} {ε : m_E} {μ : m_M} (h : TY ε μ → i64 v1 → i64 v5 → i64 v7 → i32 t → (t ≤ 0 → G cd_X12_alone Q X 128 [(0, (2, v0)), (1, (1, v1)), (5, (1, v5)), (7, (1, v7))] [] ε μ) ∧ (0 < t → G cd_X12_alone Q X 111 [(0, (2, v0)), (1, (1, v1)), (5, (1, v5)), (7, (1, v7))] [] ε μ)) : G cd_X12_alone Q X 108 [(0, (2, v0)), (1, (1, v1)), (5, (1, v5)), (7, (1, v7))] [(0, t)] ε μ := by
  refine G_run (m_in [25, 41, 55, 64, 73, 108, 111, 128, 156, 159]) 26 _ _ _ _ ?_
  show m_ty [(0, (2, v0)), (1, (1, v1)), (5, (1, v5)), (7, (1, v7))] [(0, t)] ε μ → (t ≤ 0 → G cd_X12_alone Q X 128 [(0, (2, v0)), (1, (1, v1)), (5, (1, v5)), (7, (1, v7))] [] ε μ) ∧ (0 < t → G cd_X12_alone Q X 111 [(0, (2, v0)), (1, (1, v1)), (5, (1, v5)), (7, (1, v7))] [] ε μ)
  intro hty
  replace h := h hty.1 (hty.2.1 _ (List.mem_of_getElem? (i := 1) rfl)) (hty.2.1 _ (List.mem_of_getElem? (i := 2) rfl)) (hty.2.1 _ (List.mem_of_getElem? (i := 3) rfl)) (hty.2.2 _ (List.mem_of_getElem? (i := 0) rfl))
  obtain ⟨ha, hb⟩ := h
  refine And.intro (fun c0 => ?_) (fun c0 => ?_)
  · replace h := ha c0
    clear ha hb
    exact h
  · replace h := hb c0
    clear ha hb
    exact h
set_option maxRecDepth 20000 in
theorem g_X12_alone_73 {Q X : m_Po} {v0 v1 v5 v7 v9 : Int} {ε : m_E} {μ : m_M} (h : TY ε μ → i64 v1 → i64 v5 → i64 v7 → i64 v9 → v9 ≠ 0 ∧ ∀ v7_1 : Int, v7_1 = w64 (Int.tdiv v7 v9) → (v1 ≤ (0 : Int) → G cd_X12_alone Q X 128 [(0, (2, v0)), (1, (1, v1)), (5, (1, v5)), (7, (1, v7_1))] [] ε μ) ∧ ((0 : Int) < v1 → kd ε v0 = 11 ∧ ((μ v0 48) = 0 → G cd_X12_alone Q X 111 [(0, (2, v0)), (1, (1, v1)), (5, (1, v5)), (7, (1, v7_1))] [] ε μ) ∧ ((μ v0 48) ≠ 0 → o_X12_lies [(1, v5), (1, v7_1), (1, μ v0 44), (1, μ v0 45)] ε μ (fun z ε_1 μ_1 => G cd_X12_alone Q X 108 [(0, (2, v0)), (1, (1, v1)), (5, (1, v5)), (7, (1, v7_1))] [(0, z)] ε_1 μ_1) m_F))) : G cd_X12_alone Q X 73 [(0, (2, v0)), (1, (1, v1)), (5, (1, v5)), (7, (1, v7)), (9, (1, v9))] [] ε μ := by
  refine G_run (m_in [25, 41, 55, 64, 73, 108, 111, 128, 156, 159]) 26 _ _ _ _ ?_
  show m_ty [(0, (2, v0)), (1, (1, v1)), (5, (1, v5)), (7, (1, v7)), (9, (1, v9))] [] ε μ → (v9 ≠ 0) ∧ ∀ v7_1 : Int, v7_1 = w64 (Int.tdiv v7 v9) → (v1 ≤ (0 : Int) → G cd_X12_alone Q X 128 [(0, (2, v0)), (1, (1, v1)), (5, (1, v5)), (7, (1, v7_1))] [] ε μ) ∧ ((0 : Int) < v1 → (m_ty [(0, (2, v0)), (1, (1, v1)), (5, (1, v5)), (7, (1, v7_1))] [] ε μ → (kd ε v0 = 11) ∧ ((μ v0 48) = 0 → G cd_X12_alone Q X 111 [(0, (2, v0)), (1, (1, v1)), (5, (1, v5)), (7, (1, v7_1))] [] ε μ) ∧ ((μ v0 48) ≠ 0 → (m_ty [(0, (2, v0)), (1, (1, v1)), (5, (1, v5)), (7, (1, v7_1))] [] ε μ → (kd ε v0 = 11) ∧ (kd ε v0 = 11) ∧ o_X12_lies [(1, v5), (1, v7_1), (1, μ v0 44), (1, μ v0 45)] ε μ (fun z ε_1 μ_1 => G cd_X12_alone Q X 108 [(0, (2, v0)), (1, (1, v1)), (5, (1, v5)), (7, (1, v7_1))] [(0, z)] ε_1 μ_1) m_F))))
  intro hty
  replace h := h hty.1 (hty.2.1 _ (List.mem_of_getElem? (i := 1) rfl)) (hty.2.1 _ (List.mem_of_getElem? (i := 2) rfl)) (hty.2.1 _ (List.mem_of_getElem? (i := 3) rfl)) (hty.2.1 _ (List.mem_of_getElem? (i := 4) rfl))
  obtain ⟨k1, h⟩ := h
  refine And.intro k1 ?_
  intro v7_1 e_v7_1
  replace h := h v7_1 e_v7_1
  obtain ⟨ha, hb⟩ := h
  refine And.intro (fun c3 => ?_) (fun c3 => ?_)
  · replace h := ha c3
    clear ha hb
    exact h
  · replace h := hb c3
    clear ha hb
    intro _
    obtain ⟨k2, h⟩ := h
    refine And.intro k2 ?_
    obtain ⟨ha, hb⟩ := h
    refine And.intro (fun c2 => ?_) (fun c2 => ?_)
    · replace h := ha c2
      clear ha hb
      exact h
    · replace h := hb c2
      clear ha hb
      intro _
      refine And.intro k2 ?_
      refine And.intro k2 ?_
      exact h
set_option maxRecDepth 20000 in
theorem g_X12_alone_64 {Q X : m_Po} {v0 v1 v5 v7 t : Int} {ε : m_E} {μ : m_M} (h : TY ε μ → i64 v1 → i64 v5 → i64 v7 → i64 t → ∀ v9 : Int, v9 = t → v9 ≠ 0 ∧ ∀ v5_1 : Int, v5_1 = w64 (Int.tdiv v5 v9) → v9 ≠ 0 ∧ ∀ v7_1 : Int, v7_1 = w64 (Int.tdiv v7 v9) → (v1 ≤ (0 : Int) → G cd_X12_alone Q X 128 [(0, (2, v0)), (1, (1, v1)), (5, (1, v5_1)), (7, (1, v7_1))] [] ε μ) ∧ ((0 : Int) < v1 → kd ε v0 = 11 ∧ ((μ v0 48) = 0 → G cd_X12_alone Q X 111 [(0, (2, v0)), (1, (1, v1)), (5, (1, v5_1)), (7, (1, v7_1))] [] ε μ) ∧ ((μ v0 48) ≠ 0 → o_X12_lies [(1, v5_1), (1, v7_1), (1, μ v0 44), (1, μ v0 45)] ε μ (fun z ε_1 μ_1 => G cd_X12_alone Q X 108 [(0, (2, v0)), (1, (1, v1)), (5, (1, v5_1)), (7, (1, v7_1))] [(0, z)] ε_1 μ_1) m_F))) : G cd_X12_alone Q X 64 [(0, (2, v0)), (1, (1, v1)), (5, (1, v5)), (7, (1, v7))] [(1, t)] ε μ := by
  refine G_run (m_in [25, 41, 55, 64, 73, 108, 111, 128, 156, 159]) 26 _ _ _ _ ?_
  show m_ty [(0, (2, v0)), (1, (1, v1)), (5, (1, v5)), (7, (1, v7))] [(1, t)] ε μ → ∀ v9 : Int, v9 = t → (v9 ≠ 0) ∧ ∀ v5_1 : Int, v5_1 = w64 (Int.tdiv v5 v9) → G cd_X12_alone Q X 73 [(0, (2, v0)), (1, (1, v1)), (5, (1, v5_1)), (7, (1, v7)), (9, (1, v9))] [] ε μ
  intro hty
  replace h := h hty.1 (hty.2.1 _ (List.mem_of_getElem? (i := 1) rfl)) (hty.2.1 _ (List.mem_of_getElem? (i := 2) rfl)) (hty.2.1 _ (List.mem_of_getElem? (i := 3) rfl)) (hty.2.2 _ (List.mem_of_getElem? (i := 0) rfl))
  intro v9 e_v9
  replace h := h v9 e_v9
  obtain ⟨k1, h⟩ := h
  refine And.intro k1 ?_
  intro v5_1 e_v5_1
  replace h := h v5_1 e_v5_1
  exact g_X12_alone_73 (fun _ _ _ _ _ => h)
set_option maxRecDepth 20000 in
theorem g_X12_alone_55 {Q X : m_Po} {v0 v1 v5 t : Int} {ε : m_E} {μ : m_M} (h : TY ε μ → i64 v1 → i64 v5 → i64 t → ∀ v7 : Int, v7 = t → o_X12_gcd [(1, v5), (1, v7)] ε μ (fun z ε_1 μ_1 => G cd_X12_alone Q X 64 [(0, (2, v0)), (1, (1, v1)), (5, (1, v5)), (7, (1, v7))] [(1, z)] ε_1 μ_1) m_F) : G cd_X12_alone Q X 55 [(0, (2, v0)), (1, (1, v1)), (5, (1, v5))] [(1, t)] ε μ := by
  refine G_run (m_in [25, 41, 55, 64, 73, 108, 111, 128, 156, 159]) 26 _ _ _ _ ?_
  show m_ty [(0, (2, v0)), (1, (1, v1)), (5, (1, v5))] [(1, t)] ε μ → ∀ v7 : Int, v7 = t → o_X12_gcd [(1, v5), (1, v7)] ε μ (fun z ε_1 μ_1 => G cd_X12_alone Q X 64 [(0, (2, v0)), (1, (1, v1)), (5, (1, v5)), (7, (1, v7))] [(1, z)] ε_1 μ_1) m_F
  intro hty
  replace h := h hty.1 (hty.2.1 _ (List.mem_of_getElem? (i := 1) rfl)) (hty.2.1 _ (List.mem_of_getElem? (i := 2) rfl)) (hty.2.2 _ (List.mem_of_getElem? (i := 0) rfl))
  intro v7 e_v7
  replace h := h v7 e_v7
  exact h
set_option maxRecDepth 20000 in
theorem g_X12_alone_41 {Q X : m_Po} {v0 v1 t : Int} {ε : m_E} {μ : m_M} (h : TY ε μ → i64 v1 → i64 t → ∀ v5 : Int, v5 = t → ∀ t_1 : Int, t_1 = (if v1 ≤ (0 : Int) then w64 (-v1) else v1) → ∀ v7 : Int, v7 = t_1 → o_X12_gcd [(1, v5), (1, v7)] ε μ (fun z ε_1 μ_1 => G cd_X12_alone Q X 64 [(0, (2, v0)), (1, (1, v1)), (5, (1, v5)), (7, (1, v7))] [(1, z)] ε_1 μ_1) m_F) : G cd_X12_alone Q X 41 [(0, (2, v0)), (1, (1, v1))] [(1, t)] ε μ := by
  refine G_run (m_in [25, 41, 55, 64, 73, 108, 111, 128, 156, 159]) 26 _ _ _ _ ?_
  show m_ty [(0, (2, v0)), (1, (1, v1))] [(1, t)] ε μ → ∀ v5 : Int, v5 = t → (v1 ≤ (0 : Int) → (m_ty [(0, (2, v0)), (1, (1, v1)), (5, (1, v5))] [] ε μ → G cd_X12_alone Q X 55 [(0, (2, v0)), (1, (1, v1)), (5, (1, v5))] [(1, w64 (-v1))] ε μ)) ∧ ((0 : Int) < v1 → (m_ty [(0, (2, v0)), (1, (1, v1)), (5, (1, v5))] [] ε μ → G cd_X12_alone Q X 55 [(0, (2, v0)), (1, (1, v1)), (5, (1, v5))] [(1, v1)] ε μ))
  intro hty
  replace h := h hty.1 (hty.2.1 _ (List.mem_of_getElem? (i := 1) rfl)) (hty.2.2 _ (List.mem_of_getElem? (i := 0) rfl))
  intro v5 e_v5
  replace h := h v5 e_v5
  have hj := h
  refine And.intro (fun c0 => ?_) (fun c0 => ?_)
  · intro _
    exact g_X12_alone_55 (fun _ _ _ _ => (hj _ (((if_pos c0).trans rfl)).symm))
  · intro _
    exact g_X12_alone_55 (fun _ _ _ _ => (hj _ (((if_neg (Int.not_le.mpr c0)).trans rfl)).symm))
set_option maxRecDepth 20000 in
theorem g_X12_alone_25 {Q X : m_Po} {t t_1 : Int} {ε : m_E} {μ : m_M} (h : TY ε μ → i32 t_1 → kd ε t = 11 ∧ (t_1 = 0 ∨ t_1 = 1) ∧ ∀ μ_1 : m_M, μ_1 = st μ t 43 t_1 → Q 0 ε μ_1) : G cd_X12_alone Q X 25 [] [(0, t_1), (2, t)] ε μ := by
  refine G_run (m_in [25, 41, 55, 64, 73, 108, 111, 128, 156, 159]) 26 _ _ _ _ ?_
  show m_ty [] [(0, t_1), (2, t)] ε μ → (kd ε t = 11) ∧ (t_1 = 0 ∨ t_1 = 1) ∧ ∀ μ_1 : m_M, μ_1 = st μ t 43 t_1 → Q 0 ε μ_1
  intro hty
  replace h := h hty.1 (hty.2.2 _ (List.mem_of_getElem? (i := 0) rfl))
  obtain ⟨k1, h⟩ := h
  refine And.intro k1 ?_
  obtain ⟨k2, h⟩ := h
  refine And.intro k2 ?_
  intro μ_1 e_μ_1
  replace h := h μ_1 e_μ_1
  exact h
set_option maxRecDepth 20000 in
theorem g_X12_alone_0 {Q X : m_Po} {v0 v1 v3 : Int} {ε : m_E} {μ : m_M} (h : TY ε μ → i64 v1 → i64 v3 → (v1 ≠ (0 : Int) → ∀ t : Int, t = (if v1 ≤ (0 : Int) then v3 else w64 (-v3)) → ∀ v5 : Int, v5 = t → ∀ t_1 : Int, t_1 = (if v1 ≤ (0 : Int) then w64 (-v1) else v1) → ∀ v7 : Int, v7 = t_1 → o_X12_gcd [(1, v5), (1, v7)] ε μ (fun z ε_1 μ_1 => G cd_X12_alone Q X 64 [(0, (2, v0)), (1, (1, v1)), (5, (1, v5)), (7, (1, v7))] [(1, z)] ε_1 μ_1) m_F) ∧ (v1 = (0 : Int) → kd ε v0 = 11 ∧ ∀ t_2 : Int, t_2 = (if (μ v0 43) = 0 then if (0 : Int) ≤ v3 then 0 else 1 else 1) → kd ε v0 = 11 ∧ (t_2 = 0 ∨ t_2 = 1) ∧ ∀ μ_2 : m_M, μ_2 = st μ v0 43 t_2 → Q 0 ε μ_2)) : G cd_X12_alone Q X 0 [(0, (2, v0)), (1, (1, v1)), (3, (1, v3))] [] ε μ := by
  refine G_run (m_in [25, 41, 55, 64, 73, 108, 111, 128, 156, 159]) 26 _ _ _ _ ?_
  show m_ty [(0, (2, v0)), (1, (1, v1)), (3, (1, v3))] [] ε μ → (v1 ≠ (0 : Int) → (m_ty [(0, (2, v0)), (1, (1, v1)), (3, (1, v3))] [] ε μ → (v1 ≤ (0 : Int) → (m_ty [(0, (2, v0)), (1, (1, v1)), (3, (1, v3))] [] ε μ → G cd_X12_alone Q X 41 [(0, (2, v0)), (1, (1, v1))] [(1, v3)] ε μ)) ∧ ((0 : Int) < v1 → (m_ty [(0, (2, v0)), (1, (1, v1)), (3, (1, v3))] [] ε μ → G cd_X12_alone Q X 41 [(0, (2, v0)), (1, (1, v1))] [(1, w64 (-v3))] ε μ)))) ∧ (v1 = (0 : Int) → (m_ty [(0, (2, v0)), (3, (1, v3))] [] ε μ → (kd ε v0 = 11) ∧ ((μ v0 43) ≠ 0 → (m_ty [] [(2, v0)] ε μ → G cd_X12_alone Q X 25 [] [(0, 1), (2, v0)] ε μ)) ∧ ((μ v0 43) = 0 → (m_ty [(3, (1, v3))] [(2, v0)] ε μ → ((0 : Int) ≤ v3 → (m_ty [] [(2, v0)] ε μ → G cd_X12_alone Q X 25 [] [(0, 0), (2, v0)] ε μ)) ∧ (v3 < (0 : Int) → (m_ty [] [(2, v0)] ε μ → G cd_X12_alone Q X 25 [] [(0, 1), (2, v0)] ε μ))))))
  intro hty
  replace h := h hty.1 (hty.2.1 _ (List.mem_of_getElem? (i := 1) rfl)) (hty.2.1 _ (List.mem_of_getElem? (i := 2) rfl))
  obtain ⟨ha, hb⟩ := h
  refine And.intro (fun c7 => ?_) (fun c7 => ?_)
  · replace h := ha c7
    clear ha hb
    intro _
    have hj := h
    refine And.intro (fun c0 => ?_) (fun c0 => ?_)
    · intro _
      exact g_X12_alone_41 (fun _ _ _ => (hj _ (((if_pos c0).trans rfl)).symm))
    · intro _
      exact g_X12_alone_41 (fun _ _ _ => (hj _ (((if_neg (Int.not_le.mpr c0)).trans rfl)).symm))
  · replace h := hb c7
    clear ha hb
    intro _
    obtain ⟨k3, h⟩ := h
    refine And.intro k3 ?_
    have hj := h
    refine And.intro (fun c3 => ?_) (fun c3 => ?_)
    · intro _
      exact g_X12_alone_25 (fun _ _ => (hj _ (((if_neg (c3)).trans rfl)).symm))
    · intro _
      refine And.intro (fun c4 => ?_) (fun c4 => ?_)
      · intro _
        exact g_X12_alone_25 (fun _ _ => (hj _ (((if_pos c3).trans ((if_pos c4).trans rfl))).symm))
      · intro _
        exact g_X12_alone_25 (fun _ _ => (hj _ (((if_pos c3).trans ((if_neg (Int.not_le.mpr c4)).trans rfl))).symm))
theorem e_X12_alone {Q X : m_Po} {v0 v1 v3 : Int} {ε : m_E} {μ : m_M} (h : TY ε μ → i64 v1 → i64 v3 → (v1 ≠ (0 : Int) → ∀ t : Int, t = (if v1 ≤ (0 : Int) then v3 else w64 (-v3)) → ∀ v5 : Int, v5 = t → ∀ t_1 : Int, t_1 = (if v1 ≤ (0 : Int) then w64 (-v1) else v1) → ∀ v7 : Int, v7 = t_1 → o_X12_gcd [(1, v5), (1, v7)] ε μ (fun z ε_1 μ_1 => G cd_X12_alone Q X 64 [(0, (2, v0)), (1, (1, v1)), (5, (1, v5)), (7, (1, v7))] [(1, z)] ε_1 μ_1) m_F) ∧ (v1 = (0 : Int) → kd ε v0 = 11 ∧ ∀ t_2 : Int, t_2 = (if (μ v0 43) = 0 then if (0 : Int) ≤ v3 then 0 else 1 else 1) → kd ε v0 = 11 ∧ (t_2 = 0 ∨ t_2 = 1) ∧ ∀ μ_2 : m_M, μ_2 = st μ v0 43 t_2 → Q 0 ε μ_2)) : o_X12_alone [(2, v0), (1, v1), (1, v3)] ε μ Q X := And.intro rfl (g_X12_alone_0 h)
/-! ArchYardModel.isSafe()Z -/
set_option maxRecDepth 20000 in
theorem g_X12_isSafe_411 {Q X : m_Po} {ε : m_E} {μ : m_M} (h : TY ε μ → Q 0 ε μ) : G cd_X12_isSafe Q X 411 [] [] ε μ := by
  refine G_run (m_in [22, 63, 65, 113, 125, 171, 196, 202, 210, 245, 247, 302, 314, 360, 366, 372, 404, 411]) 38 _ _ _ _ ?_
  show m_ty [] [] ε μ → (m_ty [] [(0, 0)] ε μ → (0 = 0 ∨ 0 = 1) ∧ Q 0 ε μ)
  intro hty
  replace h := h hty.1 
  intro _
  refine And.intro (Or.inl rfl) ?_
  exact h
set_option maxRecDepth 20000 in
theorem g_X12_isSafe_404 {Q X : m_Po} {t : Int} {ε : m_E} {μ : m_M} (h : TY ε μ → i32 t → (0 < t → G cd_X12_isSafe Q X 411 [] [] ε μ) ∧ (t ≤ 0 → Q 1 ε μ)) : G cd_X12_isSafe Q X 404 [] [(0, t)] ε μ := by
  refine G_run (m_in [22, 63, 65, 113, 125, 171, 196, 202, 210, 245, 247, 302, 314, 360, 366, 372, 404, 411]) 38 _ _ _ _ ?_
  show m_ty [] [(0, t)] ε μ → (0 < t → G cd_X12_isSafe Q X 411 [] [] ε μ) ∧ (t ≤ 0 → (m_ty [] [] ε μ → (m_ty [] [(0, 1)] ε μ → (1 = 0 ∨ 1 = 1) ∧ Q 1 ε μ)))
  intro hty
  replace h := h hty.1 (hty.2.2 _ (List.mem_of_getElem? (i := 0) rfl))
  obtain ⟨ha, hb⟩ := h
  refine And.intro (fun c0 => ?_) (fun c0 => ?_)
  · replace h := ha c0
    clear ha hb
    exact h
  · replace h := hb c0
    clear ha hb
    intro _
    intro _
    refine And.intro (Or.inr rfl) ?_
    exact h
set_option maxRecDepth 20000 in
theorem g_X12_isSafe_372 {Q X : m_Po} {v0 v1 : Int} {ε : m_E} {μ : m_M} (h : TY ε μ → i32 v1 → ∀ v1_1 : Int, v1_1 = w32 (v1 + 1) → G cd_X12_isSafe Q X 210 [(0, (2, v0)), (1, (0, v1_1))] [] ε μ) : G cd_X12_isSafe Q X 372 [(0, (2, v0)), (1, (0, v1))] [] ε μ := by
  refine G_run (m_in [22, 63, 65, 113, 125, 171, 196, 202, 210, 245, 247, 302, 314, 360, 366, 372, 404, 411]) 38 _ _ _ _ ?_
  show m_ty [(0, (2, v0)), (1, (0, v1))] [] ε μ → ∀ v1_1 : Int, v1_1 = w32 (v1 + 1) → G cd_X12_isSafe Q X 210 [(0, (2, v0)), (1, (0, v1_1))] [] ε μ
  intro hty
  replace h := h hty.1 (hty.2.1 _ (List.mem_of_getElem? (i := 1) rfl))
  intro v1_1 e_v1_1
  replace h := h v1_1 e_v1_1
  exact h
set_option maxRecDepth 20000 in
theorem g_X12_isSafe_366 {Q X : m_Po} {v0 v1 v2 : Int} {ε : m_E} {μ : m_M} (h : TY ε μ → i32 v1 → i32 v2 → ∀ v2_1 : Int, v2_1 = w32 (v2 + 1) → G cd_X12_isSafe Q X 247 [(0, (2, v0)), (1, (0, v1)), (2, (0, v2_1))] [] ε μ) : G cd_X12_isSafe Q X 366 [(0, (2, v0)), (1, (0, v1)), (2, (0, v2))] [] ε μ := by
  refine G_run (m_in [22, 63, 65, 113, 125, 171, 196, 202, 210, 245, 247, 302, 314, 360, 366, 372, 404, 411]) 38 _ _ _ _ ?_
  show m_ty [(0, (2, v0)), (1, (0, v1)), (2, (0, v2))] [] ε μ → ∀ v2_1 : Int, v2_1 = w32 (v2 + 1) → G cd_X12_isSafe Q X 247 [(0, (2, v0)), (1, (0, v1)), (2, (0, v2_1))] [] ε μ
  intro hty
  replace h := h hty.1 (hty.2.1 _ (List.mem_of_getElem? (i := 1) rfl)) (hty.2.1 _ (List.mem_of_getElem? (i := 2) rfl))
  intro v2_1 e_v2_1
  replace h := h v2_1 e_v2_1
  exact h
set_option maxRecDepth 20000 in
theorem g_X12_isSafe_360 {Q X : m_Po} {v0 v1 v2 t t_1 t_2 t_3 t_4 t_5 : Int} {ε : m_E} {μ : m_M} (h : TY ε μ → i32 v1 → i32 v2 → i64 t_1 → i64 t_2 → i64 t_3 → i32 t_5 → kd ε t_4 = 101 ∧ (0 : Int) ≤ t_5 ∧ t_5 < ln ε t_4 ∧ kd ε t = 11 ∧ o_X12_alone [(2, t), (1, t_1), (1, w64 (t_2 + (w64 (t_3 * (μ t_4 t_5)))))] ε μ (fun z ε_1 μ_1 => G cd_X12_isSafe Q X 366 [(0, (2, v0)), (1, (0, v1)), (2, (0, v2))] [] ε_1 μ_1) m_F) : G cd_X12_isSafe Q X 360 [(0, (2, v0)), (1, (0, v1)), (2, (0, v2))] [(0, t_5), (2, t_4), (1, t_3), (1, t_2), (1, t_1), (2, t)] ε μ := by
  refine G_run (m_in [22, 63, 65, 113, 125, 171, 196, 202, 210, 245, 247, 302, 314, 360, 366, 372, 404, 411]) 38 _ _ _ _ ?_
  show m_ty [(0, (2, v0)), (1, (0, v1)), (2, (0, v2))] [(0, t_5), (2, t_4), (1, t_3), (1, t_2), (1, t_1), (2, t)] ε μ → (kd ε t_4 = 101) ∧ ((0 : Int) ≤ t_5 ∧ t_5 < ln ε t_4) ∧ (kd ε t = 11) ∧ o_X12_alone [(2, t), (1, t_1), (1, w64 (t_2 + (w64 (t_3 * (μ t_4 t_5)))))] ε μ (fun z ε_1 μ_1 => G cd_X12_isSafe Q X 366 [(0, (2, v0)), (1, (0, v1)), (2, (0, v2))] [] ε_1 μ_1) m_F
  intro hty
  replace h := h hty.1 (hty.2.1 _ (List.mem_of_getElem? (i := 1) rfl)) (hty.2.1 _ (List.mem_of_getElem? (i := 2) rfl)) (hty.2.2 _ (List.mem_of_getElem? (i := 4) rfl)) (hty.2.2 _ (List.mem_of_getElem? (i := 3) rfl)) (hty.2.2 _ (List.mem_of_getElem? (i := 2) rfl)) (hty.2.2 _ (List.mem_of_getElem? (i := 0) rfl))
  obtain ⟨k1, h⟩ := h
  refine And.intro k1 ?_
  obtain ⟨k2, h⟩ := h
  obtain ⟨k3, h⟩ := h
  refine And.intro (And.intro k2 k3) ?_
  obtain ⟨k4, h⟩ := h
  refine And.intro k4 ?_
  exact h
set_option maxRecDepth 20000 in
theorem g_X12_isSafe_314 {Q X : m_Po} {v0 v1 v2 v3 v5 : Int} {ε : m_E} {μ : m_M} (h : TY ε μ → i32 v1 → i32 v2 → i64 v3 → i64 v5 → kd ε v0 = 11 ∧ kd ε (fn ε v0 40) = 101 ∧ (0 : Int) ≤ v1 ∧ v1 < ln ε (fn ε v0 40) ∧ v3 ≠ 0 ∧ ∀ v7 : Int, v7 = w64 (Int.tdiv (μ (fn ε v0 40) v1) v3) → kd ε (fn ε v0 39) = 101 ∧ v1 < ln ε (fn ε v0 39) ∧ (0 : Int) ≤ v2 ∧ v2 < ln ε (fn ε v0 39) ∧ kd ε (fn ε v0 41) = 101 ∧ v1 < ln ε (fn ε v0 41) ∧ kd ε (fn ε v0 41) = 101 ∧ (0 : Int) ≤ v2 ∧ v2 < ln ε (fn ε v0 41) ∧ kd ε v0 = 11 ∧ o_X12_alone [(2, v0), (1, (w64 ((w64 (v5 * (μ (fn ε v0 39) v1))) + (w64 (v7 * (μ (fn ε v0 39) v2)))))), (1, w64 ((w64 (v5 * (μ (fn ε v0 41) v1))) + (w64 (v7 * (μ (fn ε v0 41) v2)))))] ε μ (fun z ε_1 μ_1 => G cd_X12_isSafe Q X 366 [(0, (2, v0)), (1, (0, v1)), (2, (0, v2))] [] ε_1 μ_1) m_F) : G cd_X12_isSafe Q X 314 [(0, (2, v0)), (1, (0, v1)), (2, (0, v2)), (3, (1, v3)), (5, (1, v5))] [] ε μ := by
  refine G_run (m_in [22, 63, 65, 113, 125, 171, 196, 202, 210, 245, 247, 302, 314, 360, 366, 372, 404, 411]) 38 _ _ _ _ ?_
  show m_ty [(0, (2, v0)), (1, (0, v1)), (2, (0, v2)), (3, (1, v3)), (5, (1, v5))] [] ε μ → (kd ε v0 = 11) ∧ (kd ε (fn ε v0 40) = 101) ∧ ((0 : Int) ≤ v1 ∧ v1 < ln ε (fn ε v0 40)) ∧ (v3 ≠ 0) ∧ ∀ v7 : Int, v7 = w64 (Int.tdiv (μ (fn ε v0 40) v1) v3) → (kd ε v0 = 11) ∧ (kd ε (fn ε v0 39) = 101) ∧ ((0 : Int) ≤ v1 ∧ v1 < ln ε (fn ε v0 39)) ∧ (kd ε v0 = 11) ∧ (kd ε (fn ε v0 39) = 101) ∧ ((0 : Int) ≤ v2 ∧ v2 < ln ε (fn ε v0 39)) ∧ (kd ε v0 = 11) ∧ (kd ε (fn ε v0 41) = 101) ∧ ((0 : Int) ≤ v1 ∧ v1 < ln ε (fn ε v0 41)) ∧ (kd ε v0 = 11) ∧ G cd_X12_isSafe Q X 360 [(0, (2, v0)), (1, (0, v1)), (2, (0, v2))] [(0, v2), (2, fn ε v0 41), (1, v7), (1, w64 (v5 * (μ (fn ε v0 41) v1))), (1, w64 ((w64 (v5 * (μ (fn ε v0 39) v1))) + (w64 (v7 * (μ (fn ε v0 39) v2))))), (2, v0)] ε μ
  intro hty
  replace h := h hty.1 (hty.2.1 _ (List.mem_of_getElem? (i := 1) rfl)) (hty.2.1 _ (List.mem_of_getElem? (i := 2) rfl)) (hty.2.1 _ (List.mem_of_getElem? (i := 3) rfl)) (hty.2.1 _ (List.mem_of_getElem? (i := 4) rfl))
  obtain ⟨k1, h⟩ := h
  refine And.intro k1 ?_
  obtain ⟨k2, h⟩ := h
  refine And.intro k2 ?_
  obtain ⟨k3, h⟩ := h
  obtain ⟨k4, h⟩ := h
  refine And.intro (And.intro k3 k4) ?_
  obtain ⟨k5, h⟩ := h
  refine And.intro k5 ?_
  intro v7 e_v7
  replace h := h v7 e_v7
  refine And.intro k1 ?_
  obtain ⟨k6, h⟩ := h
  refine And.intro k6 ?_
  obtain ⟨k7, h⟩ := h
  refine And.intro (And.intro k3 k7) ?_
  refine And.intro k1 ?_
  refine And.intro k6 ?_
  obtain ⟨k8, h⟩ := h
  obtain ⟨k9, h⟩ := h
  refine And.intro (And.intro k8 k9) ?_
  refine And.intro k1 ?_
  obtain ⟨k10, h⟩ := h
  refine And.intro k10 ?_
  obtain ⟨k11, h⟩ := h
  refine And.intro (And.intro k3 k11) ?_
  refine And.intro k1 ?_
  exact g_X12_isSafe_360 (fun _ _ _ _ _ _ _ => h)
set_option maxRecDepth 20000 in
theorem g_X12_isSafe_302 {Q X : m_Po} {v0 v1 v2 t : Int} {ε : m_E} {μ : m_M} (h : TY ε μ → i32 v1 → i32 v2 → i64 t → ∀ v3 : Int, v3 = t → kd ε v0 = 11 ∧ kd ε (fn ε v0 40) = 101 ∧ (0 : Int) ≤ v2 ∧ v2 < ln ε (fn ε v0 40) ∧ v3 ≠ 0 ∧ ∀ v5 : Int, v5 = w64 (Int.tdiv (w64 (-(μ (fn ε v0 40) v2))) v3) → kd ε v0 = 11 ∧ kd ε (fn ε v0 40) = 101 ∧ (0 : Int) ≤ v1 ∧ v1 < ln ε (fn ε v0 40) ∧ v3 ≠ 0 ∧ ∀ v7 : Int, v7 = w64 (Int.tdiv (μ (fn ε v0 40) v1) v3) → kd ε (fn ε v0 39) = 101 ∧ v1 < ln ε (fn ε v0 39) ∧ (0 : Int) ≤ v2 ∧ v2 < ln ε (fn ε v0 39) ∧ kd ε (fn ε v0 41) = 101 ∧ v1 < ln ε (fn ε v0 41) ∧ kd ε (fn ε v0 41) = 101 ∧ (0 : Int) ≤ v2 ∧ v2 < ln ε (fn ε v0 41) ∧ kd ε v0 = 11 ∧ o_X12_alone [(2, v0), (1, (w64 ((w64 (v5 * (μ (fn ε v0 39) v1))) + (w64 (v7 * (μ (fn ε v0 39) v2)))))), (1, w64 ((w64 (v5 * (μ (fn ε v0 41) v1))) + (w64 (v7 * (μ (fn ε v0 41) v2)))))] ε μ (fun z ε_1 μ_1 => G cd_X12_isSafe Q X 366 [(0, (2, v0)), (1, (0, v1)), (2, (0, v2))] [] ε_1 μ_1) m_F) : G cd_X12_isSafe Q X 302 [(0, (2, v0)), (1, (0, v1)), (2, (0, v2))] [(1, t)] ε μ := by
  refine G_run (m_in [22, 63, 65, 113, 125, 171, 196, 202, 210, 245, 247, 302, 314, 360, 366, 372, 404, 411]) 38 _ _ _ _ ?_
  show m_ty [(0, (2, v0)), (1, (0, v1)), (2, (0, v2))] [(1, t)] ε μ → ∀ v3 : Int, v3 = t → (kd ε v0 = 11) ∧ (kd ε (fn ε v0 40) = 101) ∧ ((0 : Int) ≤ v2 ∧ v2 < ln ε (fn ε v0 40)) ∧ (v3 ≠ 0) ∧ ∀ v5 : Int, v5 = w64 (Int.tdiv (w64 (-(μ (fn ε v0 40) v2))) v3) → G cd_X12_isSafe Q X 314 [(0, (2, v0)), (1, (0, v1)), (2, (0, v2)), (3, (1, v3)), (5, (1, v5))] [] ε μ
  intro hty
  replace h := h hty.1 (hty.2.1 _ (List.mem_of_getElem? (i := 1) rfl)) (hty.2.1 _ (List.mem_of_getElem? (i := 2) rfl)) (hty.2.2 _ (List.mem_of_getElem? (i := 0) rfl))
  intro v3 e_v3
  replace h := h v3 e_v3
  obtain ⟨k1, h⟩ := h
  refine And.intro k1 ?_
  obtain ⟨k2, h⟩ := h
  refine And.intro k2 ?_
  obtain ⟨k3, h⟩ := h
  obtain ⟨k4, h⟩ := h
  refine And.intro (And.intro k3 k4) ?_
  obtain ⟨k5, h⟩ := h
  refine And.intro k5 ?_
  intro v5 e_v5
  replace h := h v5 e_v5
  exact g_X12_isSafe_314 (fun _ _ _ _ _ => h)
set_option maxRecDepth 20000 in
theorem g_X12_isSafe_247 {Q X : m_Po} {v0 v1 v2 : Int} {ε : m_E} {μ : m_M} (h : TY ε μ → i32 v1 → i32 v2 → kd ε v0 = 11 ∧ ((μ v0 42) ≤ v2 → G cd_X12_isSafe Q X 372 [(0, (2, v0)), (1, (0, v1))] [] ε μ) ∧ (v2 < (μ v0 42) → kd ε (fn ε v0 40) = 101 ∧ (0 : Int) ≤ v1 ∧ v1 < ln ε (fn ε v0 40) ∧ ((μ (fn ε v0 40) v1) ≤ (0 : Int) → G cd_X12_isSafe Q X 372 [(0, (2, v0)), (1, (0, v1))] [] ε μ) ∧ ((0 : Int) < (μ (fn ε v0 40) v1) → ((μ v0 43) ≠ 0 → G cd_X12_isSafe Q X 372 [(0, (2, v0)), (1, (0, v1))] [] ε μ) ∧ ((μ v0 43) = 0 → (0 : Int) ≤ v2 ∧ v2 < ln ε (fn ε v0 40) ∧ ((μ (fn ε v0 40) v2) < (0 : Int) → o_X12_gcd [(1, μ (fn ε v0 40) v1), (1, μ (fn ε v0 40) v2)] ε μ (fun z ε_1 μ_1 => G cd_X12_isSafe Q X 302 [(0, (2, v0)), (1, (0, v1)), (2, (0, v2))] [(1, z)] ε_1 μ_1) m_F) ∧ ((0 : Int) ≤ (μ (fn ε v0 40) v2) → G cd_X12_isSafe Q X 366 [(0, (2, v0)), (1, (0, v1)), (2, (0, v2))] [] ε μ))))) : G cd_X12_isSafe Q X 247 [(0, (2, v0)), (1, (0, v1)), (2, (0, v2))] [] ε μ := by
  refine G_run (m_in [22, 63, 65, 113, 125, 171, 196, 202, 210, 245, 247, 302, 314, 360, 366, 372, 404, 411]) 38 _ _ _ _ ?_
  show m_ty [(0, (2, v0)), (1, (0, v1)), (2, (0, v2))] [] ε μ → (kd ε v0 = 11) ∧ ((μ v0 42) ≤ v2 → G cd_X12_isSafe Q X 372 [(0, (2, v0)), (1, (0, v1))] [] ε μ) ∧ (v2 < (μ v0 42) → (m_ty [(0, (2, v0)), (1, (0, v1)), (2, (0, v2))] [] ε μ → (kd ε v0 = 11) ∧ (kd ε (fn ε v0 40) = 101) ∧ ((0 : Int) ≤ v1 ∧ v1 < ln ε (fn ε v0 40)) ∧ ((μ (fn ε v0 40) v1) ≤ (0 : Int) → G cd_X12_isSafe Q X 372 [(0, (2, v0)), (1, (0, v1))] [] ε μ) ∧ ((0 : Int) < (μ (fn ε v0 40) v1) → (m_ty [(0, (2, v0)), (1, (0, v1)), (2, (0, v2))] [] ε μ → (kd ε v0 = 11) ∧ ((μ v0 43) ≠ 0 → G cd_X12_isSafe Q X 372 [(0, (2, v0)), (1, (0, v1))] [] ε μ) ∧ ((μ v0 43) = 0 → (m_ty [(0, (2, v0)), (1, (0, v1)), (2, (0, v2))] [] ε μ → (kd ε v0 = 11) ∧ (kd ε (fn ε v0 40) = 101) ∧ ((0 : Int) ≤ v2 ∧ v2 < ln ε (fn ε v0 40)) ∧ ((μ (fn ε v0 40) v2) < (0 : Int) → (m_ty [(0, (2, v0)), (1, (0, v1)), (2, (0, v2))] [] ε μ → (kd ε v0 = 11) ∧ (kd ε (fn ε v0 40) = 101) ∧ ((0 : Int) ≤ v1 ∧ v1 < ln ε (fn ε v0 40)) ∧ (kd ε v0 = 11) ∧ (kd ε (fn ε v0 40) = 101) ∧ ((0 : Int) ≤ v2 ∧ v2 < ln ε (fn ε v0 40)) ∧ o_X12_gcd [(1, μ (fn ε v0 40) v1), (1, μ (fn ε v0 40) v2)] ε μ (fun z ε_1 μ_1 => G cd_X12_isSafe Q X 302 [(0, (2, v0)), (1, (0, v1)), (2, (0, v2))] [(1, z)] ε_1 μ_1) m_F)) ∧ ((0 : Int) ≤ (μ (fn ε v0 40) v2) → (m_ty [(0, (2, v0)), (1, (0, v1)), (2, (0, v2))] [] ε μ → G cd_X12_isSafe Q X 366 [(0, (2, v0)), (1, (0, v1)), (2, (0, v2))] [] ε μ))))))))
  intro hty
  replace h := h hty.1 (hty.2.1 _ (List.mem_of_getElem? (i := 1) rfl)) (hty.2.1 _ (List.mem_of_getElem? (i := 2) rfl))
  obtain ⟨k1, h⟩ := h
  refine And.intro k1 ?_
  obtain ⟨ha, hb⟩ := h
  refine And.intro (fun c9 => ?_) (fun c9 => ?_)
  · replace h := ha c9
    clear ha hb
    exact h
  · replace h := hb c9
    clear ha hb
    intro _
    refine And.intro k1 ?_
    obtain ⟨k2, h⟩ := h
    refine And.intro k2 ?_
    obtain ⟨k3, h⟩ := h
    obtain ⟨k4, h⟩ := h
    refine And.intro (And.intro k3 k4) ?_
    obtain ⟨ha, hb⟩ := h
    refine And.intro (fun c8 => ?_) (fun c8 => ?_)
    · replace h := ha c8
      clear ha hb
      exact h
    · replace h := hb c8
      clear ha hb
      intro _
      refine And.intro k1 ?_
      obtain ⟨ha, hb⟩ := h
      refine And.intro (fun c7 => ?_) (fun c7 => ?_)
      · replace h := ha c7
        clear ha hb
        exact h
      · replace h := hb c7
        clear ha hb
        intro _
        refine And.intro k1 ?_
        refine And.intro k2 ?_
        obtain ⟨k5, h⟩ := h
        obtain ⟨k6, h⟩ := h
        refine And.intro (And.intro k5 k6) ?_
        obtain ⟨ha, hb⟩ := h
        refine And.intro (fun c6 => ?_) (fun c6 => ?_)
        · replace h := ha c6
          clear ha hb
          intro _
          refine And.intro k1 ?_
          refine And.intro k2 ?_
          refine And.intro (And.intro k3 k4) ?_
          refine And.intro k1 ?_
          refine And.intro k2 ?_
          refine And.intro (And.intro k5 k6) ?_
          exact h
        · replace h := hb c6
          clear ha hb
          intro _
          exact h
set_option maxRecDepth 20000 in
theorem g_X12_isSafe_245 {Q X : m_Po} {v0 v1 : Int} {ε : m_E} {μ : m_M} (h : TY ε μ → i32 v1 → ∀ v2 : Int, v2 = 0 → G cd_X12_isSafe Q X 247 [(0, (2, v0)), (1, (0, v1)), (2, (0, v2))] [] ε μ) : G cd_X12_isSafe Q X 245 [(0, (2, v0)), (1, (0, v1))] [] ε μ := by
  refine G_run (m_in [22, 63, 65, 113, 125, 171, 196, 202, 210, 245, 247, 302, 314, 360, 366, 372, 404, 411]) 38 _ _ _ _ ?_
  show m_ty [(0, (2, v0)), (1, (0, v1))] [] ε μ → ∀ v2 : Int, v2 = 0 → G cd_X12_isSafe Q X 247 [(0, (2, v0)), (1, (0, v1)), (2, (0, v2))] [] ε μ
  intro hty
  replace h := h hty.1 (hty.2.1 _ (List.mem_of_getElem? (i := 1) rfl))
  intro v2 e_v2
  replace h := h v2 e_v2
  exact h
set_option maxRecDepth 20000 in
theorem g_X12_isSafe_210 {Q X : m_Po} {v0 v1 : Int} {ε : m_E} {μ : m_M} (h : TY ε μ → i32 v1 → kd ε v0 = 11 ∧ ((μ v0 42) ≤ v1 → ((μ v0 43) ≠ 0 → G cd_X12_isSafe Q X 411 [] [] ε μ) ∧ ((μ v0 43) = 0 → o_X12_lies [(1, μ v0 44), (1, μ v0 45), (1, μ v0 46), (1, μ v0 47)] ε μ (fun z ε_1 μ_1 => G cd_X12_isSafe Q X 404 [] [(0, z)] ε_1 μ_1) m_F)) ∧ (v1 < (μ v0 42) → kd ε (fn ε v0 40) = 101 ∧ (0 : Int) ≤ v1 ∧ v1 < ln ε (fn ε v0 40) ∧ ((μ (fn ε v0 40) v1) ≠ (0 : Int) → G cd_X12_isSafe Q X 245 [(0, (2, v0)), (1, (0, v1))] [] ε μ) ∧ ((μ (fn ε v0 40) v1) = (0 : Int) → kd ε (fn ε v0 39) = 101 ∧ v1 < ln ε (fn ε v0 39) ∧ kd ε (fn ε v0 41) = 101 ∧ v1 < ln ε (fn ε v0 41) ∧ o_X12_alone [(2, v0), (1, μ (fn ε v0 39) v1), (1, μ (fn ε v0 41) v1)] ε μ (fun z_1 ε_2 μ_2 => G cd_X12_isSafe Q X 245 [(0, (2, v0)), (1, (0, v1))] [] ε_2 μ_2) m_F))) : G cd_X12_isSafe Q X 210 [(0, (2, v0)), (1, (0, v1))] [] ε μ := by
  refine G_run (m_in [22, 63, 65, 113, 125, 171, 196, 202, 210, 245, 247, 302, 314, 360, 366, 372, 404, 411]) 38 _ _ _ _ ?_
  show m_ty [(0, (2, v0)), (1, (0, v1))] [] ε μ → (kd ε v0 = 11) ∧ ((μ v0 42) ≤ v1 → (m_ty [(0, (2, v0))] [] ε μ → (kd ε v0 = 11) ∧ ((μ v0 43) ≠ 0 → G cd_X12_isSafe Q X 411 [] [] ε μ) ∧ ((μ v0 43) = 0 → (m_ty [(0, (2, v0))] [] ε μ → (kd ε v0 = 11) ∧ (kd ε v0 = 11) ∧ (kd ε v0 = 11) ∧ (kd ε v0 = 11) ∧ o_X12_lies [(1, μ v0 44), (1, μ v0 45), (1, μ v0 46), (1, μ v0 47)] ε μ (fun z ε_1 μ_1 => G cd_X12_isSafe Q X 404 [] [(0, z)] ε_1 μ_1) m_F)))) ∧ (v1 < (μ v0 42) → (m_ty [(0, (2, v0)), (1, (0, v1))] [] ε μ → (kd ε v0 = 11) ∧ (kd ε (fn ε v0 40) = 101) ∧ ((0 : Int) ≤ v1 ∧ v1 < ln ε (fn ε v0 40)) ∧ ((μ (fn ε v0 40) v1) ≠ (0 : Int) → G cd_X12_isSafe Q X 245 [(0, (2, v0)), (1, (0, v1))] [] ε μ) ∧ ((μ (fn ε v0 40) v1) = (0 : Int) → (m_ty [(0, (2, v0)), (1, (0, v1))] [] ε μ → (kd ε v0 = 11) ∧ (kd ε (fn ε v0 39) = 101) ∧ ((0 : Int) ≤ v1 ∧ v1 < ln ε (fn ε v0 39)) ∧ (kd ε v0 = 11) ∧ (kd ε (fn ε v0 41) = 101) ∧ ((0 : Int) ≤ v1 ∧ v1 < ln ε (fn ε v0 41)) ∧ (kd ε v0 = 11) ∧ o_X12_alone [(2, v0), (1, μ (fn ε v0 39) v1), (1, μ (fn ε v0 41) v1)] ε μ (fun z_1 ε_2 μ_2 => G cd_X12_isSafe Q X 245 [(0, (2, v0)), (1, (0, v1))] [] ε_2 μ_2) m_F))))
  intro hty
  replace h := h hty.1 (hty.2.1 _ (List.mem_of_getElem? (i := 1) rfl))
  obtain ⟨k1, h⟩ := h
  refine And.intro k1 ?_
  obtain ⟨ha, hb⟩ := h
  refine And.intro (fun c10 => ?_) (fun c10 => ?_)
  · replace h := ha c10
    clear ha hb
    intro _
    refine And.intro k1 ?_
    obtain ⟨ha, hb⟩ := h
    refine And.intro (fun c1 => ?_) (fun c1 => ?_)
    · replace h := ha c1
      clear ha hb
      exact h
    · replace h := hb c1
      clear ha hb
      intro _
      refine And.intro k1 ?_
      refine And.intro k1 ?_
      refine And.intro k1 ?_
      refine And.intro k1 ?_
      exact h
  · replace h := hb c10
    clear ha hb
    intro _
    refine And.intro k1 ?_
    obtain ⟨k3, h⟩ := h
    refine And.intro k3 ?_
    obtain ⟨k4, h⟩ := h
    obtain ⟨k5, h⟩ := h
    refine And.intro (And.intro k4 k5) ?_
    obtain ⟨ha, hb⟩ := h
    refine And.intro (fun c9 => ?_) (fun c9 => ?_)
    · replace h := ha c9
      clear ha hb
      exact h
    · replace h := hb c9
      clear ha hb
      intro _
      refine And.intro k1 ?_
      obtain ⟨k6, h⟩ := h
      refine And.intro k6 ?_
      obtain ⟨k7, h⟩ := h
      refine And.intro (And.intro k4 k7) ?_
      refine And.intro k1 ?_
      obtain ⟨k8, h⟩ := h
      refine And.intro k8 ?_
      obtain ⟨k9, h⟩ := h
      refine And.intro (And.intro k4 k9) ?_
      refine And.intro k1 ?_
      exact h
set_option maxRecDepth 20000 in
theorem g_X12_isSafe_202 {Q X : m_Po} {v0 v1 : Int} {ε : m_E} {μ : m_M} (h : TY ε μ → i32 v1 → ∀ v1_1 : Int, v1_1 = w32 (v1 + 1) → G cd_X12_isSafe Q X 22 [(0, (2, v0)), (1, (0, v1_1))] [] ε μ) : G cd_X12_isSafe Q X 202 [(0, (2, v0)), (1, (0, v1))] [] ε μ := by
  refine G_run (m_in [22, 63, 65, 113, 125, 171, 196, 202, 210, 245, 247, 302, 314, 360, 366, 372, 404, 411]) 38 _ _ _ _ ?_
  show m_ty [(0, (2, v0)), (1, (0, v1))] [] ε μ → ∀ v1_1 : Int, v1_1 = w32 (v1 + 1) → G cd_X12_isSafe Q X 22 [(0, (2, v0)), (1, (0, v1_1))] [] ε μ
  intro hty
  replace h := h hty.1 (hty.2.1 _ (List.mem_of_getElem? (i := 1) rfl))
  intro v1_1 e_v1_1
  replace h := h v1_1 e_v1_1
  exact h
set_option maxRecDepth 20000 in
theorem g_X12_isSafe_196 {Q X : m_Po} {v0 v1 v2 : Int} {ε : m_E} {μ : m_M} (h : TY ε μ → i32 v1 → i32 v2 → ∀ v2_1 : Int, v2_1 = w32 (v2 + 1) → G cd_X12_isSafe Q X 65 [(0, (2, v0)), (1, (0, v1)), (2, (0, v2_1))] [] ε μ) : G cd_X12_isSafe Q X 196 [(0, (2, v0)), (1, (0, v1)), (2, (0, v2))] [] ε μ := by
  refine G_run (m_in [22, 63, 65, 113, 125, 171, 196, 202, 210, 245, 247, 302, 314, 360, 366, 372, 404, 411]) 38 _ _ _ _ ?_
  show m_ty [(0, (2, v0)), (1, (0, v1)), (2, (0, v2))] [] ε μ → ∀ v2_1 : Int, v2_1 = w32 (v2 + 1) → G cd_X12_isSafe Q X 65 [(0, (2, v0)), (1, (0, v1)), (2, (0, v2_1))] [] ε μ
  intro hty
  replace h := h hty.1 (hty.2.1 _ (List.mem_of_getElem? (i := 1) rfl)) (hty.2.1 _ (List.mem_of_getElem? (i := 2) rfl))
  intro v2_1 e_v2_1
  replace h := h v2_1 e_v2_1
  exact h
set_option maxRecDepth 20000 in
theorem g_X12_isSafe_171 {Q X : m_Po} {v0 v1 v2 v5 v7 t t_1 t_2 t_3 t_4 t_5 : Int} {ε : m_E} {μ : m_M} (h : TY ε μ → i32 v1 → i32 v2 → i64 v5 → i64 v7 → i64 t_1 → i64 t_2 → i64 t_3 → i32 t_5 → kd ε t_4 = 101 ∧ (0 : Int) ≤ t_5 ∧ t_5 < ln ε t_4 ∧ kd ε v0 = 11 ∧ kd ε (fn ε v0 33) = 101 ∧ (0 : Int) ≤ v1 ∧ v1 < ln ε (fn ε v0 33) ∧ (0 : Int) ≤ v2 ∧ v2 < ln ε (fn ε v0 33) ∧ kd ε t = 11 ∧ o_X12_two [(2, t), (1, t_1), (1, w64 (t_2 + (w64 (t_3 * (μ t_4 t_5))))), (1, w64 ((w64 (v5 * (μ (fn ε v0 33) v1))) + (w64 (v7 * (μ (fn ε v0 33) v2)))))] ε μ (fun z ε_1 μ_1 => G cd_X12_isSafe Q X 196 [(0, (2, v0)), (1, (0, v1)), (2, (0, v2))] [] ε_1 μ_1) m_F) : G cd_X12_isSafe Q X 171 [(0, (2, v0)), (1, (0, v1)), (2, (0, v2)), (5, (1, v5)), (7, (1, v7))] [(0, t_5), (2, t_4), (1, t_3), (1, t_2), (1, t_1), (2, t)] ε μ := by
  refine G_run (m_in [22, 63, 65, 113, 125, 171, 196, 202, 210, 245, 247, 302, 314, 360, 366, 372, 404, 411]) 38 _ _ _ _ ?_
  show m_ty [(0, (2, v0)), (1, (0, v1)), (2, (0, v2)), (5, (1, v5)), (7, (1, v7))] [(0, t_5), (2, t_4), (1, t_3), (1, t_2), (1, t_1), (2, t)] ε μ → (kd ε t_4 = 101) ∧ ((0 : Int) ≤ t_5 ∧ t_5 < ln ε t_4) ∧ (kd ε v0 = 11) ∧ (kd ε (fn ε v0 33) = 101) ∧ ((0 : Int) ≤ v1 ∧ v1 < ln ε (fn ε v0 33)) ∧ (kd ε v0 = 11) ∧ (kd ε (fn ε v0 33) = 101) ∧ ((0 : Int) ≤ v2 ∧ v2 < ln ε (fn ε v0 33)) ∧ (kd ε t = 11) ∧ o_X12_two [(2, t), (1, t_1), (1, w64 (t_2 + (w64 (t_3 * (μ t_4 t_5))))), (1, w64 ((w64 (v5 * (μ (fn ε v0 33) v1))) + (w64 (v7 * (μ (fn ε v0 33) v2)))))] ε μ (fun z ε_1 μ_1 => G cd_X12_isSafe Q X 196 [(0, (2, v0)), (1, (0, v1)), (2, (0, v2))] [] ε_1 μ_1) m_F
  intro hty
  replace h := h hty.1 (hty.2.1 _ (List.mem_of_getElem? (i := 1) rfl)) (hty.2.1 _ (List.mem_of_getElem? (i := 2) rfl)) (hty.2.1 _ (List.mem_of_getElem? (i := 3) rfl)) (hty.2.1 _ (List.mem_of_getElem? (i := 4) rfl)) (hty.2.2 _ (List.mem_of_getElem? (i := 4) rfl)) (hty.2.2 _ (List.mem_of_getElem? (i := 3) rfl)) (hty.2.2 _ (List.mem_of_getElem? (i := 2) rfl)) (hty.2.2 _ (List.mem_of_getElem? (i := 0) rfl))
  obtain ⟨k1, h⟩ := h
  refine And.intro k1 ?_
  obtain ⟨k2, h⟩ := h
  obtain ⟨k3, h⟩ := h
  refine And.intro (And.intro k2 k3) ?_
  obtain ⟨k4, h⟩ := h
  refine And.intro k4 ?_
  obtain ⟨k5, h⟩ := h
  refine And.intro k5 ?_
  obtain ⟨k6, h⟩ := h
  obtain ⟨k7, h⟩ := h
  refine And.intro (And.intro k6 k7) ?_
  refine And.intro k4 ?_
  refine And.intro k5 ?_
  obtain ⟨k8, h⟩ := h
  obtain ⟨k9, h⟩ := h
  refine And.intro (And.intro k8 k9) ?_
  obtain ⟨k10, h⟩ := h
  refine And.intro k10 ?_
  exact h
set_option maxRecDepth 20000 in
theorem g_X12_isSafe_125 {Q X : m_Po} {v0 v1 v2 v3 v5 : Int} {ε : m_E} {μ : m_M} (h : TY ε μ → i32 v1 → i32 v2 → i64 v3 → i64 v5 → kd ε v0 = 11 ∧ kd ε (fn ε v0 32) = 101 ∧ (0 : Int) ≤ v1 ∧ v1 < ln ε (fn ε v0 32) ∧ v3 ≠ 0 ∧ ∀ v7 : Int, v7 = w64 (Int.tdiv (μ (fn ε v0 32) v1) v3) → kd ε (fn ε v0 30) = 101 ∧ v1 < ln ε (fn ε v0 30) ∧ (0 : Int) ≤ v2 ∧ v2 < ln ε (fn ε v0 30) ∧ kd ε (fn ε v0 31) = 101 ∧ v1 < ln ε (fn ε v0 31) ∧ kd ε (fn ε v0 31) = 101 ∧ (0 : Int) ≤ v2 ∧ v2 < ln ε (fn ε v0 31) ∧ kd ε v0 = 11 ∧ kd ε (fn ε v0 33) = 101 ∧ (0 : Int) ≤ v1 ∧ v1 < ln ε (fn ε v0 33) ∧ (0 : Int) ≤ v2 ∧ v2 < ln ε (fn ε v0 33) ∧ kd ε v0 = 11 ∧ o_X12_two [(2, v0), (1, (w64 ((w64 (v5 * (μ (fn ε v0 30) v1))) + (w64 (v7 * (μ (fn ε v0 30) v2)))))), (1, w64 ((w64 (v5 * (μ (fn ε v0 31) v1))) + (w64 (v7 * (μ (fn ε v0 31) v2))))), (1, w64 ((w64 (v5 * (μ (fn ε v0 33) v1))) + (w64 (v7 * (μ (fn ε v0 33) v2)))))] ε μ (fun z ε_1 μ_1 => G cd_X12_isSafe Q X 196 [(0, (2, v0)), (1, (0, v1)), (2, (0, v2))] [] ε_1 μ_1) m_F) : G cd_X12_isSafe Q X 125 [(0, (2, v0)), (1, (0, v1)), (2, (0, v2)), (3, (1, v3)), (5, (1, v5))] [] ε μ := by
  refine G_run (m_in [22, 63, 65, 113, 125, 171, 196, 202, 210, 245, 247, 302, 314, 360, 366, 372, 404, 411]) 38 _ _ _ _ ?_
  show m_ty [(0, (2, v0)), (1, (0, v1)), (2, (0, v2)), (3, (1, v3)), (5, (1, v5))] [] ε μ → (kd ε v0 = 11) ∧ (kd ε (fn ε v0 32) = 101) ∧ ((0 : Int) ≤ v1 ∧ v1 < ln ε (fn ε v0 32)) ∧ (v3 ≠ 0) ∧ ∀ v7 : Int, v7 = w64 (Int.tdiv (μ (fn ε v0 32) v1) v3) → (kd ε v0 = 11) ∧ (kd ε (fn ε v0 30) = 101) ∧ ((0 : Int) ≤ v1 ∧ v1 < ln ε (fn ε v0 30)) ∧ (kd ε v0 = 11) ∧ (kd ε (fn ε v0 30) = 101) ∧ ((0 : Int) ≤ v2 ∧ v2 < ln ε (fn ε v0 30)) ∧ (kd ε v0 = 11) ∧ (kd ε (fn ε v0 31) = 101) ∧ ((0 : Int) ≤ v1 ∧ v1 < ln ε (fn ε v0 31)) ∧ (kd ε v0 = 11) ∧ G cd_X12_isSafe Q X 171 [(0, (2, v0)), (1, (0, v1)), (2, (0, v2)), (5, (1, v5)), (7, (1, v7))] [(0, v2), (2, fn ε v0 31), (1, v7), (1, w64 (v5 * (μ (fn ε v0 31) v1))), (1, w64 ((w64 (v5 * (μ (fn ε v0 30) v1))) + (w64 (v7 * (μ (fn ε v0 30) v2))))), (2, v0)] ε μ
  intro hty
  replace h := h hty.1 (hty.2.1 _ (List.mem_of_getElem? (i := 1) rfl)) (hty.2.1 _ (List.mem_of_getElem? (i := 2) rfl)) (hty.2.1 _ (List.mem_of_getElem? (i := 3) rfl)) (hty.2.1 _ (List.mem_of_getElem? (i := 4) rfl))
  obtain ⟨k1, h⟩ := h
  refine And.intro k1 ?_
  obtain ⟨k2, h⟩ := h
  refine And.intro k2 ?_
  obtain ⟨k3, h⟩ := h
  obtain ⟨k4, h⟩ := h
  refine And.intro (And.intro k3 k4) ?_
  obtain ⟨k5, h⟩ := h
  refine And.intro k5 ?_
  intro v7 e_v7
  replace h := h v7 e_v7
  refine And.intro k1 ?_
  obtain ⟨k6, h⟩ := h
  refine And.intro k6 ?_
  obtain ⟨k7, h⟩ := h
  refine And.intro (And.intro k3 k7) ?_
  refine And.intro k1 ?_
  refine And.intro k6 ?_
  obtain ⟨k8, h⟩ := h
  obtain ⟨k9, h⟩ := h
  refine And.intro (And.intro k8 k9) ?_
  refine And.intro k1 ?_
  obtain ⟨k10, h⟩ := h
  refine And.intro k10 ?_
  obtain ⟨k11, h⟩ := h
  refine And.intro (And.intro k3 k11) ?_
  refine And.intro k1 ?_
  exact g_X12_isSafe_171 (fun _ _ _ _ _ _ _ _ _ => h)
set_option maxRecDepth 20000 in
theorem g_X12_isSafe_113 {Q X : m_Po} {v0 v1 v2 t : Int} {ε : m_E} {μ : m_M} (h : TY ε μ → i32 v1 → i32 v2 → i64 t → ∀ v3 : Int, v3 = t → kd ε v0 = 11 ∧ kd ε (fn ε v0 32) = 101 ∧ (0 : Int) ≤ v2 ∧ v2 < ln ε (fn ε v0 32) ∧ v3 ≠ 0 ∧ ∀ v5 : Int, v5 = w64 (Int.tdiv (w64 (-(μ (fn ε v0 32) v2))) v3) → kd ε v0 = 11 ∧ kd ε (fn ε v0 32) = 101 ∧ (0 : Int) ≤ v1 ∧ v1 < ln ε (fn ε v0 32) ∧ v3 ≠ 0 ∧ ∀ v7 : Int, v7 = w64 (Int.tdiv (μ (fn ε v0 32) v1) v3) → kd ε (fn ε v0 30) = 101 ∧ v1 < ln ε (fn ε v0 30) ∧ (0 : Int) ≤ v2 ∧ v2 < ln ε (fn ε v0 30) ∧ kd ε (fn ε v0 31) = 101 ∧ v1 < ln ε (fn ε v0 31) ∧ kd ε (fn ε v0 31) = 101 ∧ (0 : Int) ≤ v2 ∧ v2 < ln ε (fn ε v0 31) ∧ kd ε v0 = 11 ∧ kd ε (fn ε v0 33) = 101 ∧ (0 : Int) ≤ v1 ∧ v1 < ln ε (fn ε v0 33) ∧ (0 : Int) ≤ v2 ∧ v2 < ln ε (fn ε v0 33) ∧ kd ε v0 = 11 ∧ o_X12_two [(2, v0), (1, (w64 ((w64 (v5 * (μ (fn ε v0 30) v1))) + (w64 (v7 * (μ (fn ε v0 30) v2)))))), (1, w64 ((w64 (v5 * (μ (fn ε v0 31) v1))) + (w64 (v7 * (μ (fn ε v0 31) v2))))), (1, w64 ((w64 (v5 * (μ (fn ε v0 33) v1))) + (w64 (v7 * (μ (fn ε v0 33) v2)))))] ε μ (fun z ε_1 μ_1 => G cd_X12_isSafe Q X 196 [(0, (2, v0)), (1, (0, v1)), (2, (0, v2))] [] ε_1 μ_1) m_F) : G cd_X12_isSafe Q X 113 [(0, (2, v0)), (1, (0, v1)), (2, (0, v2))] [(1, t)] ε μ := by
  refine G_run (m_in [22, 63, 65, 113, 125, 171, 196, 202, 210, 245, 247, 302, 314, 360, 366, 372, 404, 411]) 38 _ _ _ _ ?_
  show m_ty [(0, (2, v0)), (1, (0, v1)), (2, (0, v2))] [(1, t)] ε μ → ∀ v3 : Int, v3 = t → (kd ε v0 = 11) ∧ (kd ε (fn ε v0 32) = 101) ∧ ((0 : Int) ≤ v2 ∧ v2 < ln ε (fn ε v0 32)) ∧ (v3 ≠ 0) ∧ ∀ v5 : Int, v5 = w64 (Int.tdiv (w64 (-(μ (fn ε v0 32) v2))) v3) → G cd_X12_isSafe Q X 125 [(0, (2, v0)), (1, (0, v1)), (2, (0, v2)), (3, (1, v3)), (5, (1, v5))] [] ε μ
  intro hty
  replace h := h hty.1 (hty.2.1 _ (List.mem_of_getElem? (i := 1) rfl)) (hty.2.1 _ (List.mem_of_getElem? (i := 2) rfl)) (hty.2.2 _ (List.mem_of_getElem? (i := 0) rfl))
  intro v3 e_v3
  replace h := h v3 e_v3
  obtain ⟨k1, h⟩ := h
  refine And.intro k1 ?_
  obtain ⟨k2, h⟩ := h
  refine And.intro k2 ?_
  obtain ⟨k3, h⟩ := h
  obtain ⟨k4, h⟩ := h
  refine And.intro (And.intro k3 k4) ?_
  obtain ⟨k5, h⟩ := h
  refine And.intro k5 ?_
  intro v5 e_v5
  replace h := h v5 e_v5
  exact g_X12_isSafe_125 (fun _ _ _ _ _ => h)
set_option maxRecDepth 20000 in
theorem g_X12_isSafe_65 {Q X : m_Po} {v0 v1 v2 : Int} {ε : m_E} {μ : m_M} (h : TY ε μ → i32 v1 → i32 v2 → kd ε v0 = 11 ∧ ((μ v0 35) ≤ v2 → G cd_X12_isSafe Q X 202 [(0, (2, v0)), (1, (0, v1))] [] ε μ) ∧ (v2 < (μ v0 35) → kd ε (fn ε v0 32) = 101 ∧ (0 : Int) ≤ v1 ∧ v1 < ln ε (fn ε v0 32) ∧ ((μ (fn ε v0 32) v1) ≤ (0 : Int) → G cd_X12_isSafe Q X 202 [(0, (2, v0)), (1, (0, v1))] [] ε μ) ∧ ((0 : Int) < (μ (fn ε v0 32) v1) → (0 : Int) ≤ v2 ∧ v2 < ln ε (fn ε v0 32) ∧ ((μ (fn ε v0 32) v2) < (0 : Int) → o_X12_gcd [(1, μ (fn ε v0 32) v1), (1, μ (fn ε v0 32) v2)] ε μ (fun z ε_1 μ_1 => G cd_X12_isSafe Q X 113 [(0, (2, v0)), (1, (0, v1)), (2, (0, v2))] [(1, z)] ε_1 μ_1) m_F) ∧ ((0 : Int) ≤ (μ (fn ε v0 32) v2) → G cd_X12_isSafe Q X 196 [(0, (2, v0)), (1, (0, v1)), (2, (0, v2))] [] ε μ)))) : G cd_X12_isSafe Q X 65 [(0, (2, v0)), (1, (0, v1)), (2, (0, v2))] [] ε μ := by
  refine G_run (m_in [22, 63, 65, 113, 125, 171, 196, 202, 210, 245, 247, 302, 314, 360, 366, 372, 404, 411]) 38 _ _ _ _ ?_
  show m_ty [(0, (2, v0)), (1, (0, v1)), (2, (0, v2))] [] ε μ → (kd ε v0 = 11) ∧ ((μ v0 35) ≤ v2 → G cd_X12_isSafe Q X 202 [(0, (2, v0)), (1, (0, v1))] [] ε μ) ∧ (v2 < (μ v0 35) → (m_ty [(0, (2, v0)), (1, (0, v1)), (2, (0, v2))] [] ε μ → (kd ε v0 = 11) ∧ (kd ε (fn ε v0 32) = 101) ∧ ((0 : Int) ≤ v1 ∧ v1 < ln ε (fn ε v0 32)) ∧ ((μ (fn ε v0 32) v1) ≤ (0 : Int) → G cd_X12_isSafe Q X 202 [(0, (2, v0)), (1, (0, v1))] [] ε μ) ∧ ((0 : Int) < (μ (fn ε v0 32) v1) → (m_ty [(0, (2, v0)), (1, (0, v1)), (2, (0, v2))] [] ε μ → (kd ε v0 = 11) ∧ (kd ε (fn ε v0 32) = 101) ∧ ((0 : Int) ≤ v2 ∧ v2 < ln ε (fn ε v0 32)) ∧ ((μ (fn ε v0 32) v2) < (0 : Int) → (m_ty [(0, (2, v0)), (1, (0, v1)), (2, (0, v2))] [] ε μ → (kd ε v0 = 11) ∧ (kd ε (fn ε v0 32) = 101) ∧ ((0 : Int) ≤ v1 ∧ v1 < ln ε (fn ε v0 32)) ∧ (kd ε v0 = 11) ∧ (kd ε (fn ε v0 32) = 101) ∧ ((0 : Int) ≤ v2 ∧ v2 < ln ε (fn ε v0 32)) ∧ o_X12_gcd [(1, μ (fn ε v0 32) v1), (1, μ (fn ε v0 32) v2)] ε μ (fun z ε_1 μ_1 => G cd_X12_isSafe Q X 113 [(0, (2, v0)), (1, (0, v1)), (2, (0, v2))] [(1, z)] ε_1 μ_1) m_F)) ∧ ((0 : Int) ≤ (μ (fn ε v0 32) v2) → (m_ty [(0, (2, v0)), (1, (0, v1)), (2, (0, v2))] [] ε μ → G cd_X12_isSafe Q X 196 [(0, (2, v0)), (1, (0, v1)), (2, (0, v2))] [] ε μ))))))
  intro hty
  replace h := h hty.1 (hty.2.1 _ (List.mem_of_getElem? (i := 1) rfl)) (hty.2.1 _ (List.mem_of_getElem? (i := 2) rfl))
  obtain ⟨k1, h⟩ := h
  refine And.intro k1 ?_
  obtain ⟨ha, hb⟩ := h
  refine And.intro (fun c8 => ?_) (fun c8 => ?_)
  · replace h := ha c8
    clear ha hb
    exact h
  · replace h := hb c8
    clear ha hb
    intro _
    refine And.intro k1 ?_
    obtain ⟨k2, h⟩ := h
    refine And.intro k2 ?_
    obtain ⟨k3, h⟩ := h
    obtain ⟨k4, h⟩ := h
    refine And.intro (And.intro k3 k4) ?_
    obtain ⟨ha, hb⟩ := h
    refine And.intro (fun c7 => ?_) (fun c7 => ?_)
    · replace h := ha c7
      clear ha hb
      exact h
    · replace h := hb c7
      clear ha hb
      intro _
      refine And.intro k1 ?_
      refine And.intro k2 ?_
      obtain ⟨k5, h⟩ := h
      obtain ⟨k6, h⟩ := h
      refine And.intro (And.intro k5 k6) ?_
      obtain ⟨ha, hb⟩ := h
      refine And.intro (fun c6 => ?_) (fun c6 => ?_)
      · replace h := ha c6
        clear ha hb
        intro _
        refine And.intro k1 ?_
        refine And.intro k2 ?_
        refine And.intro (And.intro k3 k4) ?_
        refine And.intro k1 ?_
        refine And.intro k2 ?_
        refine And.intro (And.intro k5 k6) ?_
        exact h
      · replace h := hb c6
        clear ha hb
        intro _
        exact h
set_option maxRecDepth 20000 in
theorem g_X12_isSafe_63 {Q X : m_Po} {v0 v1 : Int} {ε : m_E} {μ : m_M} (h : TY ε μ → i32 v1 → ∀ v2 : Int, v2 = 0 → G cd_X12_isSafe Q X 65 [(0, (2, v0)), (1, (0, v1)), (2, (0, v2))] [] ε μ) : G cd_X12_isSafe Q X 63 [(0, (2, v0)), (1, (0, v1))] [] ε μ := by
  refine G_run (m_in [22, 63, 65, 113, 125, 171, 196, 202, 210, 245, 247, 302, 314, 360, 366, 372, 404, 411]) 38 _ _ _ _ ?_
  show m_ty [(0, (2, v0)), (1, (0, v1))] [] ε μ → ∀ v2 : Int, v2 = 0 → G cd_X12_isSafe Q X 65 [(0, (2, v0)), (1, (0, v1)), (2, (0, v2))] [] ε μ
  intro hty
  replace h := h hty.1 (hty.2.1 _ (List.mem_of_getElem? (i := 1) rfl))
  intro v2 e_v2
  replace h := h v2 e_v2
  exact h
set_option maxRecDepth 20000 in
theorem g_X12_isSafe_22 {Q X : m_Po} {v0 v1 : Int} {ε : m_E} {μ : m_M} (h : TY ε μ → i32 v1 → kd ε v0 = 11 ∧ ((μ v0 35) ≤ v1 → ∀ v1_1 : Int, v1_1 = 0 → G cd_X12_isSafe Q X 210 [(0, (2, v0)), (1, (0, v1_1))] [] ε μ) ∧ (v1 < (μ v0 35) → kd ε (fn ε v0 32) = 101 ∧ (0 : Int) ≤ v1 ∧ v1 < ln ε (fn ε v0 32) ∧ ((μ (fn ε v0 32) v1) ≠ (0 : Int) → G cd_X12_isSafe Q X 63 [(0, (2, v0)), (1, (0, v1))] [] ε μ) ∧ ((μ (fn ε v0 32) v1) = (0 : Int) → kd ε (fn ε v0 30) = 101 ∧ v1 < ln ε (fn ε v0 30) ∧ kd ε (fn ε v0 31) = 101 ∧ v1 < ln ε (fn ε v0 31) ∧ kd ε (fn ε v0 33) = 101 ∧ v1 < ln ε (fn ε v0 33) ∧ o_X12_two [(2, v0), (1, μ (fn ε v0 30) v1), (1, μ (fn ε v0 31) v1), (1, μ (fn ε v0 33) v1)] ε μ (fun z ε_1 μ_1 => G cd_X12_isSafe Q X 63 [(0, (2, v0)), (1, (0, v1))] [] ε_1 μ_1) m_F))) : G cd_X12_isSafe Q X 22 [(0, (2, v0)), (1, (0, v1))] [] ε μ := by
  refine G_run (m_in [22, 63, 65, 113, 125, 171, 196, 202, 210, 245, 247, 302, 314, 360, 366, 372, 404, 411]) 38 _ _ _ _ ?_
  show m_ty [(0, (2, v0)), (1, (0, v1))] [] ε μ → (kd ε v0 = 11) ∧ ((μ v0 35) ≤ v1 → (m_ty [(0, (2, v0))] [] ε μ → ∀ v1_1 : Int, v1_1 = 0 → G cd_X12_isSafe Q X 210 [(0, (2, v0)), (1, (0, v1_1))] [] ε μ)) ∧ (v1 < (μ v0 35) → (m_ty [(0, (2, v0)), (1, (0, v1))] [] ε μ → (kd ε v0 = 11) ∧ (kd ε (fn ε v0 32) = 101) ∧ ((0 : Int) ≤ v1 ∧ v1 < ln ε (fn ε v0 32)) ∧ ((μ (fn ε v0 32) v1) ≠ (0 : Int) → G cd_X12_isSafe Q X 63 [(0, (2, v0)), (1, (0, v1))] [] ε μ) ∧ ((μ (fn ε v0 32) v1) = (0 : Int) → (m_ty [(0, (2, v0)), (1, (0, v1))] [] ε μ → (kd ε v0 = 11) ∧ (kd ε (fn ε v0 30) = 101) ∧ ((0 : Int) ≤ v1 ∧ v1 < ln ε (fn ε v0 30)) ∧ (kd ε v0 = 11) ∧ (kd ε (fn ε v0 31) = 101) ∧ ((0 : Int) ≤ v1 ∧ v1 < ln ε (fn ε v0 31)) ∧ (kd ε v0 = 11) ∧ (kd ε (fn ε v0 33) = 101) ∧ ((0 : Int) ≤ v1 ∧ v1 < ln ε (fn ε v0 33)) ∧ (kd ε v0 = 11) ∧ o_X12_two [(2, v0), (1, μ (fn ε v0 30) v1), (1, μ (fn ε v0 31) v1), (1, μ (fn ε v0 33) v1)] ε μ (fun z ε_1 μ_1 => G cd_X12_isSafe Q X 63 [(0, (2, v0)), (1, (0, v1))] [] ε_1 μ_1) m_F))))
  intro hty
  replace h := h hty.1 (hty.2.1 _ (List.mem_of_getElem? (i := 1) rfl))
  obtain ⟨k1, h⟩ := h
  refine And.intro k1 ?_
  obtain ⟨ha, hb⟩ := h
  refine And.intro (fun c11 => ?_) (fun c11 => ?_)
  · replace h := ha c11
    clear ha hb
    intro _
    intro v1_1 e_v1_1
    replace h := h v1_1 e_v1_1
    exact h
  · replace h := hb c11
    clear ha hb
    intro _
    refine And.intro k1 ?_
    obtain ⟨k2, h⟩ := h
    refine And.intro k2 ?_
    obtain ⟨k3, h⟩ := h
    obtain ⟨k4, h⟩ := h
    refine And.intro (And.intro k3 k4) ?_
    obtain ⟨ha, hb⟩ := h
    refine And.intro (fun c10 => ?_) (fun c10 => ?_)
    · replace h := ha c10
      clear ha hb
      exact h
    · replace h := hb c10
      clear ha hb
      intro _
      refine And.intro k1 ?_
      obtain ⟨k5, h⟩ := h
      refine And.intro k5 ?_
      obtain ⟨k6, h⟩ := h
      refine And.intro (And.intro k3 k6) ?_
      refine And.intro k1 ?_
      obtain ⟨k7, h⟩ := h
      refine And.intro k7 ?_
      obtain ⟨k8, h⟩ := h
      refine And.intro (And.intro k3 k8) ?_
      refine And.intro k1 ?_
      obtain ⟨k9, h⟩ := h
      refine And.intro k9 ?_
      obtain ⟨k10, h⟩ := h
      refine And.intro (And.intro k3 k10) ?_
      refine And.intro k1 ?_
      exact h
set_option maxRecDepth 20000 in
theorem g_X12_isSafe_0 {Q X : m_Po} {v0 : Int} {ε : m_E} {μ : m_M} (h : TY ε μ → kd ε v0 = 11 ∧ ∀ μ_1 : m_M, μ_1 = st μ v0 42 0 → ∀ μ_2 : m_M, μ_2 = st μ_1 v0 43 0 → ∀ μ_3 : m_M, μ_3 = st μ_2 v0 48 0 → ∀ μ_4 : m_M, μ_4 = st μ_3 v0 49 0 → ∀ v1 : Int, v1 = 0 → G cd_X12_isSafe Q X 22 [(0, (2, v0)), (1, (0, v1))] [] ε μ_4) : G cd_X12_isSafe Q X 0 [(0, (2, v0))] [] ε μ := by
  refine G_run (m_in [22, 63, 65, 113, 125, 171, 196, 202, 210, 245, 247, 302, 314, 360, 366, 372, 404, 411]) 38 _ _ _ _ ?_
  show m_ty [(0, (2, v0))] [] ε μ → (kd ε v0 = 11) ∧ ∀ μ_1 : m_M, μ_1 = st μ v0 42 0 → (kd ε v0 = 11) ∧ (0 = 0 ∨ 0 = 1) ∧ ∀ μ_2 : m_M, μ_2 = st μ_1 v0 43 0 → (kd ε v0 = 11) ∧ (0 = 0 ∨ 0 = 1) ∧ ∀ μ_3 : m_M, μ_3 = st μ_2 v0 48 0 → (kd ε v0 = 11) ∧ (0 = 0 ∨ 0 = 1) ∧ ∀ μ_4 : m_M, μ_4 = st μ_3 v0 49 0 → ∀ v1 : Int, v1 = 0 → G cd_X12_isSafe Q X 22 [(0, (2, v0)), (1, (0, v1))] [] ε μ_4
  intro hty
  replace h := h hty.1 
  obtain ⟨k1, h⟩ := h
  refine And.intro k1 ?_
  intro μ_1 e_μ_1
  replace h := h μ_1 e_μ_1
  refine And.intro k1 ?_
  refine And.intro (Or.inl rfl) ?_
  intro μ_2 e_μ_2
  replace h := h μ_2 e_μ_2
  refine And.intro k1 ?_
  refine And.intro (Or.inl rfl) ?_
  intro μ_3 e_μ_3
  replace h := h μ_3 e_μ_3
  refine And.intro k1 ?_
  refine And.intro (Or.inl rfl) ?_
  intro μ_4 e_μ_4
  replace h := h μ_4 e_μ_4
  intro v1 e_v1
  replace h := h v1 e_v1
  exact h
theorem e_X12_isSafe {Q X : m_Po} {v0 : Int} {ε : m_E} {μ : m_M} (h : TY ε μ → kd ε v0 = 11 ∧ ∀ μ_1 : m_M, μ_1 = st μ v0 42 0 → ∀ μ_2 : m_M, μ_2 = st μ_1 v0 43 0 → ∀ μ_3 : m_M, μ_3 = st μ_2 v0 48 0 → ∀ μ_4 : m_M, μ_4 = st μ_3 v0 49 0 → ∀ v1 : Int, v1 = 0 → G cd_X12_isSafe Q X 22 [(0, (2, v0)), (1, (0, v1))] [] ε μ_4) : o_X12_isSafe [(2, v0)] ε μ Q X := And.intro rfl (g_X12_isSafe_0 h)
