/-! ArchYardModel.worth(IJJ)V -/
set_option maxRecDepth 20000 in
theorem g_X12_worth_21 {Q X : m_Po} {ε : m_E} {μ : m_M} (h : TY ε μ → Q 0 ε μ) : G cd_X12_worth Q X 21 [] [] ε μ := by
  refine G_run (m_in [10, 21]) 4 _ _ _ _ ?_
  show m_ty [] [] ε μ → Q 0 ε μ
  intro hty
  replace h := h hty.1 
  exact h
set_option maxRecDepth 20000 in
theorem g_X12_worth_10 {Q X : m_Po} {v0 v1 v4 : Int} {ε : m_E} {μ : m_M} (h : TY ε μ → i32 v1 → i64 v4 → kd ε v0 = 11 ∧ kd ε (fn ε v0 51) = 107 ∧ (0 : Int) ≤ v1 ∧ v1 < ln ε (fn ε v0 51) ∧ kd ε (μ (fn ε v0 51) v1) = 10 ∧ o_X11_set [(2, μ (fn ε v0 51) v1), (1, v4)] ε μ (fun z ε_1 μ_1 => G cd_X12_worth Q X 21 [] [] ε_1 μ_1) m_F) : G cd_X12_worth Q X 10 [(0, (2, v0)), (1, (0, v1)), (4, (1, v4))] [] ε μ := by
  refine G_run (m_in [10, 21]) 4 _ _ _ _ ?_
  show m_ty [(0, (2, v0)), (1, (0, v1)), (4, (1, v4))] [] ε μ → (kd ε v0 = 11) ∧ (kd ε (fn ε v0 51) = 107) ∧ ((0 : Int) ≤ v1 ∧ v1 < ln ε (fn ε v0 51)) ∧ (kd ε (μ (fn ε v0 51) v1) = 10) ∧ o_X11_set [(2, μ (fn ε v0 51) v1), (1, v4)] ε μ (fun z ε_1 μ_1 => G cd_X12_worth Q X 21 [] [] ε_1 μ_1) m_F
  intro hty
  replace h := h hty.1 (hty.2.1 _ (List.mem_of_getElem? (i := 1) rfl)) (hty.2.1 _ (List.mem_of_getElem? (i := 2) rfl))
  obtain ⟨k1, h⟩ := h
  refine And.intro k1 ?_
  obtain ⟨k2, h⟩ := h
  refine And.intro k2 ?_
  obtain ⟨k3, h⟩ := h
  obtain ⟨k4, h⟩ := h
  refine And.intro (And.intro k3 k4) ?_
  obtain ⟨k5, h⟩ := h
  refine And.intro k5 ?_
  exact h
set_option maxRecDepth 20000 in
theorem g_X12_worth_0 {Q X : m_Po} {v0 v1 v2 v4 : Int} {ε : m_E} {μ : m_M} (h : TY ε μ → i32 v1 → i64 v2 → i64 v4 → kd ε v0 = 11 ∧ kd ε (fn ε v0 50) = 107 ∧ (0 : Int) ≤ v1 ∧ v1 < ln ε (fn ε v0 50) ∧ kd ε (μ (fn ε v0 50) v1) = 10 ∧ o_X11_set [(2, μ (fn ε v0 50) v1), (1, v2)] ε μ (fun z ε_1 μ_1 => G cd_X12_worth Q X 10 [(0, (2, v0)), (1, (0, v1)), (4, (1, v4))] [] ε_1 μ_1) m_F) : G cd_X12_worth Q X 0 [(0, (2, v0)), (1, (0, v1)), (2, (1, v2)), (4, (1, v4))] [] ε μ := by
  refine G_run (m_in [10, 21]) 4 _ _ _ _ ?_
  show m_ty [(0, (2, v0)), (1, (0, v1)), (2, (1, v2)), (4, (1, v4))] [] ε μ → (kd ε v0 = 11) ∧ (kd ε (fn ε v0 50) = 107) ∧ ((0 : Int) ≤ v1 ∧ v1 < ln ε (fn ε v0 50)) ∧ (kd ε (μ (fn ε v0 50) v1) = 10) ∧ o_X11_set [(2, μ (fn ε v0 50) v1), (1, v2)] ε μ (fun z ε_1 μ_1 => G cd_X12_worth Q X 10 [(0, (2, v0)), (1, (0, v1)), (4, (1, v4))] [] ε_1 μ_1) m_F
  intro hty
  replace h := h hty.1 (hty.2.1 _ (List.mem_of_getElem? (i := 1) rfl)) (hty.2.1 _ (List.mem_of_getElem? (i := 2) rfl)) (hty.2.1 _ (List.mem_of_getElem? (i := 3) rfl))
  obtain ⟨k1, h⟩ := h
  refine And.intro k1 ?_
  obtain ⟨k2, h⟩ := h
  refine And.intro k2 ?_
  obtain ⟨k3, h⟩ := h
  obtain ⟨k4, h⟩ := h
  refine And.intro (And.intro k3 k4) ?_
  obtain ⟨k5, h⟩ := h
  refine And.intro k5 ?_
  exact h
theorem e_X12_worth {Q X : m_Po} {v0 v1 v2 v4 : Int} {ε : m_E} {μ : m_M} (h : TY ε μ → i32 v1 → i64 v2 → i64 v4 → kd ε v0 = 11 ∧ kd ε (fn ε v0 50) = 107 ∧ (0 : Int) ≤ v1 ∧ v1 < ln ε (fn ε v0 50) ∧ kd ε (μ (fn ε v0 50) v1) = 10 ∧ o_X11_set [(2, μ (fn ε v0 50) v1), (1, v2)] ε μ (fun z ε_1 μ_1 => G cd_X12_worth Q X 10 [(0, (2, v0)), (1, (0, v1)), (4, (1, v4))] [] ε_1 μ_1) m_F) : o_X12_worth [(2, v0), (0, v1), (1, v2), (1, v4)] ε μ Q X := And.intro rfl (g_X12_worth_0 h)
/-! ArchYardModel.isAbove(LArchYardModel$Big;LArchYardModel$Big;LArchYardModel$Big;LArchYardModel$Big;)Z -/
set_option maxRecDepth 20000 in
theorem g_X12_isAbove_48 {Q X : m_Po} {t : Int} {ε : m_E} {μ : m_M} (h : TY ε μ → i32 t → (t = 0 ∨ t = 1) ∧ Q t ε μ) : G cd_X12_isAbove Q X 48 [] [(0, t)] ε μ := by
  refine G_run (m_in [12, 24, 40, 48]) 8 _ _ _ _ ?_
  show m_ty [] [(0, t)] ε μ → (t = 0 ∨ t = 1) ∧ Q t ε μ
  intro hty
  replace h := h hty.1 (hty.2.2 _ (List.mem_of_getElem? (i := 0) rfl))
  obtain ⟨k1, h⟩ := h
  refine And.intro k1 ?_
  exact h
set_option maxRecDepth 20000 in
theorem g_X12_isAbove_40 {Q X : m_Po} {t : Int} {ε : m_E} {μ : m_M} (h : TY ε μ → i32 t → ∀ t_1 : Int, t_1 = (if t ≤ 0 then 0 else 1) → Q t_1 ε μ) : G cd_X12_isAbove Q X 40 [] [(0, t)] ε μ := by
  refine G_run (m_in [12, 24, 40, 48]) 8 _ _ _ _ ?_
  show m_ty [] [(0, t)] ε μ → (t ≤ 0 → (m_ty [] [] ε μ → G cd_X12_isAbove Q X 48 [] [(0, 0)] ε μ)) ∧ (0 < t → (m_ty [] [] ε μ → G cd_X12_isAbove Q X 48 [] [(0, 1)] ε μ))
  intro hty
  replace h := h hty.1 (hty.2.2 _ (List.mem_of_getElem? (i := 0) rfl))
  have hj := h
  refine And.intro (fun c0 => ?_) (fun c0 => ?_)
  · intro _
    exact g_X12_isAbove_48 (fun _ _ => (And.intro (Or.inl rfl) (hj _ (((if_pos c0).trans rfl)).symm)))
  · intro _
    exact g_X12_isAbove_48 (fun _ _ => (And.intro (Or.inr rfl) (hj _ (((if_neg (Int.not_le.mpr c0)).trans rfl)).symm)))
set_option maxRecDepth 20000 in
theorem g_X12_isAbove_24 {Q X : m_Po} {v0 : Int} {ε : m_E} {μ : m_M} (h : TY ε μ → kd ε v0 = 11 ∧ kd ε (fn ε v0 52) = 107 ∧ 5 < ln ε (fn ε v0 52) ∧ 6 < ln ε (fn ε v0 52) ∧ kd ε (μ (fn ε v0 52) 5) = 10 ∧ o_X11_compare [(2, μ (fn ε v0 52) 5), (2, μ (fn ε v0 52) 6)] ε μ (fun z ε_1 μ_1 => G cd_X12_isAbove Q X 40 [] [(0, z)] ε_1 μ_1) m_F) : G cd_X12_isAbove Q X 24 [(0, (2, v0))] [] ε μ := by
  refine G_run (m_in [12, 24, 40, 48]) 8 _ _ _ _ ?_
  show m_ty [(0, (2, v0))] [] ε μ → (kd ε v0 = 11) ∧ (kd ε (fn ε v0 52) = 107) ∧ ((0 : Int) ≤ 5 ∧ 5 < ln ε (fn ε v0 52)) ∧ (kd ε v0 = 11) ∧ (kd ε (fn ε v0 52) = 107) ∧ ((0 : Int) ≤ 6 ∧ 6 < ln ε (fn ε v0 52)) ∧ (kd ε (μ (fn ε v0 52) 5) = 10) ∧ o_X11_compare [(2, μ (fn ε v0 52) 5), (2, μ (fn ε v0 52) 6)] ε μ (fun z ε_1 μ_1 => G cd_X12_isAbove Q X 40 [] [(0, z)] ε_1 μ_1) m_F
  intro hty
  replace h := h hty.1 
  obtain ⟨k1, h⟩ := h
  refine And.intro k1 ?_
  obtain ⟨k2, h⟩ := h
  refine And.intro k2 ?_
  obtain ⟨k3, h⟩ := h
  refine And.intro (And.intro (by decide) k3) ?_
  refine And.intro k1 ?_
  refine And.intro k2 ?_
  obtain ⟨k4, h⟩ := h
  refine And.intro (And.intro (by decide) k4) ?_
  obtain ⟨k5, h⟩ := h
  refine And.intro k5 ?_
  exact h
set_option maxRecDepth 20000 in
theorem g_X12_isAbove_12 {Q X : m_Po} {v0 v2 v3 : Int} {ε : m_E} {μ : m_M} (h : TY ε μ → kd ε v0 = 11 ∧ kd ε (fn ε v0 52) = 107 ∧ 6 < ln ε (fn ε v0 52) ∧ kd ε (μ (fn ε v0 52) 6) = 10 ∧ o_X11_product [(2, μ (fn ε v0 52) 6), (2, v3), (2, v2)] ε μ (fun z ε_1 μ_1 => G cd_X12_isAbove Q X 24 [(0, (2, v0))] [] ε_1 μ_1) m_F) : G cd_X12_isAbove Q X 12 [(0, (2, v0)), (2, (2, v2)), (3, (2, v3))] [] ε μ := by
  refine G_run (m_in [12, 24, 40, 48]) 8 _ _ _ _ ?_
  show m_ty [(0, (2, v0)), (2, (2, v2)), (3, (2, v3))] [] ε μ → (kd ε v0 = 11) ∧ (kd ε (fn ε v0 52) = 107) ∧ ((0 : Int) ≤ 6 ∧ 6 < ln ε (fn ε v0 52)) ∧ (kd ε (μ (fn ε v0 52) 6) = 10) ∧ o_X11_product [(2, μ (fn ε v0 52) 6), (2, v3), (2, v2)] ε μ (fun z ε_1 μ_1 => G cd_X12_isAbove Q X 24 [(0, (2, v0))] [] ε_1 μ_1) m_F
  intro hty
  replace h := h hty.1 
  obtain ⟨k1, h⟩ := h
  refine And.intro k1 ?_
  obtain ⟨k2, h⟩ := h
  refine And.intro k2 ?_
  obtain ⟨k3, h⟩ := h
  refine And.intro (And.intro (by decide) k3) ?_
  obtain ⟨k4, h⟩ := h
  refine And.intro k4 ?_
  exact h
set_option maxRecDepth 20000 in
theorem g_X12_isAbove_0 {Q X : m_Po} {v0 v1 v2 v3 v4 : Int} {ε : m_E} {μ : m_M} (h : TY ε μ → kd ε v0 = 11 ∧ kd ε (fn ε v0 52) = 107 ∧ 5 < ln ε (fn ε v0 52) ∧ kd ε (μ (fn ε v0 52) 5) = 10 ∧ o_X11_product [(2, μ (fn ε v0 52) 5), (2, v1), (2, v4)] ε μ (fun z ε_1 μ_1 => G cd_X12_isAbove Q X 12 [(0, (2, v0)), (2, (2, v2)), (3, (2, v3))] [] ε_1 μ_1) m_F) : G cd_X12_isAbove Q X 0 [(0, (2, v0)), (1, (2, v1)), (2, (2, v2)), (3, (2, v3)), (4, (2, v4))] [] ε μ := by
  refine G_run (m_in [12, 24, 40, 48]) 8 _ _ _ _ ?_
  show m_ty [(0, (2, v0)), (1, (2, v1)), (2, (2, v2)), (3, (2, v3)), (4, (2, v4))] [] ε μ → (kd ε v0 = 11) ∧ (kd ε (fn ε v0 52) = 107) ∧ ((0 : Int) ≤ 5 ∧ 5 < ln ε (fn ε v0 52)) ∧ (kd ε (μ (fn ε v0 52) 5) = 10) ∧ o_X11_product [(2, μ (fn ε v0 52) 5), (2, v1), (2, v4)] ε μ (fun z ε_1 μ_1 => G cd_X12_isAbove Q X 12 [(0, (2, v0)), (2, (2, v2)), (3, (2, v3))] [] ε_1 μ_1) m_F
  intro hty
  replace h := h hty.1 
  obtain ⟨k1, h⟩ := h
  refine And.intro k1 ?_
  obtain ⟨k2, h⟩ := h
  refine And.intro k2 ?_
  obtain ⟨k3, h⟩ := h
  refine And.intro (And.intro (by decide) k3) ?_
  obtain ⟨k4, h⟩ := h
  refine And.intro k4 ?_
  exact h
theorem e_X12_isAbove {Q X : m_Po} {v0 v1 v2 v3 v4 : Int} {ε : m_E} {μ : m_M} (h : TY ε μ → kd ε v0 = 11 ∧ kd ε (fn ε v0 52) = 107 ∧ 5 < ln ε (fn ε v0 52) ∧ kd ε (μ (fn ε v0 52) 5) = 10 ∧ o_X11_product [(2, μ (fn ε v0 52) 5), (2, v1), (2, v4)] ε μ (fun z ε_1 μ_1 => G cd_X12_isAbove Q X 12 [(0, (2, v0)), (2, (2, v2)), (3, (2, v3))] [] ε_1 μ_1) m_F) : o_X12_isAbove [(2, v0), (2, v1), (2, v2), (2, v3), (2, v4)] ε μ Q X := And.intro rfl (g_X12_isAbove_0 h)
/-! ArchYardModel.leastV(I)V -/
set_option maxRecDepth 20000 in
theorem g_X12_leastV_256 {Q X : m_Po} {v0 v1 v2 v3 : Int} {ε : m_E} {μ : m_M} (h : TY ε μ → i32 v1 → i32 v2 → i32 v3 → ∀ v3_1 : Int, v3_1 = w32 (v3 + 1) → G cd_X12_leastV Q X 4 [(0, (2, v0)), (1, (0, v1)), (2, (0, v2)), (3, (0, v3_1))] [] ε μ) : G cd_X12_leastV Q X 256 [(0, (2, v0)), (1, (0, v1)), (2, (0, v2)), (3, (0, v3))] [] ε μ := by
  refine G_run (m_in [4, 42, 63, 79, 100, 122, 137, 158, 194, 200, 217, 234, 254, 256]) 22 _ _ _ _ ?_
  show m_ty [(0, (2, v0)), (1, (0, v1)), (2, (0, v2)), (3, (0, v3))] [] ε μ → ∀ v3_1 : Int, v3_1 = w32 (v3 + 1) → G cd_X12_leastV Q X 4 [(0, (2, v0)), (1, (0, v1)), (2, (0, v2)), (3, (0, v3_1))] [] ε μ
  intro hty
  replace h := h hty.1 (hty.2.1 _ (List.mem_of_getElem? (i := 1) rfl)) (hty.2.1 _ (List.mem_of_getElem? (i := 2) rfl)) (hty.2.1 _ (List.mem_of_getElem? (i := 3) rfl))
  intro v3_1 e_v3_1
  replace h := h v3_1 e_v3_1
  exact h
set_option maxRecDepth 20000 in
theorem g_X12_leastV_254 {Q X : m_Po} {v0 v1 v3 : Int} {ε : m_E} {μ : m_M} (h : TY ε μ → i32 v1 → i32 v3 → ∀ v2 : Int, v2 = 1 → G cd_X12_leastV Q X 256 [(0, (2, v0)), (1, (0, v1)), (2, (0, v2)), (3, (0, v3))] [] ε μ) : G cd_X12_leastV Q X 254 [(0, (2, v0)), (1, (0, v1)), (3, (0, v3))] [] ε μ := by
  refine G_run (m_in [4, 42, 63, 79, 100, 122, 137, 158, 194, 200, 217, 234, 254, 256]) 22 _ _ _ _ ?_
  show m_ty [(0, (2, v0)), (1, (0, v1)), (3, (0, v3))] [] ε μ → ∀ v2 : Int, v2 = 1 → G cd_X12_leastV Q X 256 [(0, (2, v0)), (1, (0, v1)), (2, (0, v2)), (3, (0, v3))] [] ε μ
  intro hty
  replace h := h hty.1 (hty.2.1 _ (List.mem_of_getElem? (i := 1) rfl)) (hty.2.1 _ (List.mem_of_getElem? (i := 2) rfl))
  intro v2 e_v2
  replace h := h v2 e_v2
  exact h
set_option maxRecDepth 20000 in
theorem g_X12_leastV_234 {Q X : m_Po} {v0 v1 v3 : Int} {ε : m_E} {μ : m_M} (h : TY ε μ → i32 v1 → i32 v3 → kd ε v0 = 11 ∧ kd ε (fn ε v0 50) = 107 ∧ (0 : Int) ≤ w32 (v1 + 1) ∧ w32 (v1 + 1) < ln ε (fn ε v0 50) ∧ kd ε (fn ε v0 51) = 107 ∧ w32 (v1 + 1) < ln ε (fn ε v0 51) ∧ o_X12_lowest [(2, v0), (2, μ (fn ε v0 50) (w32 (v1 + 1))), (2, μ (fn ε v0 51) (w32 (v1 + 1)))] ε μ (fun z ε_1 μ_1 => G cd_X12_leastV Q X 254 [(0, (2, v0)), (1, (0, v1)), (3, (0, v3))] [] ε_1 μ_1) m_F) : G cd_X12_leastV Q X 234 [(0, (2, v0)), (1, (0, v1)), (3, (0, v3))] [] ε μ := by
  refine G_run (m_in [4, 42, 63, 79, 100, 122, 137, 158, 194, 200, 217, 234, 254, 256]) 22 _ _ _ _ ?_
  show m_ty [(0, (2, v0)), (1, (0, v1)), (3, (0, v3))] [] ε μ → (kd ε v0 = 11) ∧ (kd ε (fn ε v0 50) = 107) ∧ ((0 : Int) ≤ w32 (v1 + 1) ∧ w32 (v1 + 1) < ln ε (fn ε v0 50)) ∧ (kd ε v0 = 11) ∧ (kd ε (fn ε v0 51) = 107) ∧ ((0 : Int) ≤ w32 (v1 + 1) ∧ w32 (v1 + 1) < ln ε (fn ε v0 51)) ∧ (kd ε v0 = 11) ∧ o_X12_lowest [(2, v0), (2, μ (fn ε v0 50) (w32 (v1 + 1))), (2, μ (fn ε v0 51) (w32 (v1 + 1)))] ε μ (fun z ε_1 μ_1 => G cd_X12_leastV Q X 254 [(0, (2, v0)), (1, (0, v1)), (3, (0, v3))] [] ε_1 μ_1) m_F
  intro hty
  replace h := h hty.1 (hty.2.1 _ (List.mem_of_getElem? (i := 1) rfl)) (hty.2.1 _ (List.mem_of_getElem? (i := 2) rfl))
  obtain ⟨k1, h⟩ := h
  refine And.intro k1 ?_
  obtain ⟨k2, h⟩ := h
  refine And.intro k2 ?_
  obtain ⟨k3, h⟩ := h
  obtain ⟨k4, h⟩ := h
  refine And.intro (And.intro k3 k4) ?_
  refine And.intro k1 ?_
  obtain ⟨k5, h⟩ := h
  refine And.intro k5 ?_
  obtain ⟨k6, h⟩ := h
  refine And.intro (And.intro k3 k6) ?_
  refine And.intro k1 ?_
  exact h
set_option maxRecDepth 20000 in
theorem g_X12_leastV_217 {Q X : m_Po} {v0 v1 v3 : Int} {ε : m_E} {μ : m_M} (h : TY ε μ → i32 v1 → i32 v3 → kd ε v0 = 11 ∧ kd ε (fn ε v0 51) = 107 ∧ (0 : Int) ≤ w32 (v1 + 1) ∧ w32 (v1 + 1) < ln ε (fn ε v0 51) ∧ kd ε (fn ε v0 52) = 107 ∧ 2 < ln ε (fn ε v0 52) ∧ kd ε (μ (fn ε v0 51) (w32 (v1 + 1))) = 10 ∧ o_X11_take [(2, μ (fn ε v0 51) (w32 (v1 + 1))), (2, μ (fn ε v0 52) 2)] ε μ (fun z ε_1 μ_1 => G cd_X12_leastV Q X 234 [(0, (2, v0)), (1, (0, v1)), (3, (0, v3))] [] ε_1 μ_1) m_F) : G cd_X12_leastV Q X 217 [(0, (2, v0)), (1, (0, v1)), (3, (0, v3))] [] ε μ := by
  refine G_run (m_in [4, 42, 63, 79, 100, 122, 137, 158, 194, 200, 217, 234, 254, 256]) 22 _ _ _ _ ?_
  show m_ty [(0, (2, v0)), (1, (0, v1)), (3, (0, v3))] [] ε μ → (kd ε v0 = 11) ∧ (kd ε (fn ε v0 51) = 107) ∧ ((0 : Int) ≤ w32 (v1 + 1) ∧ w32 (v1 + 1) < ln ε (fn ε v0 51)) ∧ (kd ε v0 = 11) ∧ (kd ε (fn ε v0 52) = 107) ∧ ((0 : Int) ≤ 2 ∧ 2 < ln ε (fn ε v0 52)) ∧ (kd ε (μ (fn ε v0 51) (w32 (v1 + 1))) = 10) ∧ o_X11_take [(2, μ (fn ε v0 51) (w32 (v1 + 1))), (2, μ (fn ε v0 52) 2)] ε μ (fun z ε_1 μ_1 => G cd_X12_leastV Q X 234 [(0, (2, v0)), (1, (0, v1)), (3, (0, v3))] [] ε_1 μ_1) m_F
  intro hty
  replace h := h hty.1 (hty.2.1 _ (List.mem_of_getElem? (i := 1) rfl)) (hty.2.1 _ (List.mem_of_getElem? (i := 2) rfl))
  obtain ⟨k1, h⟩ := h
  refine And.intro k1 ?_
  obtain ⟨k2, h⟩ := h
  refine And.intro k2 ?_
  obtain ⟨k3, h⟩ := h
  obtain ⟨k4, h⟩ := h
  refine And.intro (And.intro k3 k4) ?_
  refine And.intro k1 ?_
  obtain ⟨k5, h⟩ := h
  refine And.intro k5 ?_
  obtain ⟨k6, h⟩ := h
  refine And.intro (And.intro (by decide) k6) ?_
  obtain ⟨k7, h⟩ := h
  refine And.intro k7 ?_
  exact h
set_option maxRecDepth 20000 in
theorem g_X12_leastV_200 {Q X : m_Po} {v0 v1 v3 : Int} {ε : m_E} {μ : m_M} (h : TY ε μ → i32 v1 → i32 v3 → kd ε v0 = 11 ∧ kd ε (fn ε v0 50) = 107 ∧ (0 : Int) ≤ w32 (v1 + 1) ∧ w32 (v1 + 1) < ln ε (fn ε v0 50) ∧ kd ε (fn ε v0 52) = 107 ∧ 1 < ln ε (fn ε v0 52) ∧ kd ε (μ (fn ε v0 50) (w32 (v1 + 1))) = 10 ∧ o_X11_take [(2, μ (fn ε v0 50) (w32 (v1 + 1))), (2, μ (fn ε v0 52) 1)] ε μ (fun z ε_1 μ_1 => G cd_X12_leastV Q X 217 [(0, (2, v0)), (1, (0, v1)), (3, (0, v3))] [] ε_1 μ_1) m_F) : G cd_X12_leastV Q X 200 [(0, (2, v0)), (1, (0, v1)), (3, (0, v3))] [] ε μ := by
  refine G_run (m_in [4, 42, 63, 79, 100, 122, 137, 158, 194, 200, 217, 234, 254, 256]) 22 _ _ _ _ ?_
  show m_ty [(0, (2, v0)), (1, (0, v1)), (3, (0, v3))] [] ε μ → (kd ε v0 = 11) ∧ (kd ε (fn ε v0 50) = 107) ∧ ((0 : Int) ≤ w32 (v1 + 1) ∧ w32 (v1 + 1) < ln ε (fn ε v0 50)) ∧ (kd ε v0 = 11) ∧ (kd ε (fn ε v0 52) = 107) ∧ ((0 : Int) ≤ 1 ∧ 1 < ln ε (fn ε v0 52)) ∧ (kd ε (μ (fn ε v0 50) (w32 (v1 + 1))) = 10) ∧ o_X11_take [(2, μ (fn ε v0 50) (w32 (v1 + 1))), (2, μ (fn ε v0 52) 1)] ε μ (fun z ε_1 μ_1 => G cd_X12_leastV Q X 217 [(0, (2, v0)), (1, (0, v1)), (3, (0, v3))] [] ε_1 μ_1) m_F
  intro hty
  replace h := h hty.1 (hty.2.1 _ (List.mem_of_getElem? (i := 1) rfl)) (hty.2.1 _ (List.mem_of_getElem? (i := 2) rfl))
  obtain ⟨k1, h⟩ := h
  refine And.intro k1 ?_
  obtain ⟨k2, h⟩ := h
  refine And.intro k2 ?_
  obtain ⟨k3, h⟩ := h
  obtain ⟨k4, h⟩ := h
  refine And.intro (And.intro k3 k4) ?_
  refine And.intro k1 ?_
  obtain ⟨k5, h⟩ := h
  refine And.intro k5 ?_
  obtain ⟨k6, h⟩ := h
  refine And.intro (And.intro (by decide) k6) ?_
  obtain ⟨k7, h⟩ := h
  refine And.intro k7 ?_
  exact h
set_option maxRecDepth 20000 in
theorem g_X12_leastV_194 {Q X : m_Po} {v0 v1 v2 v3 t : Int} {ε : m_E} {μ : m_M} (h : TY ε μ → i32 v1 → i32 v2 → i32 v3 → i32 t → (t ≠ 0 → G cd_X12_leastV Q X 200 [(0, (2, v0)), (1, (0, v1)), (3, (0, v3))] [] ε μ) ∧ (t = 0 → G cd_X12_leastV Q X 256 [(0, (2, v0)), (1, (0, v1)), (2, (0, v2)), (3, (0, v3))] [] ε μ)) : G cd_X12_leastV Q X 194 [(0, (2, v0)), (1, (0, v1)), (2, (0, v2)), (3, (0, v3))] [(0, t)] ε μ := by
  refine G_run (m_in [4, 42, 63, 79, 100, 122, 137, 158, 194, 200, 217, 234, 254, 256]) 22 _ _ _ _ ?_
  show m_ty [(0, (2, v0)), (1, (0, v1)), (2, (0, v2)), (3, (0, v3))] [(0, t)] ε μ → (t ≠ 0 → G cd_X12_leastV Q X 200 [(0, (2, v0)), (1, (0, v1)), (3, (0, v3))] [] ε μ) ∧ (t = 0 → (m_ty [(0, (2, v0)), (1, (0, v1)), (2, (0, v2)), (3, (0, v3))] [] ε μ → G cd_X12_leastV Q X 256 [(0, (2, v0)), (1, (0, v1)), (2, (0, v2)), (3, (0, v3))] [] ε μ))
  intro hty
  replace h := h hty.1 (hty.2.1 _ (List.mem_of_getElem? (i := 1) rfl)) (hty.2.1 _ (List.mem_of_getElem? (i := 2) rfl)) (hty.2.1 _ (List.mem_of_getElem? (i := 3) rfl)) (hty.2.2 _ (List.mem_of_getElem? (i := 0) rfl))
  obtain ⟨ha, hb⟩ := h
  refine And.intro (fun c0 => ?_) (fun c0 => ?_)
  · replace h := ha c0
    clear ha hb
    exact h
  · replace h := hb c0
    clear ha hb
    intro _
    exact h
set_option maxRecDepth 20000 in
theorem g_X12_leastV_158 {Q X : m_Po} {v0 v1 v2 v3 : Int} {ε : m_E} {μ : m_M} (h : TY ε μ → i32 v1 → i32 v2 → i32 v3 → (v2 = 0 → G cd_X12_leastV Q X 200 [(0, (2, v0)), (1, (0, v1)), (3, (0, v3))] [] ε μ) ∧ (v2 ≠ 0 → kd ε v0 = 11 ∧ kd ε (fn ε v0 52) = 107 ∧ 1 < ln ε (fn ε v0 52) ∧ 2 < ln ε (fn ε v0 52) ∧ kd ε (fn ε v0 50) = 107 ∧ (0 : Int) ≤ w32 (v1 + 1) ∧ w32 (v1 + 1) < ln ε (fn ε v0 50) ∧ kd ε (fn ε v0 51) = 107 ∧ w32 (v1 + 1) < ln ε (fn ε v0 51) ∧ o_X12_isAbove [(2, v0), (2, μ (fn ε v0 52) 1), (2, μ (fn ε v0 52) 2), (2, μ (fn ε v0 50) (w32 (v1 + 1))), (2, μ (fn ε v0 51) (w32 (v1 + 1)))] ε μ (fun z ε_1 μ_1 => G cd_X12_leastV Q X 194 [(0, (2, v0)), (1, (0, v1)), (2, (0, v2)), (3, (0, v3))] [(0, z)] ε_1 μ_1) m_F)) : G cd_X12_leastV Q X 158 [(0, (2, v0)), (1, (0, v1)), (2, (0, v2)), (3, (0, v3))] [] ε μ := by
  refine G_run (m_in [4, 42, 63, 79, 100, 122, 137, 158, 194, 200, 217, 234, 254, 256]) 22 _ _ _ _ ?_
  show m_ty [(0, (2, v0)), (1, (0, v1)), (2, (0, v2)), (3, (0, v3))] [] ε μ → (v2 = 0 → G cd_X12_leastV Q X 200 [(0, (2, v0)), (1, (0, v1)), (3, (0, v3))] [] ε μ) ∧ (v2 ≠ 0 → (m_ty [(0, (2, v0)), (1, (0, v1)), (2, (0, v2)), (3, (0, v3))] [] ε μ → (kd ε v0 = 11) ∧ (kd ε (fn ε v0 52) = 107) ∧ ((0 : Int) ≤ 1 ∧ 1 < ln ε (fn ε v0 52)) ∧ (kd ε v0 = 11) ∧ (kd ε (fn ε v0 52) = 107) ∧ ((0 : Int) ≤ 2 ∧ 2 < ln ε (fn ε v0 52)) ∧ (kd ε v0 = 11) ∧ (kd ε (fn ε v0 50) = 107) ∧ ((0 : Int) ≤ w32 (v1 + 1) ∧ w32 (v1 + 1) < ln ε (fn ε v0 50)) ∧ (kd ε v0 = 11) ∧ (kd ε (fn ε v0 51) = 107) ∧ ((0 : Int) ≤ w32 (v1 + 1) ∧ w32 (v1 + 1) < ln ε (fn ε v0 51)) ∧ (kd ε v0 = 11) ∧ o_X12_isAbove [(2, v0), (2, μ (fn ε v0 52) 1), (2, μ (fn ε v0 52) 2), (2, μ (fn ε v0 50) (w32 (v1 + 1))), (2, μ (fn ε v0 51) (w32 (v1 + 1)))] ε μ (fun z ε_1 μ_1 => G cd_X12_leastV Q X 194 [(0, (2, v0)), (1, (0, v1)), (2, (0, v2)), (3, (0, v3))] [(0, z)] ε_1 μ_1) m_F))
  intro hty
  replace h := h hty.1 (hty.2.1 _ (List.mem_of_getElem? (i := 1) rfl)) (hty.2.1 _ (List.mem_of_getElem? (i := 2) rfl)) (hty.2.1 _ (List.mem_of_getElem? (i := 3) rfl))
  obtain ⟨ha, hb⟩ := h
  refine And.intro (fun c9 => ?_) (fun c9 => ?_)
  · replace h := ha c9
    clear ha hb
    exact h
  · replace h := hb c9
    clear ha hb
    intro _
    obtain ⟨k1, h⟩ := h
    refine And.intro k1 ?_
    obtain ⟨k2, h⟩ := h
    refine And.intro k2 ?_
    obtain ⟨k3, h⟩ := h
    refine And.intro (And.intro (by decide) k3) ?_
    refine And.intro k1 ?_
    refine And.intro k2 ?_
    obtain ⟨k4, h⟩ := h
    refine And.intro (And.intro (by decide) k4) ?_
    refine And.intro k1 ?_
    obtain ⟨k5, h⟩ := h
    refine And.intro k5 ?_
    obtain ⟨k6, h⟩ := h
    obtain ⟨k7, h⟩ := h
    refine And.intro (And.intro k6 k7) ?_
    refine And.intro k1 ?_
    obtain ⟨k8, h⟩ := h
    refine And.intro k8 ?_
    obtain ⟨k9, h⟩ := h
    refine And.intro (And.intro k6 k9) ?_
    refine And.intro k1 ?_
    exact h
set_option maxRecDepth 20000 in
theorem g_X12_leastV_137 {Q X : m_Po} {v0 v1 v2 v3 : Int} {ε : m_E} {μ : m_M} (h : TY ε μ → i32 v1 → i32 v2 → i32 v3 → kd ε v0 = 11 ∧ kd ε (fn ε v0 52) = 107 ∧ 2 < ln ε (fn ε v0 52) ∧ 0 < ln ε (fn ε v0 52) ∧ kd ε (fn ε v0 51) = 107 ∧ (0 : Int) ≤ v1 ∧ v1 < ln ε (fn ε v0 51) ∧ kd ε (μ (fn ε v0 52) 2) = 10 ∧ o_X11_product [(2, μ (fn ε v0 52) 2), (2, μ (fn ε v0 52) 0), (2, μ (fn ε v0 51) v1)] ε μ (fun z ε_1 μ_1 => G cd_X12_leastV Q X 158 [(0, (2, v0)), (1, (0, v1)), (2, (0, v2)), (3, (0, v3))] [] ε_1 μ_1) m_F) : G cd_X12_leastV Q X 137 [(0, (2, v0)), (1, (0, v1)), (2, (0, v2)), (3, (0, v3))] [] ε μ := by
  refine G_run (m_in [4, 42, 63, 79, 100, 122, 137, 158, 194, 200, 217, 234, 254, 256]) 22 _ _ _ _ ?_
  show m_ty [(0, (2, v0)), (1, (0, v1)), (2, (0, v2)), (3, (0, v3))] [] ε μ → (kd ε v0 = 11) ∧ (kd ε (fn ε v0 52) = 107) ∧ ((0 : Int) ≤ 2 ∧ 2 < ln ε (fn ε v0 52)) ∧ (kd ε v0 = 11) ∧ (kd ε (fn ε v0 52) = 107) ∧ ((0 : Int) ≤ 0 ∧ 0 < ln ε (fn ε v0 52)) ∧ (kd ε v0 = 11) ∧ (kd ε (fn ε v0 51) = 107) ∧ ((0 : Int) ≤ v1 ∧ v1 < ln ε (fn ε v0 51)) ∧ (kd ε (μ (fn ε v0 52) 2) = 10) ∧ o_X11_product [(2, μ (fn ε v0 52) 2), (2, μ (fn ε v0 52) 0), (2, μ (fn ε v0 51) v1)] ε μ (fun z ε_1 μ_1 => G cd_X12_leastV Q X 158 [(0, (2, v0)), (1, (0, v1)), (2, (0, v2)), (3, (0, v3))] [] ε_1 μ_1) m_F
  intro hty
  replace h := h hty.1 (hty.2.1 _ (List.mem_of_getElem? (i := 1) rfl)) (hty.2.1 _ (List.mem_of_getElem? (i := 2) rfl)) (hty.2.1 _ (List.mem_of_getElem? (i := 3) rfl))
  obtain ⟨k1, h⟩ := h
  refine And.intro k1 ?_
  obtain ⟨k2, h⟩ := h
  refine And.intro k2 ?_
  obtain ⟨k3, h⟩ := h
  refine And.intro (And.intro (by decide) k3) ?_
  refine And.intro k1 ?_
  refine And.intro k2 ?_
  obtain ⟨k4, h⟩ := h
  refine And.intro (And.intro (by decide) k4) ?_
  refine And.intro k1 ?_
  obtain ⟨k5, h⟩ := h
  refine And.intro k5 ?_
  obtain ⟨k6, h⟩ := h
  obtain ⟨k7, h⟩ := h
  refine And.intro (And.intro k6 k7) ?_
  obtain ⟨k8, h⟩ := h
  refine And.intro k8 ?_
  exact h
set_option maxRecDepth 20000 in
theorem g_X12_leastV_122 {Q X : m_Po} {v0 v1 v2 v3 : Int} {ε : m_E} {μ : m_M} (h : TY ε μ → i32 v1 → i32 v2 → i32 v3 → kd ε v0 = 11 ∧ kd ε (fn ε v0 52) = 107 ∧ 0 < ln ε (fn ε v0 52) ∧ kd ε (fn ε v0 40) = 101 ∧ (0 : Int) ≤ v3 ∧ v3 < ln ε (fn ε v0 40) ∧ kd ε (μ (fn ε v0 52) 0) = 10 ∧ o_X11_set [(2, μ (fn ε v0 52) 0), (1, μ (fn ε v0 40) v3)] ε μ (fun z ε_1 μ_1 => G cd_X12_leastV Q X 137 [(0, (2, v0)), (1, (0, v1)), (2, (0, v2)), (3, (0, v3))] [] ε_1 μ_1) m_F) : G cd_X12_leastV Q X 122 [(0, (2, v0)), (1, (0, v1)), (2, (0, v2)), (3, (0, v3))] [] ε μ := by
  refine G_run (m_in [4, 42, 63, 79, 100, 122, 137, 158, 194, 200, 217, 234, 254, 256]) 22 _ _ _ _ ?_
  show m_ty [(0, (2, v0)), (1, (0, v1)), (2, (0, v2)), (3, (0, v3))] [] ε μ → (kd ε v0 = 11) ∧ (kd ε (fn ε v0 52) = 107) ∧ ((0 : Int) ≤ 0 ∧ 0 < ln ε (fn ε v0 52)) ∧ (kd ε v0 = 11) ∧ (kd ε (fn ε v0 40) = 101) ∧ ((0 : Int) ≤ v3 ∧ v3 < ln ε (fn ε v0 40)) ∧ (kd ε (μ (fn ε v0 52) 0) = 10) ∧ o_X11_set [(2, μ (fn ε v0 52) 0), (1, μ (fn ε v0 40) v3)] ε μ (fun z ε_1 μ_1 => G cd_X12_leastV Q X 137 [(0, (2, v0)), (1, (0, v1)), (2, (0, v2)), (3, (0, v3))] [] ε_1 μ_1) m_F
  intro hty
  replace h := h hty.1 (hty.2.1 _ (List.mem_of_getElem? (i := 1) rfl)) (hty.2.1 _ (List.mem_of_getElem? (i := 2) rfl)) (hty.2.1 _ (List.mem_of_getElem? (i := 3) rfl))
  obtain ⟨k1, h⟩ := h
  refine And.intro k1 ?_
  obtain ⟨k2, h⟩ := h
  refine And.intro k2 ?_
  obtain ⟨k3, h⟩ := h
  refine And.intro (And.intro (by decide) k3) ?_
  refine And.intro k1 ?_
  obtain ⟨k4, h⟩ := h
  refine And.intro k4 ?_
  obtain ⟨k5, h⟩ := h
  obtain ⟨k6, h⟩ := h
  refine And.intro (And.intro k5 k6) ?_
  obtain ⟨k7, h⟩ := h
  refine And.intro k7 ?_
  exact h
set_option maxRecDepth 20000 in
theorem g_X12_leastV_100 {Q X : m_Po} {v0 v1 v2 v3 : Int} {ε : m_E} {μ : m_M} (h : TY ε μ → i32 v1 → i32 v2 → i32 v3 → kd ε v0 = 11 ∧ kd ε (fn ε v0 52) = 107 ∧ 1 < ln ε (fn ε v0 52) ∧ 2 < ln ε (fn ε v0 52) ∧ kd ε (μ (fn ε v0 52) 1) = 10 ∧ o_X11_sum [(2, μ (fn ε v0 52) 1), (2, μ (fn ε v0 52) 1), (2, μ (fn ε v0 52) 2), (0, 0)] ε μ (fun z ε_1 μ_1 => G cd_X12_leastV Q X 122 [(0, (2, v0)), (1, (0, v1)), (2, (0, v2)), (3, (0, v3))] [] ε_1 μ_1) m_F) : G cd_X12_leastV Q X 100 [(0, (2, v0)), (1, (0, v1)), (2, (0, v2)), (3, (0, v3))] [] ε μ := by
  refine G_run (m_in [4, 42, 63, 79, 100, 122, 137, 158, 194, 200, 217, 234, 254, 256]) 22 _ _ _ _ ?_
  show m_ty [(0, (2, v0)), (1, (0, v1)), (2, (0, v2)), (3, (0, v3))] [] ε μ → (kd ε v0 = 11) ∧ (kd ε (fn ε v0 52) = 107) ∧ ((0 : Int) ≤ 1 ∧ 1 < ln ε (fn ε v0 52)) ∧ (kd ε v0 = 11) ∧ (kd ε (fn ε v0 52) = 107) ∧ ((0 : Int) ≤ 1 ∧ 1 < ln ε (fn ε v0 52)) ∧ (kd ε v0 = 11) ∧ (kd ε (fn ε v0 52) = 107) ∧ ((0 : Int) ≤ 2 ∧ 2 < ln ε (fn ε v0 52)) ∧ (kd ε (μ (fn ε v0 52) 1) = 10) ∧ o_X11_sum [(2, μ (fn ε v0 52) 1), (2, μ (fn ε v0 52) 1), (2, μ (fn ε v0 52) 2), (0, 0)] ε μ (fun z ε_1 μ_1 => G cd_X12_leastV Q X 122 [(0, (2, v0)), (1, (0, v1)), (2, (0, v2)), (3, (0, v3))] [] ε_1 μ_1) m_F
  intro hty
  replace h := h hty.1 (hty.2.1 _ (List.mem_of_getElem? (i := 1) rfl)) (hty.2.1 _ (List.mem_of_getElem? (i := 2) rfl)) (hty.2.1 _ (List.mem_of_getElem? (i := 3) rfl))
  obtain ⟨k1, h⟩ := h
  refine And.intro k1 ?_
  obtain ⟨k2, h⟩ := h
  refine And.intro k2 ?_
  obtain ⟨k3, h⟩ := h
  refine And.intro (And.intro (by decide) k3) ?_
  refine And.intro k1 ?_
  refine And.intro k2 ?_
  refine And.intro (And.intro (by decide) k3) ?_
  refine And.intro k1 ?_
  refine And.intro k2 ?_
  obtain ⟨k4, h⟩ := h
  refine And.intro (And.intro (by decide) k4) ?_
  obtain ⟨k5, h⟩ := h
  refine And.intro k5 ?_
  exact h
set_option maxRecDepth 20000 in
theorem g_X12_leastV_79 {Q X : m_Po} {v0 v1 v2 v3 : Int} {ε : m_E} {μ : m_M} (h : TY ε μ → i32 v1 → i32 v2 → i32 v3 → kd ε v0 = 11 ∧ kd ε (fn ε v0 52) = 107 ∧ 2 < ln ε (fn ε v0 52) ∧ 0 < ln ε (fn ε v0 52) ∧ kd ε (fn ε v0 51) = 107 ∧ (0 : Int) ≤ v1 ∧ v1 < ln ε (fn ε v0 51) ∧ kd ε (μ (fn ε v0 52) 2) = 10 ∧ o_X11_product [(2, μ (fn ε v0 52) 2), (2, μ (fn ε v0 52) 0), (2, μ (fn ε v0 51) v1)] ε μ (fun z ε_1 μ_1 => G cd_X12_leastV Q X 100 [(0, (2, v0)), (1, (0, v1)), (2, (0, v2)), (3, (0, v3))] [] ε_1 μ_1) m_F) : G cd_X12_leastV Q X 79 [(0, (2, v0)), (1, (0, v1)), (2, (0, v2)), (3, (0, v3))] [] ε μ := by
  refine G_run (m_in [4, 42, 63, 79, 100, 122, 137, 158, 194, 200, 217, 234, 254, 256]) 22 _ _ _ _ ?_
  show m_ty [(0, (2, v0)), (1, (0, v1)), (2, (0, v2)), (3, (0, v3))] [] ε μ → (kd ε v0 = 11) ∧ (kd ε (fn ε v0 52) = 107) ∧ ((0 : Int) ≤ 2 ∧ 2 < ln ε (fn ε v0 52)) ∧ (kd ε v0 = 11) ∧ (kd ε (fn ε v0 52) = 107) ∧ ((0 : Int) ≤ 0 ∧ 0 < ln ε (fn ε v0 52)) ∧ (kd ε v0 = 11) ∧ (kd ε (fn ε v0 51) = 107) ∧ ((0 : Int) ≤ v1 ∧ v1 < ln ε (fn ε v0 51)) ∧ (kd ε (μ (fn ε v0 52) 2) = 10) ∧ o_X11_product [(2, μ (fn ε v0 52) 2), (2, μ (fn ε v0 52) 0), (2, μ (fn ε v0 51) v1)] ε μ (fun z ε_1 μ_1 => G cd_X12_leastV Q X 100 [(0, (2, v0)), (1, (0, v1)), (2, (0, v2)), (3, (0, v3))] [] ε_1 μ_1) m_F
  intro hty
  replace h := h hty.1 (hty.2.1 _ (List.mem_of_getElem? (i := 1) rfl)) (hty.2.1 _ (List.mem_of_getElem? (i := 2) rfl)) (hty.2.1 _ (List.mem_of_getElem? (i := 3) rfl))
  obtain ⟨k1, h⟩ := h
  refine And.intro k1 ?_
  obtain ⟨k2, h⟩ := h
  refine And.intro k2 ?_
  obtain ⟨k3, h⟩ := h
  refine And.intro (And.intro (by decide) k3) ?_
  refine And.intro k1 ?_
  refine And.intro k2 ?_
  obtain ⟨k4, h⟩ := h
  refine And.intro (And.intro (by decide) k4) ?_
  refine And.intro k1 ?_
  obtain ⟨k5, h⟩ := h
  refine And.intro k5 ?_
  obtain ⟨k6, h⟩ := h
  obtain ⟨k7, h⟩ := h
  refine And.intro (And.intro k6 k7) ?_
  obtain ⟨k8, h⟩ := h
  refine And.intro k8 ?_
  exact h
set_option maxRecDepth 20000 in
theorem g_X12_leastV_63 {Q X : m_Po} {v0 v1 v2 v3 : Int} {ε : m_E} {μ : m_M} (h : TY ε μ → i32 v1 → i32 v2 → i32 v3 → kd ε v0 = 11 ∧ kd ε (fn ε v0 52) = 107 ∧ 0 < ln ε (fn ε v0 52) ∧ kd ε (fn ε v0 41) = 101 ∧ (0 : Int) ≤ v3 ∧ v3 < ln ε (fn ε v0 41) ∧ kd ε (μ (fn ε v0 52) 0) = 10 ∧ o_X11_set [(2, μ (fn ε v0 52) 0), (1, w64 (-(μ (fn ε v0 41) v3)))] ε μ (fun z ε_1 μ_1 => G cd_X12_leastV Q X 79 [(0, (2, v0)), (1, (0, v1)), (2, (0, v2)), (3, (0, v3))] [] ε_1 μ_1) m_F) : G cd_X12_leastV Q X 63 [(0, (2, v0)), (1, (0, v1)), (2, (0, v2)), (3, (0, v3))] [] ε μ := by
  refine G_run (m_in [4, 42, 63, 79, 100, 122, 137, 158, 194, 200, 217, 234, 254, 256]) 22 _ _ _ _ ?_
  show m_ty [(0, (2, v0)), (1, (0, v1)), (2, (0, v2)), (3, (0, v3))] [] ε μ → (kd ε v0 = 11) ∧ (kd ε (fn ε v0 52) = 107) ∧ ((0 : Int) ≤ 0 ∧ 0 < ln ε (fn ε v0 52)) ∧ (kd ε v0 = 11) ∧ (kd ε (fn ε v0 41) = 101) ∧ ((0 : Int) ≤ v3 ∧ v3 < ln ε (fn ε v0 41)) ∧ (kd ε (μ (fn ε v0 52) 0) = 10) ∧ o_X11_set [(2, μ (fn ε v0 52) 0), (1, w64 (-(μ (fn ε v0 41) v3)))] ε μ (fun z ε_1 μ_1 => G cd_X12_leastV Q X 79 [(0, (2, v0)), (1, (0, v1)), (2, (0, v2)), (3, (0, v3))] [] ε_1 μ_1) m_F
  intro hty
  replace h := h hty.1 (hty.2.1 _ (List.mem_of_getElem? (i := 1) rfl)) (hty.2.1 _ (List.mem_of_getElem? (i := 2) rfl)) (hty.2.1 _ (List.mem_of_getElem? (i := 3) rfl))
  obtain ⟨k1, h⟩ := h
  refine And.intro k1 ?_
  obtain ⟨k2, h⟩ := h
  refine And.intro k2 ?_
  obtain ⟨k3, h⟩ := h
  refine And.intro (And.intro (by decide) k3) ?_
  refine And.intro k1 ?_
  obtain ⟨k4, h⟩ := h
  refine And.intro k4 ?_
  obtain ⟨k5, h⟩ := h
  obtain ⟨k6, h⟩ := h
  refine And.intro (And.intro k5 k6) ?_
  obtain ⟨k7, h⟩ := h
  refine And.intro k7 ?_
  exact h
set_option maxRecDepth 20000 in
theorem g_X12_leastV_42 {Q X : m_Po} {v0 v1 v2 v3 : Int} {ε : m_E} {μ : m_M} (h : TY ε μ → i32 v1 → i32 v2 → i32 v3 → kd ε v0 = 11 ∧ kd ε (fn ε v0 52) = 107 ∧ 1 < ln ε (fn ε v0 52) ∧ 0 < ln ε (fn ε v0 52) ∧ kd ε (fn ε v0 50) = 107 ∧ (0 : Int) ≤ v1 ∧ v1 < ln ε (fn ε v0 50) ∧ kd ε (μ (fn ε v0 52) 1) = 10 ∧ o_X11_product [(2, μ (fn ε v0 52) 1), (2, μ (fn ε v0 52) 0), (2, μ (fn ε v0 50) v1)] ε μ (fun z ε_1 μ_1 => G cd_X12_leastV Q X 63 [(0, (2, v0)), (1, (0, v1)), (2, (0, v2)), (3, (0, v3))] [] ε_1 μ_1) m_F) : G cd_X12_leastV Q X 42 [(0, (2, v0)), (1, (0, v1)), (2, (0, v2)), (3, (0, v3))] [] ε μ := by
  refine G_run (m_in [4, 42, 63, 79, 100, 122, 137, 158, 194, 200, 217, 234, 254, 256]) 22 _ _ _ _ ?_
  show m_ty [(0, (2, v0)), (1, (0, v1)), (2, (0, v2)), (3, (0, v3))] [] ε μ → (kd ε v0 = 11) ∧ (kd ε (fn ε v0 52) = 107) ∧ ((0 : Int) ≤ 1 ∧ 1 < ln ε (fn ε v0 52)) ∧ (kd ε v0 = 11) ∧ (kd ε (fn ε v0 52) = 107) ∧ ((0 : Int) ≤ 0 ∧ 0 < ln ε (fn ε v0 52)) ∧ (kd ε v0 = 11) ∧ (kd ε (fn ε v0 50) = 107) ∧ ((0 : Int) ≤ v1 ∧ v1 < ln ε (fn ε v0 50)) ∧ (kd ε (μ (fn ε v0 52) 1) = 10) ∧ o_X11_product [(2, μ (fn ε v0 52) 1), (2, μ (fn ε v0 52) 0), (2, μ (fn ε v0 50) v1)] ε μ (fun z ε_1 μ_1 => G cd_X12_leastV Q X 63 [(0, (2, v0)), (1, (0, v1)), (2, (0, v2)), (3, (0, v3))] [] ε_1 μ_1) m_F
  intro hty
  replace h := h hty.1 (hty.2.1 _ (List.mem_of_getElem? (i := 1) rfl)) (hty.2.1 _ (List.mem_of_getElem? (i := 2) rfl)) (hty.2.1 _ (List.mem_of_getElem? (i := 3) rfl))
  obtain ⟨k1, h⟩ := h
  refine And.intro k1 ?_
  obtain ⟨k2, h⟩ := h
  refine And.intro k2 ?_
  obtain ⟨k3, h⟩ := h
  refine And.intro (And.intro (by decide) k3) ?_
  refine And.intro k1 ?_
  refine And.intro k2 ?_
  obtain ⟨k4, h⟩ := h
  refine And.intro (And.intro (by decide) k4) ?_
  refine And.intro k1 ?_
  obtain ⟨k5, h⟩ := h
  refine And.intro k5 ?_
  obtain ⟨k6, h⟩ := h
  obtain ⟨k7, h⟩ := h
  refine And.intro (And.intro k6 k7) ?_
  obtain ⟨k8, h⟩ := h
  refine And.intro k8 ?_
  exact h
set_option maxRecDepth 20000 in
theorem g_X12_leastV_4 {Q X : m_Po} {v0 v1 v2 v3 : Int} {ε : m_E} {μ : m_M} (h : TY ε μ → i32 v1 → i32 v2 → i32 v3 → kd ε v0 = 11 ∧ ((μ v0 42) ≤ v3 → Q 0 ε μ) ∧ (v3 < (μ v0 42) → kd ε (fn ε v0 40) = 101 ∧ (0 : Int) ≤ v3 ∧ v3 < ln ε (fn ε v0 40) ∧ ((0 : Int) < (μ (fn ε v0 40) v3) → kd ε (fn ε v0 52) = 107 ∧ 0 < ln ε (fn ε v0 52) ∧ kd ε (fn ε v0 39) = 101 ∧ v3 < ln ε (fn ε v0 39) ∧ kd ε (μ (fn ε v0 52) 0) = 10 ∧ o_X11_set [(2, μ (fn ε v0 52) 0), (1, w64 (-(μ (fn ε v0 39) v3)))] ε μ (fun z ε_1 μ_1 => G cd_X12_leastV Q X 42 [(0, (2, v0)), (1, (0, v1)), (2, (0, v2)), (3, (0, v3))] [] ε_1 μ_1) m_F) ∧ ((μ (fn ε v0 40) v3) ≤ (0 : Int) → G cd_X12_leastV Q X 256 [(0, (2, v0)), (1, (0, v1)), (2, (0, v2)), (3, (0, v3))] [] ε μ))) : G cd_X12_leastV Q X 4 [(0, (2, v0)), (1, (0, v1)), (2, (0, v2)), (3, (0, v3))] [] ε μ := by
  refine G_run (m_in [4, 42, 63, 79, 100, 122, 137, 158, 194, 200, 217, 234, 254, 256]) 22 _ _ _ _ ?_
  show m_ty [(0, (2, v0)), (1, (0, v1)), (2, (0, v2)), (3, (0, v3))] [] ε μ → (kd ε v0 = 11) ∧ ((μ v0 42) ≤ v3 → (m_ty [] [] ε μ → Q 0 ε μ)) ∧ (v3 < (μ v0 42) → (m_ty [(0, (2, v0)), (1, (0, v1)), (2, (0, v2)), (3, (0, v3))] [] ε μ → (kd ε v0 = 11) ∧ (kd ε (fn ε v0 40) = 101) ∧ ((0 : Int) ≤ v3 ∧ v3 < ln ε (fn ε v0 40)) ∧ ((0 : Int) < (μ (fn ε v0 40) v3) → (m_ty [(0, (2, v0)), (1, (0, v1)), (2, (0, v2)), (3, (0, v3))] [] ε μ → (kd ε v0 = 11) ∧ (kd ε (fn ε v0 52) = 107) ∧ ((0 : Int) ≤ 0 ∧ 0 < ln ε (fn ε v0 52)) ∧ (kd ε v0 = 11) ∧ (kd ε (fn ε v0 39) = 101) ∧ ((0 : Int) ≤ v3 ∧ v3 < ln ε (fn ε v0 39)) ∧ (kd ε (μ (fn ε v0 52) 0) = 10) ∧ o_X11_set [(2, μ (fn ε v0 52) 0), (1, w64 (-(μ (fn ε v0 39) v3)))] ε μ (fun z ε_1 μ_1 => G cd_X12_leastV Q X 42 [(0, (2, v0)), (1, (0, v1)), (2, (0, v2)), (3, (0, v3))] [] ε_1 μ_1) m_F)) ∧ ((μ (fn ε v0 40) v3) ≤ (0 : Int) → (m_ty [(0, (2, v0)), (1, (0, v1)), (2, (0, v2)), (3, (0, v3))] [] ε μ → G cd_X12_leastV Q X 256 [(0, (2, v0)), (1, (0, v1)), (2, (0, v2)), (3, (0, v3))] [] ε μ))))
  intro hty
  replace h := h hty.1 (hty.2.1 _ (List.mem_of_getElem? (i := 1) rfl)) (hty.2.1 _ (List.mem_of_getElem? (i := 2) rfl)) (hty.2.1 _ (List.mem_of_getElem? (i := 3) rfl))
  obtain ⟨k1, h⟩ := h
  refine And.intro k1 ?_
  obtain ⟨ha, hb⟩ := h
  refine And.intro (fun c10 => ?_) (fun c10 => ?_)
  · replace h := ha c10
    clear ha hb
    intro _
    exact h
  · replace h := hb c10
    clear ha hb
    intro _
    refine And.intro k1 ?_
    obtain ⟨k2, h⟩ := h
    refine And.intro k2 ?_
    obtain ⟨k3, h⟩ := h
    obtain ⟨k4, h⟩ := h
    refine And.intro (And.intro k3 k4) ?_
    obtain ⟨ha, hb⟩ := h
    refine And.intro (fun c9 => ?_) (fun c9 => ?_)
    · replace h := ha c9
      clear ha hb
      intro _
      refine And.intro k1 ?_
      obtain ⟨k5, h⟩ := h
      refine And.intro k5 ?_
      obtain ⟨k6, h⟩ := h
      refine And.intro (And.intro (by decide) k6) ?_
      refine And.intro k1 ?_
      obtain ⟨k7, h⟩ := h
      refine And.intro k7 ?_
      obtain ⟨k8, h⟩ := h
      refine And.intro (And.intro k3 k8) ?_
      obtain ⟨k9, h⟩ := h
      refine And.intro k9 ?_
      exact h
    · replace h := hb c9
      clear ha hb
      intro _
      exact h
set_option maxRecDepth 20000 in
theorem g_X12_leastV_0 {Q X : m_Po} {v0 v1 : Int} {ε : m_E} {μ : m_M} (h : TY ε μ → i32 v1 → ∀ v2 : Int, v2 = 0 → ∀ v3 : Int, v3 = 0 → G cd_X12_leastV Q X 4 [(0, (2, v0)), (1, (0, v1)), (2, (0, v2)), (3, (0, v3))] [] ε μ) : G cd_X12_leastV Q X 0 [(0, (2, v0)), (1, (0, v1))] [] ε μ := by
  refine G_run (m_in [4, 42, 63, 79, 100, 122, 137, 158, 194, 200, 217, 234, 254, 256]) 22 _ _ _ _ ?_
  show m_ty [(0, (2, v0)), (1, (0, v1))] [] ε μ → ∀ v2 : Int, v2 = 0 → ∀ v3 : Int, v3 = 0 → G cd_X12_leastV Q X 4 [(0, (2, v0)), (1, (0, v1)), (2, (0, v2)), (3, (0, v3))] [] ε μ
  intro hty
  replace h := h hty.1 (hty.2.1 _ (List.mem_of_getElem? (i := 1) rfl))
  intro v2 e_v2
  replace h := h v2 e_v2
  intro v3 e_v3
  replace h := h v3 e_v3
  exact h
theorem e_X12_leastV {Q X : m_Po} {v0 v1 : Int} {ε : m_E} {μ : m_M} (h : TY ε μ → i32 v1 → ∀ v2 : Int, v2 = 0 → ∀ v3 : Int, v3 = 0 → G cd_X12_leastV Q X 4 [(0, (2, v0)), (1, (0, v1)), (2, (0, v2)), (3, (0, v3))] [] ε μ) : o_X12_leastV [(2, v0), (0, v1)] ε μ Q X := And.intro rfl (g_X12_leastV_0 h)
/-! ArchYardModel.known(II)V -/
set_option maxRecDepth 20000 in
theorem g_X12_known_221 {Q X : m_Po} {ε : m_E} {μ : m_M} (h : TY ε μ → Q 0 ε μ) : G cd_X12_known Q X 221 [] [] ε μ := by
  refine G_run (m_in [15, 36, 59, 74, 97, 118, 140, 163, 178, 199, 221]) 13 _ _ _ _ ?_
  show m_ty [] [] ε μ → Q 0 ε μ
  intro hty
  replace h := h hty.1 
  exact h
set_option maxRecDepth 20000 in
theorem g_X12_known_199 {Q X : m_Po} {v0 : Int} {ε : m_E} {μ : m_M} (h : TY ε μ → kd ε v0 = 11 ∧ kd ε (fn ε v0 52) = 107 ∧ 3 < ln ε (fn ε v0 52) ∧ 2 < ln ε (fn ε v0 52) ∧ kd ε (μ (fn ε v0 52) 3) = 10 ∧ o_X11_sum [(2, μ (fn ε v0 52) 3), (2, μ (fn ε v0 52) 3), (2, μ (fn ε v0 52) 2), (0, 0)] ε μ (fun z ε_1 μ_1 => G cd_X12_known Q X 221 [] [] ε_1 μ_1) m_F) : G cd_X12_known Q X 199 [(0, (2, v0))] [] ε μ := by
  refine G_run (m_in [15, 36, 59, 74, 97, 118, 140, 163, 178, 199, 221]) 13 _ _ _ _ ?_
  show m_ty [(0, (2, v0))] [] ε μ → (kd ε v0 = 11) ∧ (kd ε (fn ε v0 52) = 107) ∧ ((0 : Int) ≤ 3 ∧ 3 < ln ε (fn ε v0 52)) ∧ (kd ε v0 = 11) ∧ (kd ε (fn ε v0 52) = 107) ∧ ((0 : Int) ≤ 3 ∧ 3 < ln ε (fn ε v0 52)) ∧ (kd ε v0 = 11) ∧ (kd ε (fn ε v0 52) = 107) ∧ ((0 : Int) ≤ 2 ∧ 2 < ln ε (fn ε v0 52)) ∧ (kd ε (μ (fn ε v0 52) 3) = 10) ∧ o_X11_sum [(2, μ (fn ε v0 52) 3), (2, μ (fn ε v0 52) 3), (2, μ (fn ε v0 52) 2), (0, 0)] ε μ (fun z ε_1 μ_1 => G cd_X12_known Q X 221 [] [] ε_1 μ_1) m_F
  intro hty
  replace h := h hty.1 
  obtain ⟨k1, h⟩ := h
  refine And.intro k1 ?_
  obtain ⟨k2, h⟩ := h
  refine And.intro k2 ?_
  obtain ⟨k3, h⟩ := h
  refine And.intro (And.intro (by decide) k3) ?_
  refine And.intro k1 ?_
  refine And.intro k2 ?_
  refine And.intro (And.intro (by decide) k3) ?_
  refine And.intro k1 ?_
  refine And.intro k2 ?_
  obtain ⟨k4, h⟩ := h
  refine And.intro (And.intro (by decide) k4) ?_
  obtain ⟨k5, h⟩ := h
  refine And.intro k5 ?_
  exact h
set_option maxRecDepth 20000 in
theorem g_X12_known_178 {Q X : m_Po} {v0 : Int} {ε : m_E} {μ : m_M} (h : TY ε μ → kd ε v0 = 11 ∧ kd ε (fn ε v0 52) = 107 ∧ 2 < ln ε (fn ε v0 52) ∧ 0 < ln ε (fn ε v0 52) ∧ 4 < ln ε (fn ε v0 52) ∧ kd ε (μ (fn ε v0 52) 2) = 10 ∧ o_X11_product [(2, μ (fn ε v0 52) 2), (2, μ (fn ε v0 52) 0), (2, μ (fn ε v0 52) 4)] ε μ (fun z ε_1 μ_1 => G cd_X12_known Q X 199 [(0, (2, v0))] [] ε_1 μ_1) m_F) : G cd_X12_known Q X 178 [(0, (2, v0))] [] ε μ := by
  refine G_run (m_in [15, 36, 59, 74, 97, 118, 140, 163, 178, 199, 221]) 13 _ _ _ _ ?_
  show m_ty [(0, (2, v0))] [] ε μ → (kd ε v0 = 11) ∧ (kd ε (fn ε v0 52) = 107) ∧ ((0 : Int) ≤ 2 ∧ 2 < ln ε (fn ε v0 52)) ∧ (kd ε v0 = 11) ∧ (kd ε (fn ε v0 52) = 107) ∧ ((0 : Int) ≤ 0 ∧ 0 < ln ε (fn ε v0 52)) ∧ (kd ε v0 = 11) ∧ (kd ε (fn ε v0 52) = 107) ∧ ((0 : Int) ≤ 4 ∧ 4 < ln ε (fn ε v0 52)) ∧ (kd ε (μ (fn ε v0 52) 2) = 10) ∧ o_X11_product [(2, μ (fn ε v0 52) 2), (2, μ (fn ε v0 52) 0), (2, μ (fn ε v0 52) 4)] ε μ (fun z ε_1 μ_1 => G cd_X12_known Q X 199 [(0, (2, v0))] [] ε_1 μ_1) m_F
  intro hty
  replace h := h hty.1 
  obtain ⟨k1, h⟩ := h
  refine And.intro k1 ?_
  obtain ⟨k2, h⟩ := h
  refine And.intro k2 ?_
  obtain ⟨k3, h⟩ := h
  refine And.intro (And.intro (by decide) k3) ?_
  refine And.intro k1 ?_
  refine And.intro k2 ?_
  obtain ⟨k4, h⟩ := h
  refine And.intro (And.intro (by decide) k4) ?_
  refine And.intro k1 ?_
  refine And.intro k2 ?_
  obtain ⟨k5, h⟩ := h
  refine And.intro (And.intro (by decide) k5) ?_
  obtain ⟨k6, h⟩ := h
  refine And.intro k6 ?_
  exact h
set_option maxRecDepth 20000 in
theorem g_X12_known_163 {Q X : m_Po} {v0 v1 : Int} {ε : m_E} {μ : m_M} (h : TY ε μ → i32 v1 → kd ε v0 = 11 ∧ kd ε (fn ε v0 52) = 107 ∧ 0 < ln ε (fn ε v0 52) ∧ kd ε (fn ε v0 33) = 101 ∧ (0 : Int) ≤ v1 ∧ v1 < ln ε (fn ε v0 33) ∧ kd ε (μ (fn ε v0 52) 0) = 10 ∧ o_X11_set [(2, μ (fn ε v0 52) 0), (1, μ (fn ε v0 33) v1)] ε μ (fun z ε_1 μ_1 => G cd_X12_known Q X 178 [(0, (2, v0))] [] ε_1 μ_1) m_F) : G cd_X12_known Q X 163 [(0, (2, v0)), (1, (0, v1))] [] ε μ := by
  refine G_run (m_in [15, 36, 59, 74, 97, 118, 140, 163, 178, 199, 221]) 13 _ _ _ _ ?_
  show m_ty [(0, (2, v0)), (1, (0, v1))] [] ε μ → (kd ε v0 = 11) ∧ (kd ε (fn ε v0 52) = 107) ∧ ((0 : Int) ≤ 0 ∧ 0 < ln ε (fn ε v0 52)) ∧ (kd ε v0 = 11) ∧ (kd ε (fn ε v0 33) = 101) ∧ ((0 : Int) ≤ v1 ∧ v1 < ln ε (fn ε v0 33)) ∧ (kd ε (μ (fn ε v0 52) 0) = 10) ∧ o_X11_set [(2, μ (fn ε v0 52) 0), (1, μ (fn ε v0 33) v1)] ε μ (fun z ε_1 μ_1 => G cd_X12_known Q X 178 [(0, (2, v0))] [] ε_1 μ_1) m_F
  intro hty
  replace h := h hty.1 (hty.2.1 _ (List.mem_of_getElem? (i := 1) rfl))
  obtain ⟨k1, h⟩ := h
  refine And.intro k1 ?_
  obtain ⟨k2, h⟩ := h
  refine And.intro k2 ?_
  obtain ⟨k3, h⟩ := h
  refine And.intro (And.intro (by decide) k3) ?_
  refine And.intro k1 ?_
  obtain ⟨k4, h⟩ := h
  refine And.intro k4 ?_
  obtain ⟨k5, h⟩ := h
  obtain ⟨k6, h⟩ := h
  refine And.intro (And.intro k5 k6) ?_
  obtain ⟨k7, h⟩ := h
  refine And.intro k7 ?_
  exact h
set_option maxRecDepth 20000 in
theorem g_X12_known_140 {Q X : m_Po} {v0 v1 v2 : Int} {ε : m_E} {μ : m_M} (h : TY ε μ → i32 v1 → i32 v2 → kd ε v0 = 11 ∧ kd ε (fn ε v0 52) = 107 ∧ 4 < ln ε (fn ε v0 52) ∧ kd ε (fn ε v0 51) = 107 ∧ (0 : Int) ≤ v2 ∧ v2 < ln ε (fn ε v0 51) ∧ (0 : Int) ≤ w32 (v2 + 1) ∧ w32 (v2 + 1) < ln ε (fn ε v0 51) ∧ kd ε (μ (fn ε v0 52) 4) = 10 ∧ o_X11_product [(2, μ (fn ε v0 52) 4), (2, μ (fn ε v0 51) v2), (2, μ (fn ε v0 51) (w32 (v2 + 1)))] ε μ (fun z ε_1 μ_1 => G cd_X12_known Q X 163 [(0, (2, v0)), (1, (0, v1))] [] ε_1 μ_1) m_F) : G cd_X12_known Q X 140 [(0, (2, v0)), (1, (0, v1)), (2, (0, v2))] [] ε μ := by
  refine G_run (m_in [15, 36, 59, 74, 97, 118, 140, 163, 178, 199, 221]) 13 _ _ _ _ ?_
  show m_ty [(0, (2, v0)), (1, (0, v1)), (2, (0, v2))] [] ε μ → (kd ε v0 = 11) ∧ (kd ε (fn ε v0 52) = 107) ∧ ((0 : Int) ≤ 4 ∧ 4 < ln ε (fn ε v0 52)) ∧ (kd ε v0 = 11) ∧ (kd ε (fn ε v0 51) = 107) ∧ ((0 : Int) ≤ v2 ∧ v2 < ln ε (fn ε v0 51)) ∧ (kd ε v0 = 11) ∧ (kd ε (fn ε v0 51) = 107) ∧ ((0 : Int) ≤ w32 (v2 + 1) ∧ w32 (v2 + 1) < ln ε (fn ε v0 51)) ∧ (kd ε (μ (fn ε v0 52) 4) = 10) ∧ o_X11_product [(2, μ (fn ε v0 52) 4), (2, μ (fn ε v0 51) v2), (2, μ (fn ε v0 51) (w32 (v2 + 1)))] ε μ (fun z ε_1 μ_1 => G cd_X12_known Q X 163 [(0, (2, v0)), (1, (0, v1))] [] ε_1 μ_1) m_F
  intro hty
  replace h := h hty.1 (hty.2.1 _ (List.mem_of_getElem? (i := 1) rfl)) (hty.2.1 _ (List.mem_of_getElem? (i := 2) rfl))
  obtain ⟨k1, h⟩ := h
  refine And.intro k1 ?_
  obtain ⟨k2, h⟩ := h
  refine And.intro k2 ?_
  obtain ⟨k3, h⟩ := h
  refine And.intro (And.intro (by decide) k3) ?_
  refine And.intro k1 ?_
  obtain ⟨k4, h⟩ := h
  refine And.intro k4 ?_
  obtain ⟨k5, h⟩ := h
  obtain ⟨k6, h⟩ := h
  refine And.intro (And.intro k5 k6) ?_
  refine And.intro k1 ?_
  refine And.intro k4 ?_
  obtain ⟨k7, h⟩ := h
  obtain ⟨k8, h⟩ := h
  refine And.intro (And.intro k7 k8) ?_
  obtain ⟨k9, h⟩ := h
  refine And.intro k9 ?_
  exact h
set_option maxRecDepth 20000 in
theorem g_X12_known_118 {Q X : m_Po} {v0 v1 v2 : Int} {ε : m_E} {μ : m_M} (h : TY ε μ → i32 v1 → i32 v2 → kd ε v0 = 11 ∧ kd ε (fn ε v0 52) = 107 ∧ 3 < ln ε (fn ε v0 52) ∧ 2 < ln ε (fn ε v0 52) ∧ kd ε (μ (fn ε v0 52) 3) = 10 ∧ o_X11_sum [(2, μ (fn ε v0 52) 3), (2, μ (fn ε v0 52) 3), (2, μ (fn ε v0 52) 2), (0, 0)] ε μ (fun z ε_1 μ_1 => G cd_X12_known Q X 140 [(0, (2, v0)), (1, (0, v1)), (2, (0, v2))] [] ε_1 μ_1) m_F) : G cd_X12_known Q X 118 [(0, (2, v0)), (1, (0, v1)), (2, (0, v2))] [] ε μ := by
  refine G_run (m_in [15, 36, 59, 74, 97, 118, 140, 163, 178, 199, 221]) 13 _ _ _ _ ?_
  show m_ty [(0, (2, v0)), (1, (0, v1)), (2, (0, v2))] [] ε μ → (kd ε v0 = 11) ∧ (kd ε (fn ε v0 52) = 107) ∧ ((0 : Int) ≤ 3 ∧ 3 < ln ε (fn ε v0 52)) ∧ (kd ε v0 = 11) ∧ (kd ε (fn ε v0 52) = 107) ∧ ((0 : Int) ≤ 3 ∧ 3 < ln ε (fn ε v0 52)) ∧ (kd ε v0 = 11) ∧ (kd ε (fn ε v0 52) = 107) ∧ ((0 : Int) ≤ 2 ∧ 2 < ln ε (fn ε v0 52)) ∧ (kd ε (μ (fn ε v0 52) 3) = 10) ∧ o_X11_sum [(2, μ (fn ε v0 52) 3), (2, μ (fn ε v0 52) 3), (2, μ (fn ε v0 52) 2), (0, 0)] ε μ (fun z ε_1 μ_1 => G cd_X12_known Q X 140 [(0, (2, v0)), (1, (0, v1)), (2, (0, v2))] [] ε_1 μ_1) m_F
  intro hty
  replace h := h hty.1 (hty.2.1 _ (List.mem_of_getElem? (i := 1) rfl)) (hty.2.1 _ (List.mem_of_getElem? (i := 2) rfl))
  obtain ⟨k1, h⟩ := h
  refine And.intro k1 ?_
  obtain ⟨k2, h⟩ := h
  refine And.intro k2 ?_
  obtain ⟨k3, h⟩ := h
  refine And.intro (And.intro (by decide) k3) ?_
  refine And.intro k1 ?_
  refine And.intro k2 ?_
  refine And.intro (And.intro (by decide) k3) ?_
  refine And.intro k1 ?_
  refine And.intro k2 ?_
  obtain ⟨k4, h⟩ := h
  refine And.intro (And.intro (by decide) k4) ?_
  obtain ⟨k5, h⟩ := h
  refine And.intro k5 ?_
  exact h
set_option maxRecDepth 20000 in
theorem g_X12_known_97 {Q X : m_Po} {v0 v1 v2 : Int} {ε : m_E} {μ : m_M} (h : TY ε μ → i32 v1 → i32 v2 → kd ε v0 = 11 ∧ kd ε (fn ε v0 52) = 107 ∧ 2 < ln ε (fn ε v0 52) ∧ 1 < ln ε (fn ε v0 52) ∧ kd ε (fn ε v0 51) = 107 ∧ (0 : Int) ≤ v2 ∧ v2 < ln ε (fn ε v0 51) ∧ kd ε (μ (fn ε v0 52) 2) = 10 ∧ o_X11_product [(2, μ (fn ε v0 52) 2), (2, μ (fn ε v0 52) 1), (2, μ (fn ε v0 51) v2)] ε μ (fun z ε_1 μ_1 => G cd_X12_known Q X 118 [(0, (2, v0)), (1, (0, v1)), (2, (0, v2))] [] ε_1 μ_1) m_F) : G cd_X12_known Q X 97 [(0, (2, v0)), (1, (0, v1)), (2, (0, v2))] [] ε μ := by
  refine G_run (m_in [15, 36, 59, 74, 97, 118, 140, 163, 178, 199, 221]) 13 _ _ _ _ ?_
  show m_ty [(0, (2, v0)), (1, (0, v1)), (2, (0, v2))] [] ε μ → (kd ε v0 = 11) ∧ (kd ε (fn ε v0 52) = 107) ∧ ((0 : Int) ≤ 2 ∧ 2 < ln ε (fn ε v0 52)) ∧ (kd ε v0 = 11) ∧ (kd ε (fn ε v0 52) = 107) ∧ ((0 : Int) ≤ 1 ∧ 1 < ln ε (fn ε v0 52)) ∧ (kd ε v0 = 11) ∧ (kd ε (fn ε v0 51) = 107) ∧ ((0 : Int) ≤ v2 ∧ v2 < ln ε (fn ε v0 51)) ∧ (kd ε (μ (fn ε v0 52) 2) = 10) ∧ o_X11_product [(2, μ (fn ε v0 52) 2), (2, μ (fn ε v0 52) 1), (2, μ (fn ε v0 51) v2)] ε μ (fun z ε_1 μ_1 => G cd_X12_known Q X 118 [(0, (2, v0)), (1, (0, v1)), (2, (0, v2))] [] ε_1 μ_1) m_F
  intro hty
  replace h := h hty.1 (hty.2.1 _ (List.mem_of_getElem? (i := 1) rfl)) (hty.2.1 _ (List.mem_of_getElem? (i := 2) rfl))
  obtain ⟨k1, h⟩ := h
  refine And.intro k1 ?_
  obtain ⟨k2, h⟩ := h
  refine And.intro k2 ?_
  obtain ⟨k3, h⟩ := h
  refine And.intro (And.intro (by decide) k3) ?_
  refine And.intro k1 ?_
  refine And.intro k2 ?_
  obtain ⟨k4, h⟩ := h
  refine And.intro (And.intro (by decide) k4) ?_
  refine And.intro k1 ?_
  obtain ⟨k5, h⟩ := h
  refine And.intro k5 ?_
  obtain ⟨k6, h⟩ := h
  obtain ⟨k7, h⟩ := h
  refine And.intro (And.intro k6 k7) ?_
  obtain ⟨k8, h⟩ := h
  refine And.intro k8 ?_
  exact h
set_option maxRecDepth 20000 in
theorem g_X12_known_74 {Q X : m_Po} {v0 v1 v2 : Int} {ε : m_E} {μ : m_M} (h : TY ε μ → i32 v1 → i32 v2 → kd ε v0 = 11 ∧ kd ε (fn ε v0 52) = 107 ∧ 1 < ln ε (fn ε v0 52) ∧ 0 < ln ε (fn ε v0 52) ∧ kd ε (fn ε v0 50) = 107 ∧ (0 : Int) ≤ w32 (v2 + 1) ∧ w32 (v2 + 1) < ln ε (fn ε v0 50) ∧ kd ε (μ (fn ε v0 52) 1) = 10 ∧ o_X11_product [(2, μ (fn ε v0 52) 1), (2, μ (fn ε v0 52) 0), (2, μ (fn ε v0 50) (w32 (v2 + 1)))] ε μ (fun z ε_1 μ_1 => G cd_X12_known Q X 97 [(0, (2, v0)), (1, (0, v1)), (2, (0, v2))] [] ε_1 μ_1) m_F) : G cd_X12_known Q X 74 [(0, (2, v0)), (1, (0, v1)), (2, (0, v2))] [] ε μ := by
  refine G_run (m_in [15, 36, 59, 74, 97, 118, 140, 163, 178, 199, 221]) 13 _ _ _ _ ?_
  show m_ty [(0, (2, v0)), (1, (0, v1)), (2, (0, v2))] [] ε μ → (kd ε v0 = 11) ∧ (kd ε (fn ε v0 52) = 107) ∧ ((0 : Int) ≤ 1 ∧ 1 < ln ε (fn ε v0 52)) ∧ (kd ε v0 = 11) ∧ (kd ε (fn ε v0 52) = 107) ∧ ((0 : Int) ≤ 0 ∧ 0 < ln ε (fn ε v0 52)) ∧ (kd ε v0 = 11) ∧ (kd ε (fn ε v0 50) = 107) ∧ ((0 : Int) ≤ w32 (v2 + 1) ∧ w32 (v2 + 1) < ln ε (fn ε v0 50)) ∧ (kd ε (μ (fn ε v0 52) 1) = 10) ∧ o_X11_product [(2, μ (fn ε v0 52) 1), (2, μ (fn ε v0 52) 0), (2, μ (fn ε v0 50) (w32 (v2 + 1)))] ε μ (fun z ε_1 μ_1 => G cd_X12_known Q X 97 [(0, (2, v0)), (1, (0, v1)), (2, (0, v2))] [] ε_1 μ_1) m_F
  intro hty
  replace h := h hty.1 (hty.2.1 _ (List.mem_of_getElem? (i := 1) rfl)) (hty.2.1 _ (List.mem_of_getElem? (i := 2) rfl))
  obtain ⟨k1, h⟩ := h
  refine And.intro k1 ?_
  obtain ⟨k2, h⟩ := h
  refine And.intro k2 ?_
  obtain ⟨k3, h⟩ := h
  refine And.intro (And.intro (by decide) k3) ?_
  refine And.intro k1 ?_
  refine And.intro k2 ?_
  obtain ⟨k4, h⟩ := h
  refine And.intro (And.intro (by decide) k4) ?_
  refine And.intro k1 ?_
  obtain ⟨k5, h⟩ := h
  refine And.intro k5 ?_
  obtain ⟨k6, h⟩ := h
  obtain ⟨k7, h⟩ := h
  refine And.intro (And.intro k6 k7) ?_
  obtain ⟨k8, h⟩ := h
  refine And.intro k8 ?_
  exact h
set_option maxRecDepth 20000 in
theorem g_X12_known_59 {Q X : m_Po} {v0 v1 v2 : Int} {ε : m_E} {μ : m_M} (h : TY ε μ → i32 v1 → i32 v2 → kd ε v0 = 11 ∧ kd ε (fn ε v0 52) = 107 ∧ 0 < ln ε (fn ε v0 52) ∧ kd ε (fn ε v0 31) = 101 ∧ (0 : Int) ≤ v1 ∧ v1 < ln ε (fn ε v0 31) ∧ kd ε (μ (fn ε v0 52) 0) = 10 ∧ o_X11_set [(2, μ (fn ε v0 52) 0), (1, μ (fn ε v0 31) v1)] ε μ (fun z ε_1 μ_1 => G cd_X12_known Q X 74 [(0, (2, v0)), (1, (0, v1)), (2, (0, v2))] [] ε_1 μ_1) m_F) : G cd_X12_known Q X 59 [(0, (2, v0)), (1, (0, v1)), (2, (0, v2))] [] ε μ := by
  refine G_run (m_in [15, 36, 59, 74, 97, 118, 140, 163, 178, 199, 221]) 13 _ _ _ _ ?_
  show m_ty [(0, (2, v0)), (1, (0, v1)), (2, (0, v2))] [] ε μ → (kd ε v0 = 11) ∧ (kd ε (fn ε v0 52) = 107) ∧ ((0 : Int) ≤ 0 ∧ 0 < ln ε (fn ε v0 52)) ∧ (kd ε v0 = 11) ∧ (kd ε (fn ε v0 31) = 101) ∧ ((0 : Int) ≤ v1 ∧ v1 < ln ε (fn ε v0 31)) ∧ (kd ε (μ (fn ε v0 52) 0) = 10) ∧ o_X11_set [(2, μ (fn ε v0 52) 0), (1, μ (fn ε v0 31) v1)] ε μ (fun z ε_1 μ_1 => G cd_X12_known Q X 74 [(0, (2, v0)), (1, (0, v1)), (2, (0, v2))] [] ε_1 μ_1) m_F
  intro hty
  replace h := h hty.1 (hty.2.1 _ (List.mem_of_getElem? (i := 1) rfl)) (hty.2.1 _ (List.mem_of_getElem? (i := 2) rfl))
  obtain ⟨k1, h⟩ := h
  refine And.intro k1 ?_
  obtain ⟨k2, h⟩ := h
  refine And.intro k2 ?_
  obtain ⟨k3, h⟩ := h
  refine And.intro (And.intro (by decide) k3) ?_
  refine And.intro k1 ?_
  obtain ⟨k4, h⟩ := h
  refine And.intro k4 ?_
  obtain ⟨k5, h⟩ := h
  obtain ⟨k6, h⟩ := h
  refine And.intro (And.intro k5 k6) ?_
  obtain ⟨k7, h⟩ := h
  refine And.intro k7 ?_
  exact h
set_option maxRecDepth 20000 in
theorem g_X12_known_36 {Q X : m_Po} {v0 v1 v2 : Int} {ε : m_E} {μ : m_M} (h : TY ε μ → i32 v1 → i32 v2 → kd ε v0 = 11 ∧ kd ε (fn ε v0 52) = 107 ∧ 3 < ln ε (fn ε v0 52) ∧ 1 < ln ε (fn ε v0 52) ∧ kd ε (fn ε v0 51) = 107 ∧ (0 : Int) ≤ w32 (v2 + 1) ∧ w32 (v2 + 1) < ln ε (fn ε v0 51) ∧ kd ε (μ (fn ε v0 52) 3) = 10 ∧ o_X11_product [(2, μ (fn ε v0 52) 3), (2, μ (fn ε v0 52) 1), (2, μ (fn ε v0 51) (w32 (v2 + 1)))] ε μ (fun z ε_1 μ_1 => G cd_X12_known Q X 59 [(0, (2, v0)), (1, (0, v1)), (2, (0, v2))] [] ε_1 μ_1) m_F) : G cd_X12_known Q X 36 [(0, (2, v0)), (1, (0, v1)), (2, (0, v2))] [] ε μ := by
  refine G_run (m_in [15, 36, 59, 74, 97, 118, 140, 163, 178, 199, 221]) 13 _ _ _ _ ?_
  show m_ty [(0, (2, v0)), (1, (0, v1)), (2, (0, v2))] [] ε μ → (kd ε v0 = 11) ∧ (kd ε (fn ε v0 52) = 107) ∧ ((0 : Int) ≤ 3 ∧ 3 < ln ε (fn ε v0 52)) ∧ (kd ε v0 = 11) ∧ (kd ε (fn ε v0 52) = 107) ∧ ((0 : Int) ≤ 1 ∧ 1 < ln ε (fn ε v0 52)) ∧ (kd ε v0 = 11) ∧ (kd ε (fn ε v0 51) = 107) ∧ ((0 : Int) ≤ w32 (v2 + 1) ∧ w32 (v2 + 1) < ln ε (fn ε v0 51)) ∧ (kd ε (μ (fn ε v0 52) 3) = 10) ∧ o_X11_product [(2, μ (fn ε v0 52) 3), (2, μ (fn ε v0 52) 1), (2, μ (fn ε v0 51) (w32 (v2 + 1)))] ε μ (fun z ε_1 μ_1 => G cd_X12_known Q X 59 [(0, (2, v0)), (1, (0, v1)), (2, (0, v2))] [] ε_1 μ_1) m_F
  intro hty
  replace h := h hty.1 (hty.2.1 _ (List.mem_of_getElem? (i := 1) rfl)) (hty.2.1 _ (List.mem_of_getElem? (i := 2) rfl))
  obtain ⟨k1, h⟩ := h
  refine And.intro k1 ?_
  obtain ⟨k2, h⟩ := h
  refine And.intro k2 ?_
  obtain ⟨k3, h⟩ := h
  refine And.intro (And.intro (by decide) k3) ?_
  refine And.intro k1 ?_
  refine And.intro k2 ?_
  obtain ⟨k4, h⟩ := h
  refine And.intro (And.intro (by decide) k4) ?_
  refine And.intro k1 ?_
  obtain ⟨k5, h⟩ := h
  refine And.intro k5 ?_
  obtain ⟨k6, h⟩ := h
  obtain ⟨k7, h⟩ := h
  refine And.intro (And.intro k6 k7) ?_
  obtain ⟨k8, h⟩ := h
  refine And.intro k8 ?_
  exact h
set_option maxRecDepth 20000 in
theorem g_X12_known_15 {Q X : m_Po} {v0 v1 v2 : Int} {ε : m_E} {μ : m_M} (h : TY ε μ → i32 v1 → i32 v2 → kd ε v0 = 11 ∧ kd ε (fn ε v0 52) = 107 ∧ 1 < ln ε (fn ε v0 52) ∧ 0 < ln ε (fn ε v0 52) ∧ kd ε (fn ε v0 50) = 107 ∧ (0 : Int) ≤ v2 ∧ v2 < ln ε (fn ε v0 50) ∧ kd ε (μ (fn ε v0 52) 1) = 10 ∧ o_X11_product [(2, μ (fn ε v0 52) 1), (2, μ (fn ε v0 52) 0), (2, μ (fn ε v0 50) v2)] ε μ (fun z ε_1 μ_1 => G cd_X12_known Q X 36 [(0, (2, v0)), (1, (0, v1)), (2, (0, v2))] [] ε_1 μ_1) m_F) : G cd_X12_known Q X 15 [(0, (2, v0)), (1, (0, v1)), (2, (0, v2))] [] ε μ := by
  refine G_run (m_in [15, 36, 59, 74, 97, 118, 140, 163, 178, 199, 221]) 13 _ _ _ _ ?_
  show m_ty [(0, (2, v0)), (1, (0, v1)), (2, (0, v2))] [] ε μ → (kd ε v0 = 11) ∧ (kd ε (fn ε v0 52) = 107) ∧ ((0 : Int) ≤ 1 ∧ 1 < ln ε (fn ε v0 52)) ∧ (kd ε v0 = 11) ∧ (kd ε (fn ε v0 52) = 107) ∧ ((0 : Int) ≤ 0 ∧ 0 < ln ε (fn ε v0 52)) ∧ (kd ε v0 = 11) ∧ (kd ε (fn ε v0 50) = 107) ∧ ((0 : Int) ≤ v2 ∧ v2 < ln ε (fn ε v0 50)) ∧ (kd ε (μ (fn ε v0 52) 1) = 10) ∧ o_X11_product [(2, μ (fn ε v0 52) 1), (2, μ (fn ε v0 52) 0), (2, μ (fn ε v0 50) v2)] ε μ (fun z ε_1 μ_1 => G cd_X12_known Q X 36 [(0, (2, v0)), (1, (0, v1)), (2, (0, v2))] [] ε_1 μ_1) m_F
  intro hty
  replace h := h hty.1 (hty.2.1 _ (List.mem_of_getElem? (i := 1) rfl)) (hty.2.1 _ (List.mem_of_getElem? (i := 2) rfl))
  obtain ⟨k1, h⟩ := h
  refine And.intro k1 ?_
  obtain ⟨k2, h⟩ := h
  refine And.intro k2 ?_
  obtain ⟨k3, h⟩ := h
  refine And.intro (And.intro (by decide) k3) ?_
  refine And.intro k1 ?_
  refine And.intro k2 ?_
  obtain ⟨k4, h⟩ := h
  refine And.intro (And.intro (by decide) k4) ?_
  refine And.intro k1 ?_
  obtain ⟨k5, h⟩ := h
  refine And.intro k5 ?_
  obtain ⟨k6, h⟩ := h
  obtain ⟨k7, h⟩ := h
  refine And.intro (And.intro k6 k7) ?_
  obtain ⟨k8, h⟩ := h
  refine And.intro k8 ?_
  exact h
set_option maxRecDepth 20000 in
theorem g_X12_known_0 {Q X : m_Po} {v0 v1 v2 : Int} {ε : m_E} {μ : m_M} (h : TY ε μ → i32 v1 → i32 v2 → kd ε v0 = 11 ∧ kd ε (fn ε v0 52) = 107 ∧ 0 < ln ε (fn ε v0 52) ∧ kd ε (fn ε v0 30) = 101 ∧ (0 : Int) ≤ v1 ∧ v1 < ln ε (fn ε v0 30) ∧ kd ε (μ (fn ε v0 52) 0) = 10 ∧ o_X11_set [(2, μ (fn ε v0 52) 0), (1, μ (fn ε v0 30) v1)] ε μ (fun z ε_1 μ_1 => G cd_X12_known Q X 15 [(0, (2, v0)), (1, (0, v1)), (2, (0, v2))] [] ε_1 μ_1) m_F) : G cd_X12_known Q X 0 [(0, (2, v0)), (1, (0, v1)), (2, (0, v2))] [] ε μ := by
  refine G_run (m_in [15, 36, 59, 74, 97, 118, 140, 163, 178, 199, 221]) 13 _ _ _ _ ?_
  show m_ty [(0, (2, v0)), (1, (0, v1)), (2, (0, v2))] [] ε μ → (kd ε v0 = 11) ∧ (kd ε (fn ε v0 52) = 107) ∧ ((0 : Int) ≤ 0 ∧ 0 < ln ε (fn ε v0 52)) ∧ (kd ε v0 = 11) ∧ (kd ε (fn ε v0 30) = 101) ∧ ((0 : Int) ≤ v1 ∧ v1 < ln ε (fn ε v0 30)) ∧ (kd ε (μ (fn ε v0 52) 0) = 10) ∧ o_X11_set [(2, μ (fn ε v0 52) 0), (1, μ (fn ε v0 30) v1)] ε μ (fun z ε_1 μ_1 => G cd_X12_known Q X 15 [(0, (2, v0)), (1, (0, v1)), (2, (0, v2))] [] ε_1 μ_1) m_F
  intro hty
  replace h := h hty.1 (hty.2.1 _ (List.mem_of_getElem? (i := 1) rfl)) (hty.2.1 _ (List.mem_of_getElem? (i := 2) rfl))
  obtain ⟨k1, h⟩ := h
  refine And.intro k1 ?_
  obtain ⟨k2, h⟩ := h
  refine And.intro k2 ?_
  obtain ⟨k3, h⟩ := h
  refine And.intro (And.intro (by decide) k3) ?_
  refine And.intro k1 ?_
  obtain ⟨k4, h⟩ := h
  refine And.intro k4 ?_
  obtain ⟨k5, h⟩ := h
  obtain ⟨k6, h⟩ := h
  refine And.intro (And.intro k5 k6) ?_
  obtain ⟨k7, h⟩ := h
  refine And.intro k7 ?_
  exact h
theorem e_X12_known {Q X : m_Po} {v0 v1 v2 : Int} {ε : m_E} {μ : m_M} (h : TY ε μ → i32 v1 → i32 v2 → kd ε v0 = 11 ∧ kd ε (fn ε v0 52) = 107 ∧ 0 < ln ε (fn ε v0 52) ∧ kd ε (fn ε v0 30) = 101 ∧ (0 : Int) ≤ v1 ∧ v1 < ln ε (fn ε v0 30) ∧ kd ε (μ (fn ε v0 52) 0) = 10 ∧ o_X11_set [(2, μ (fn ε v0 52) 0), (1, μ (fn ε v0 30) v1)] ε μ (fun z ε_1 μ_1 => G cd_X12_known Q X 15 [(0, (2, v0)), (1, (0, v1)), (2, (0, v2))] [] ε_1 μ_1) m_F) : o_X12_known [(2, v0), (0, v1), (0, v2)] ε μ Q X := And.intro rfl (g_X12_known_0 h)
/-! ArchYardModel.leastM(I)V -/
set_option maxRecDepth 20000 in
theorem g_X12_leastM_192 {Q X : m_Po} {v0 v1 v2 v3 : Int} {ε : m_E} {μ : m_M} (h : TY ε μ → i32 v1 → i32 v2 → i32 v3 → ∀ v3_1 : Int, v3_1 = w32 (v3 + 1) → G cd_X12_leastM Q X 4 [(0, (2, v0)), (1, (0, v1)), (2, (0, v2)), (3, (0, v3_1))] [] ε μ) : G cd_X12_leastM Q X 192 [(0, (2, v0)), (1, (0, v1)), (2, (0, v2)), (3, (0, v3))] [] ε μ := by
  refine G_run (m_in [4, 32, 55, 73, 94, 130, 136, 153, 170, 190, 192]) 21 _ _ _ _ ?_
  show m_ty [(0, (2, v0)), (1, (0, v1)), (2, (0, v2)), (3, (0, v3))] [] ε μ → ∀ v3_1 : Int, v3_1 = w32 (v3 + 1) → G cd_X12_leastM Q X 4 [(0, (2, v0)), (1, (0, v1)), (2, (0, v2)), (3, (0, v3_1))] [] ε μ
  intro hty
  replace h := h hty.1 (hty.2.1 _ (List.mem_of_getElem? (i := 1) rfl)) (hty.2.1 _ (List.mem_of_getElem? (i := 2) rfl)) (hty.2.1 _ (List.mem_of_getElem? (i := 3) rfl))
  intro v3_1 e_v3_1
  replace h := h v3_1 e_v3_1
  exact h
set_option maxRecDepth 20000 in
theorem g_X12_leastM_190 {Q X : m_Po} {v0 v1 v3 : Int} {ε : m_E} {μ : m_M} (h : TY ε μ → i32 v1 → i32 v3 → ∀ v2 : Int, v2 = 1 → G cd_X12_leastM Q X 192 [(0, (2, v0)), (1, (0, v1)), (2, (0, v2)), (3, (0, v3))] [] ε μ) : G cd_X12_leastM Q X 190 [(0, (2, v0)), (1, (0, v1)), (3, (0, v3))] [] ε μ := by
  refine G_run (m_in [4, 32, 55, 73, 94, 130, 136, 153, 170, 190, 192]) 21 _ _ _ _ ?_
  show m_ty [(0, (2, v0)), (1, (0, v1)), (3, (0, v3))] [] ε μ → ∀ v2 : Int, v2 = 1 → G cd_X12_leastM Q X 192 [(0, (2, v0)), (1, (0, v1)), (2, (0, v2)), (3, (0, v3))] [] ε μ
  intro hty
  replace h := h hty.1 (hty.2.1 _ (List.mem_of_getElem? (i := 1) rfl)) (hty.2.1 _ (List.mem_of_getElem? (i := 2) rfl))
  intro v2 e_v2
  replace h := h v2 e_v2
  exact h
set_option maxRecDepth 20000 in
theorem g_X12_leastM_170 {Q X : m_Po} {v0 v1 v3 : Int} {ε : m_E} {μ : m_M} (h : TY ε μ → i32 v1 → i32 v3 → kd ε v0 = 11 ∧ kd ε (fn ε v0 50) = 107 ∧ (0 : Int) ≤ w32 (v1 + 2) ∧ w32 (v1 + 2) < ln ε (fn ε v0 50) ∧ kd ε (fn ε v0 51) = 107 ∧ w32 (v1 + 2) < ln ε (fn ε v0 51) ∧ o_X12_lowest [(2, v0), (2, μ (fn ε v0 50) (w32 (v1 + 2))), (2, μ (fn ε v0 51) (w32 (v1 + 2)))] ε μ (fun z ε_1 μ_1 => G cd_X12_leastM Q X 190 [(0, (2, v0)), (1, (0, v1)), (3, (0, v3))] [] ε_1 μ_1) m_F) : G cd_X12_leastM Q X 170 [(0, (2, v0)), (1, (0, v1)), (3, (0, v3))] [] ε μ := by
  refine G_run (m_in [4, 32, 55, 73, 94, 130, 136, 153, 170, 190, 192]) 21 _ _ _ _ ?_
  show m_ty [(0, (2, v0)), (1, (0, v1)), (3, (0, v3))] [] ε μ → (kd ε v0 = 11) ∧ (kd ε (fn ε v0 50) = 107) ∧ ((0 : Int) ≤ w32 (v1 + 2) ∧ w32 (v1 + 2) < ln ε (fn ε v0 50)) ∧ (kd ε v0 = 11) ∧ (kd ε (fn ε v0 51) = 107) ∧ ((0 : Int) ≤ w32 (v1 + 2) ∧ w32 (v1 + 2) < ln ε (fn ε v0 51)) ∧ (kd ε v0 = 11) ∧ o_X12_lowest [(2, v0), (2, μ (fn ε v0 50) (w32 (v1 + 2))), (2, μ (fn ε v0 51) (w32 (v1 + 2)))] ε μ (fun z ε_1 μ_1 => G cd_X12_leastM Q X 190 [(0, (2, v0)), (1, (0, v1)), (3, (0, v3))] [] ε_1 μ_1) m_F
  intro hty
  replace h := h hty.1 (hty.2.1 _ (List.mem_of_getElem? (i := 1) rfl)) (hty.2.1 _ (List.mem_of_getElem? (i := 2) rfl))
  obtain ⟨k1, h⟩ := h
  refine And.intro k1 ?_
  obtain ⟨k2, h⟩ := h
  refine And.intro k2 ?_
  obtain ⟨k3, h⟩ := h
  obtain ⟨k4, h⟩ := h
  refine And.intro (And.intro k3 k4) ?_
  refine And.intro k1 ?_
  obtain ⟨k5, h⟩ := h
  refine And.intro k5 ?_
  obtain ⟨k6, h⟩ := h
  refine And.intro (And.intro k3 k6) ?_
  refine And.intro k1 ?_
  exact h
set_option maxRecDepth 20000 in
theorem g_X12_leastM_153 {Q X : m_Po} {v0 v1 v3 : Int} {ε : m_E} {μ : m_M} (h : TY ε μ → i32 v1 → i32 v3 → kd ε v0 = 11 ∧ kd ε (fn ε v0 51) = 107 ∧ (0 : Int) ≤ w32 (v1 + 2) ∧ w32 (v1 + 2) < ln ε (fn ε v0 51) ∧ kd ε (fn ε v0 52) = 107 ∧ 1 < ln ε (fn ε v0 52) ∧ kd ε (μ (fn ε v0 51) (w32 (v1 + 2))) = 10 ∧ o_X11_take [(2, μ (fn ε v0 51) (w32 (v1 + 2))), (2, μ (fn ε v0 52) 1)] ε μ (fun z ε_1 μ_1 => G cd_X12_leastM Q X 170 [(0, (2, v0)), (1, (0, v1)), (3, (0, v3))] [] ε_1 μ_1) m_F) : G cd_X12_leastM Q X 153 [(0, (2, v0)), (1, (0, v1)), (3, (0, v3))] [] ε μ := by
  refine G_run (m_in [4, 32, 55, 73, 94, 130, 136, 153, 170, 190, 192]) 21 _ _ _ _ ?_
  show m_ty [(0, (2, v0)), (1, (0, v1)), (3, (0, v3))] [] ε μ → (kd ε v0 = 11) ∧ (kd ε (fn ε v0 51) = 107) ∧ ((0 : Int) ≤ w32 (v1 + 2) ∧ w32 (v1 + 2) < ln ε (fn ε v0 51)) ∧ (kd ε v0 = 11) ∧ (kd ε (fn ε v0 52) = 107) ∧ ((0 : Int) ≤ 1 ∧ 1 < ln ε (fn ε v0 52)) ∧ (kd ε (μ (fn ε v0 51) (w32 (v1 + 2))) = 10) ∧ o_X11_take [(2, μ (fn ε v0 51) (w32 (v1 + 2))), (2, μ (fn ε v0 52) 1)] ε μ (fun z ε_1 μ_1 => G cd_X12_leastM Q X 170 [(0, (2, v0)), (1, (0, v1)), (3, (0, v3))] [] ε_1 μ_1) m_F
  intro hty
  replace h := h hty.1 (hty.2.1 _ (List.mem_of_getElem? (i := 1) rfl)) (hty.2.1 _ (List.mem_of_getElem? (i := 2) rfl))
  obtain ⟨k1, h⟩ := h
  refine And.intro k1 ?_
  obtain ⟨k2, h⟩ := h
  refine And.intro k2 ?_
  obtain ⟨k3, h⟩ := h
  obtain ⟨k4, h⟩ := h
  refine And.intro (And.intro k3 k4) ?_
  refine And.intro k1 ?_
  obtain ⟨k5, h⟩ := h
  refine And.intro k5 ?_
  obtain ⟨k6, h⟩ := h
  refine And.intro (And.intro (by decide) k6) ?_
  obtain ⟨k7, h⟩ := h
  refine And.intro k7 ?_
  exact h
set_option maxRecDepth 20000 in
theorem g_X12_leastM_136 {Q X : m_Po} {v0 v1 v3 : Int} {ε : m_E} {μ : m_M} (h : TY ε μ → i32 v1 → i32 v3 → kd ε v0 = 11 ∧ kd ε (fn ε v0 50) = 107 ∧ (0 : Int) ≤ w32 (v1 + 2) ∧ w32 (v1 + 2) < ln ε (fn ε v0 50) ∧ kd ε (fn ε v0 52) = 107 ∧ 3 < ln ε (fn ε v0 52) ∧ kd ε (μ (fn ε v0 50) (w32 (v1 + 2))) = 10 ∧ o_X11_take [(2, μ (fn ε v0 50) (w32 (v1 + 2))), (2, μ (fn ε v0 52) 3)] ε μ (fun z ε_1 μ_1 => G cd_X12_leastM Q X 153 [(0, (2, v0)), (1, (0, v1)), (3, (0, v3))] [] ε_1 μ_1) m_F) : G cd_X12_leastM Q X 136 [(0, (2, v0)), (1, (0, v1)), (3, (0, v3))] [] ε μ := by
  refine G_run (m_in [4, 32, 55, 73, 94, 130, 136, 153, 170, 190, 192]) 21 _ _ _ _ ?_
  show m_ty [(0, (2, v0)), (1, (0, v1)), (3, (0, v3))] [] ε μ → (kd ε v0 = 11) ∧ (kd ε (fn ε v0 50) = 107) ∧ ((0 : Int) ≤ w32 (v1 + 2) ∧ w32 (v1 + 2) < ln ε (fn ε v0 50)) ∧ (kd ε v0 = 11) ∧ (kd ε (fn ε v0 52) = 107) ∧ ((0 : Int) ≤ 3 ∧ 3 < ln ε (fn ε v0 52)) ∧ (kd ε (μ (fn ε v0 50) (w32 (v1 + 2))) = 10) ∧ o_X11_take [(2, μ (fn ε v0 50) (w32 (v1 + 2))), (2, μ (fn ε v0 52) 3)] ε μ (fun z ε_1 μ_1 => G cd_X12_leastM Q X 153 [(0, (2, v0)), (1, (0, v1)), (3, (0, v3))] [] ε_1 μ_1) m_F
  intro hty
  replace h := h hty.1 (hty.2.1 _ (List.mem_of_getElem? (i := 1) rfl)) (hty.2.1 _ (List.mem_of_getElem? (i := 2) rfl))
  obtain ⟨k1, h⟩ := h
  refine And.intro k1 ?_
  obtain ⟨k2, h⟩ := h
  refine And.intro k2 ?_
  obtain ⟨k3, h⟩ := h
  obtain ⟨k4, h⟩ := h
  refine And.intro (And.intro k3 k4) ?_
  refine And.intro k1 ?_
  obtain ⟨k5, h⟩ := h
  refine And.intro k5 ?_
  obtain ⟨k6, h⟩ := h
  refine And.intro (And.intro (by decide) k6) ?_
  obtain ⟨k7, h⟩ := h
  refine And.intro k7 ?_
  exact h
set_option maxRecDepth 20000 in
theorem g_X12_leastM_130 {Q X : m_Po} {v0 v1 v2 v3 t : Int} {ε : m_E} {μ : m_M} (h : TY ε μ → i32 v1 → i32 v2 → i32 v3 → i32 t → (t ≠ 0 → G cd_X12_leastM Q X 136 [(0, (2, v0)), (1, (0, v1)), (3, (0, v3))] [] ε μ) ∧ (t = 0 → G cd_X12_leastM Q X 192 [(0, (2, v0)), (1, (0, v1)), (2, (0, v2)), (3, (0, v3))] [] ε μ)) : G cd_X12_leastM Q X 130 [(0, (2, v0)), (1, (0, v1)), (2, (0, v2)), (3, (0, v3))] [(0, t)] ε μ := by
  refine G_run (m_in [4, 32, 55, 73, 94, 130, 136, 153, 170, 190, 192]) 21 _ _ _ _ ?_
  show m_ty [(0, (2, v0)), (1, (0, v1)), (2, (0, v2)), (3, (0, v3))] [(0, t)] ε μ → (t ≠ 0 → G cd_X12_leastM Q X 136 [(0, (2, v0)), (1, (0, v1)), (3, (0, v3))] [] ε μ) ∧ (t = 0 → (m_ty [(0, (2, v0)), (1, (0, v1)), (2, (0, v2)), (3, (0, v3))] [] ε μ → G cd_X12_leastM Q X 192 [(0, (2, v0)), (1, (0, v1)), (2, (0, v2)), (3, (0, v3))] [] ε μ))
  intro hty
  replace h := h hty.1 (hty.2.1 _ (List.mem_of_getElem? (i := 1) rfl)) (hty.2.1 _ (List.mem_of_getElem? (i := 2) rfl)) (hty.2.1 _ (List.mem_of_getElem? (i := 3) rfl)) (hty.2.2 _ (List.mem_of_getElem? (i := 0) rfl))
  obtain ⟨ha, hb⟩ := h
  refine And.intro (fun c0 => ?_) (fun c0 => ?_)
  · replace h := ha c0
    clear ha hb
    exact h
  · replace h := hb c0
    clear ha hb
    intro _
    exact h
set_option maxRecDepth 20000 in
theorem g_X12_leastM_94 {Q X : m_Po} {v0 v1 v2 v3 : Int} {ε : m_E} {μ : m_M} (h : TY ε μ → i32 v1 → i32 v2 → i32 v3 → (v2 = 0 → G cd_X12_leastM Q X 136 [(0, (2, v0)), (1, (0, v1)), (3, (0, v3))] [] ε μ) ∧ (v2 ≠ 0 → kd ε v0 = 11 ∧ kd ε (fn ε v0 52) = 107 ∧ 3 < ln ε (fn ε v0 52) ∧ 1 < ln ε (fn ε v0 52) ∧ kd ε (fn ε v0 50) = 107 ∧ (0 : Int) ≤ w32 (v1 + 2) ∧ w32 (v1 + 2) < ln ε (fn ε v0 50) ∧ kd ε (fn ε v0 51) = 107 ∧ w32 (v1 + 2) < ln ε (fn ε v0 51) ∧ o_X12_isAbove [(2, v0), (2, μ (fn ε v0 52) 3), (2, μ (fn ε v0 52) 1), (2, μ (fn ε v0 50) (w32 (v1 + 2))), (2, μ (fn ε v0 51) (w32 (v1 + 2)))] ε μ (fun z ε_1 μ_1 => G cd_X12_leastM Q X 130 [(0, (2, v0)), (1, (0, v1)), (2, (0, v2)), (3, (0, v3))] [(0, z)] ε_1 μ_1) m_F)) : G cd_X12_leastM Q X 94 [(0, (2, v0)), (1, (0, v1)), (2, (0, v2)), (3, (0, v3))] [] ε μ := by
  refine G_run (m_in [4, 32, 55, 73, 94, 130, 136, 153, 170, 190, 192]) 21 _ _ _ _ ?_
  show m_ty [(0, (2, v0)), (1, (0, v1)), (2, (0, v2)), (3, (0, v3))] [] ε μ → (v2 = 0 → G cd_X12_leastM Q X 136 [(0, (2, v0)), (1, (0, v1)), (3, (0, v3))] [] ε μ) ∧ (v2 ≠ 0 → (m_ty [(0, (2, v0)), (1, (0, v1)), (2, (0, v2)), (3, (0, v3))] [] ε μ → (kd ε v0 = 11) ∧ (kd ε (fn ε v0 52) = 107) ∧ ((0 : Int) ≤ 3 ∧ 3 < ln ε (fn ε v0 52)) ∧ (kd ε v0 = 11) ∧ (kd ε (fn ε v0 52) = 107) ∧ ((0 : Int) ≤ 1 ∧ 1 < ln ε (fn ε v0 52)) ∧ (kd ε v0 = 11) ∧ (kd ε (fn ε v0 50) = 107) ∧ ((0 : Int) ≤ w32 (v1 + 2) ∧ w32 (v1 + 2) < ln ε (fn ε v0 50)) ∧ (kd ε v0 = 11) ∧ (kd ε (fn ε v0 51) = 107) ∧ ((0 : Int) ≤ w32 (v1 + 2) ∧ w32 (v1 + 2) < ln ε (fn ε v0 51)) ∧ (kd ε v0 = 11) ∧ o_X12_isAbove [(2, v0), (2, μ (fn ε v0 52) 3), (2, μ (fn ε v0 52) 1), (2, μ (fn ε v0 50) (w32 (v1 + 2))), (2, μ (fn ε v0 51) (w32 (v1 + 2)))] ε μ (fun z ε_1 μ_1 => G cd_X12_leastM Q X 130 [(0, (2, v0)), (1, (0, v1)), (2, (0, v2)), (3, (0, v3))] [(0, z)] ε_1 μ_1) m_F))
  intro hty
  replace h := h hty.1 (hty.2.1 _ (List.mem_of_getElem? (i := 1) rfl)) (hty.2.1 _ (List.mem_of_getElem? (i := 2) rfl)) (hty.2.1 _ (List.mem_of_getElem? (i := 3) rfl))
  obtain ⟨ha, hb⟩ := h
  refine And.intro (fun c9 => ?_) (fun c9 => ?_)
  · replace h := ha c9
    clear ha hb
    exact h
  · replace h := hb c9
    clear ha hb
    intro _
    obtain ⟨k1, h⟩ := h
    refine And.intro k1 ?_
    obtain ⟨k2, h⟩ := h
    refine And.intro k2 ?_
    obtain ⟨k3, h⟩ := h
    refine And.intro (And.intro (by decide) k3) ?_
    refine And.intro k1 ?_
    refine And.intro k2 ?_
    obtain ⟨k4, h⟩ := h
    refine And.intro (And.intro (by decide) k4) ?_
    refine And.intro k1 ?_
    obtain ⟨k5, h⟩ := h
    refine And.intro k5 ?_
    obtain ⟨k6, h⟩ := h
    obtain ⟨k7, h⟩ := h
    refine And.intro (And.intro k6 k7) ?_
    refine And.intro k1 ?_
    obtain ⟨k8, h⟩ := h
    refine And.intro k8 ?_
    obtain ⟨k9, h⟩ := h
    refine And.intro (And.intro k6 k9) ?_
    refine And.intro k1 ?_
    exact h
set_option maxRecDepth 20000 in
theorem g_X12_leastM_73 {Q X : m_Po} {v0 v1 v2 v3 : Int} {ε : m_E} {μ : m_M} (h : TY ε μ → i32 v1 → i32 v2 → i32 v3 → kd ε v0 = 11 ∧ kd ε (fn ε v0 52) = 107 ∧ 1 < ln ε (fn ε v0 52) ∧ 4 < ln ε (fn ε v0 52) ∧ 0 < ln ε (fn ε v0 52) ∧ kd ε (μ (fn ε v0 52) 1) = 10 ∧ o_X11_product [(2, μ (fn ε v0 52) 1), (2, μ (fn ε v0 52) 4), (2, μ (fn ε v0 52) 0)] ε μ (fun z ε_1 μ_1 => G cd_X12_leastM Q X 94 [(0, (2, v0)), (1, (0, v1)), (2, (0, v2)), (3, (0, v3))] [] ε_1 μ_1) m_F) : G cd_X12_leastM Q X 73 [(0, (2, v0)), (1, (0, v1)), (2, (0, v2)), (3, (0, v3))] [] ε μ := by
  refine G_run (m_in [4, 32, 55, 73, 94, 130, 136, 153, 170, 190, 192]) 21 _ _ _ _ ?_
  show m_ty [(0, (2, v0)), (1, (0, v1)), (2, (0, v2)), (3, (0, v3))] [] ε μ → (kd ε v0 = 11) ∧ (kd ε (fn ε v0 52) = 107) ∧ ((0 : Int) ≤ 1 ∧ 1 < ln ε (fn ε v0 52)) ∧ (kd ε v0 = 11) ∧ (kd ε (fn ε v0 52) = 107) ∧ ((0 : Int) ≤ 4 ∧ 4 < ln ε (fn ε v0 52)) ∧ (kd ε v0 = 11) ∧ (kd ε (fn ε v0 52) = 107) ∧ ((0 : Int) ≤ 0 ∧ 0 < ln ε (fn ε v0 52)) ∧ (kd ε (μ (fn ε v0 52) 1) = 10) ∧ o_X11_product [(2, μ (fn ε v0 52) 1), (2, μ (fn ε v0 52) 4), (2, μ (fn ε v0 52) 0)] ε μ (fun z ε_1 μ_1 => G cd_X12_leastM Q X 94 [(0, (2, v0)), (1, (0, v1)), (2, (0, v2)), (3, (0, v3))] [] ε_1 μ_1) m_F
  intro hty
  replace h := h hty.1 (hty.2.1 _ (List.mem_of_getElem? (i := 1) rfl)) (hty.2.1 _ (List.mem_of_getElem? (i := 2) rfl)) (hty.2.1 _ (List.mem_of_getElem? (i := 3) rfl))
  obtain ⟨k1, h⟩ := h
  refine And.intro k1 ?_
  obtain ⟨k2, h⟩ := h
  refine And.intro k2 ?_
  obtain ⟨k3, h⟩ := h
  refine And.intro (And.intro (by decide) k3) ?_
  refine And.intro k1 ?_
  refine And.intro k2 ?_
  obtain ⟨k4, h⟩ := h
  refine And.intro (And.intro (by decide) k4) ?_
  refine And.intro k1 ?_
  refine And.intro k2 ?_
  obtain ⟨k5, h⟩ := h
  refine And.intro (And.intro (by decide) k5) ?_
  obtain ⟨k6, h⟩ := h
  refine And.intro k6 ?_
  exact h
set_option maxRecDepth 20000 in
theorem g_X12_leastM_55 {Q X : m_Po} {v0 v1 v2 v3 t t_1 : Int} {ε : m_E} {μ : m_M} (h : TY ε μ → i32 v1 → i32 v2 → i32 v3 → i32 t_1 → kd ε t = 10 ∧ (t_1 = 0 ∨ t_1 = 1) ∧ ∀ μ_1 : m_M, μ_1 = st μ t 1 t_1 → kd ε v0 = 11 ∧ kd ε (fn ε v0 52) = 107 ∧ 0 < ln ε (fn ε v0 52) ∧ kd ε (fn ε v0 32) = 101 ∧ (0 : Int) ≤ v3 ∧ v3 < ln ε (fn ε v0 32) ∧ kd ε (μ_1 (fn ε v0 52) 0) = 10 ∧ o_X11_set [(2, μ_1 (fn ε v0 52) 0), (1, μ_1 (fn ε v0 32) v3)] ε μ_1 (fun z ε_1 μ_2 => G cd_X12_leastM Q X 73 [(0, (2, v0)), (1, (0, v1)), (2, (0, v2)), (3, (0, v3))] [] ε_1 μ_2) m_F) : G cd_X12_leastM Q X 55 [(0, (2, v0)), (1, (0, v1)), (2, (0, v2)), (3, (0, v3))] [(0, t_1), (2, t)] ε μ := by
  refine G_run (m_in [4, 32, 55, 73, 94, 130, 136, 153, 170, 190, 192]) 21 _ _ _ _ ?_
  show m_ty [(0, (2, v0)), (1, (0, v1)), (2, (0, v2)), (3, (0, v3))] [(0, t_1), (2, t)] ε μ → (kd ε t = 10) ∧ (t_1 = 0 ∨ t_1 = 1) ∧ ∀ μ_1 : m_M, μ_1 = st μ t 1 t_1 → (kd ε v0 = 11) ∧ (kd ε (fn ε v0 52) = 107) ∧ ((0 : Int) ≤ 0 ∧ 0 < ln ε (fn ε v0 52)) ∧ (kd ε v0 = 11) ∧ (kd ε (fn ε v0 32) = 101) ∧ ((0 : Int) ≤ v3 ∧ v3 < ln ε (fn ε v0 32)) ∧ (kd ε (μ_1 (fn ε v0 52) 0) = 10) ∧ o_X11_set [(2, μ_1 (fn ε v0 52) 0), (1, μ_1 (fn ε v0 32) v3)] ε μ_1 (fun z ε_1 μ_2 => G cd_X12_leastM Q X 73 [(0, (2, v0)), (1, (0, v1)), (2, (0, v2)), (3, (0, v3))] [] ε_1 μ_2) m_F
  intro hty
  replace h := h hty.1 (hty.2.1 _ (List.mem_of_getElem? (i := 1) rfl)) (hty.2.1 _ (List.mem_of_getElem? (i := 2) rfl)) (hty.2.1 _ (List.mem_of_getElem? (i := 3) rfl)) (hty.2.2 _ (List.mem_of_getElem? (i := 0) rfl))
  obtain ⟨k1, h⟩ := h
  refine And.intro k1 ?_
  obtain ⟨k2, h⟩ := h
  refine And.intro k2 ?_
  intro μ_1 e_μ_1
  replace h := h μ_1 e_μ_1
  obtain ⟨k3, h⟩ := h
  refine And.intro k3 ?_
  obtain ⟨k4, h⟩ := h
  refine And.intro k4 ?_
  obtain ⟨k5, h⟩ := h
  refine And.intro (And.intro (by decide) k5) ?_
  refine And.intro k3 ?_
  obtain ⟨k6, h⟩ := h
  refine And.intro k6 ?_
  obtain ⟨k7, h⟩ := h
  obtain ⟨k8, h⟩ := h
  refine And.intro (And.intro k7 k8) ?_
  obtain ⟨k9, h⟩ := h
  refine And.intro k9 ?_
  exact h
set_option maxRecDepth 20000 in
theorem g_X12_leastM_32 {Q X : m_Po} {v0 v1 v2 v3 : Int} {ε : m_E} {μ : m_M} (h : TY ε μ → i32 v1 → i32 v2 → i32 v3 → kd ε v0 = 11 ∧ kd ε (fn ε v0 52) = 107 ∧ 3 < ln ε (fn ε v0 52) ∧ kd ε (μ (fn ε v0 52) 3) = 10 ∧ ∀ t : Int, t = (if (μ (μ (fn ε v0 52) 3) 1) = 0 then 1 else 0) → kd ε (μ (fn ε v0 52) 3) = 10 ∧ (t = 0 ∨ t = 1) ∧ ∀ μ_1 : m_M, μ_1 = st μ (μ (fn ε v0 52) 3) 1 t → kd ε v0 = 11 ∧ kd ε (fn ε v0 52) = 107 ∧ 0 < ln ε (fn ε v0 52) ∧ kd ε (fn ε v0 32) = 101 ∧ (0 : Int) ≤ v3 ∧ v3 < ln ε (fn ε v0 32) ∧ kd ε (μ_1 (fn ε v0 52) 0) = 10 ∧ o_X11_set [(2, μ_1 (fn ε v0 52) 0), (1, μ_1 (fn ε v0 32) v3)] ε μ_1 (fun z ε_1 μ_2 => G cd_X12_leastM Q X 73 [(0, (2, v0)), (1, (0, v1)), (2, (0, v2)), (3, (0, v3))] [] ε_1 μ_2) m_F) : G cd_X12_leastM Q X 32 [(0, (2, v0)), (1, (0, v1)), (2, (0, v2)), (3, (0, v3))] [] ε μ := by
  refine G_run (m_in [4, 32, 55, 73, 94, 130, 136, 153, 170, 190, 192]) 21 _ _ _ _ ?_
  show m_ty [(0, (2, v0)), (1, (0, v1)), (2, (0, v2)), (3, (0, v3))] [] ε μ → (kd ε v0 = 11) ∧ (kd ε (fn ε v0 52) = 107) ∧ ((0 : Int) ≤ 3 ∧ 3 < ln ε (fn ε v0 52)) ∧ (kd ε v0 = 11) ∧ (kd ε (fn ε v0 52) = 107) ∧ ((0 : Int) ≤ 3 ∧ 3 < ln ε (fn ε v0 52)) ∧ (kd ε (μ (fn ε v0 52) 3) = 10) ∧ ((μ (μ (fn ε v0 52) 3) 1) ≠ 0 → (m_ty [(0, (2, v0)), (1, (0, v1)), (2, (0, v2)), (3, (0, v3))] [(2, μ (fn ε v0 52) 3)] ε μ → G cd_X12_leastM Q X 55 [(0, (2, v0)), (1, (0, v1)), (2, (0, v2)), (3, (0, v3))] [(0, 0), (2, μ (fn ε v0 52) 3)] ε μ)) ∧ ((μ (μ (fn ε v0 52) 3) 1) = 0 → (m_ty [(0, (2, v0)), (1, (0, v1)), (2, (0, v2)), (3, (0, v3))] [(2, μ (fn ε v0 52) 3)] ε μ → G cd_X12_leastM Q X 55 [(0, (2, v0)), (1, (0, v1)), (2, (0, v2)), (3, (0, v3))] [(0, 1), (2, μ (fn ε v0 52) 3)] ε μ))
  intro hty
  replace h := h hty.1 (hty.2.1 _ (List.mem_of_getElem? (i := 1) rfl)) (hty.2.1 _ (List.mem_of_getElem? (i := 2) rfl)) (hty.2.1 _ (List.mem_of_getElem? (i := 3) rfl))
  obtain ⟨k1, h⟩ := h
  refine And.intro k1 ?_
  obtain ⟨k2, h⟩ := h
  refine And.intro k2 ?_
  obtain ⟨k3, h⟩ := h
  refine And.intro (And.intro (by decide) k3) ?_
  refine And.intro k1 ?_
  refine And.intro k2 ?_
  refine And.intro (And.intro (by decide) k3) ?_
  obtain ⟨k4, h⟩ := h
  refine And.intro k4 ?_
  have hj := h
  refine And.intro (fun c4 => ?_) (fun c4 => ?_)
  · intro _
    exact g_X12_leastM_55 (fun _ _ _ _ _ => (hj _ (((if_neg (c4)).trans rfl)).symm))
  · intro _
    exact g_X12_leastM_55 (fun _ _ _ _ _ => (hj _ (((if_pos c4).trans rfl)).symm))
set_option maxRecDepth 20000 in
theorem g_X12_leastM_4 {Q X : m_Po} {v0 v1 v2 v3 : Int} {ε : m_E} {μ : m_M} (h : TY ε μ → i32 v1 → i32 v2 → i32 v3 → kd ε v0 = 11 ∧ ((μ v0 35) ≤ v3 → Q 0 ε μ) ∧ (v3 < (μ v0 35) → kd ε (fn ε v0 32) = 101 ∧ (0 : Int) ≤ v3 ∧ v3 < ln ε (fn ε v0 32) ∧ ((0 : Int) < (μ (fn ε v0 32) v3) → o_X12_known [(2, v0), (0, v3), (0, v1)] ε μ (fun z ε_1 μ_1 => G cd_X12_leastM Q X 32 [(0, (2, v0)), (1, (0, v1)), (2, (0, v2)), (3, (0, v3))] [] ε_1 μ_1) m_F) ∧ ((μ (fn ε v0 32) v3) ≤ (0 : Int) → G cd_X12_leastM Q X 192 [(0, (2, v0)), (1, (0, v1)), (2, (0, v2)), (3, (0, v3))] [] ε μ))) : G cd_X12_leastM Q X 4 [(0, (2, v0)), (1, (0, v1)), (2, (0, v2)), (3, (0, v3))] [] ε μ := by
  refine G_run (m_in [4, 32, 55, 73, 94, 130, 136, 153, 170, 190, 192]) 21 _ _ _ _ ?_
  show m_ty [(0, (2, v0)), (1, (0, v1)), (2, (0, v2)), (3, (0, v3))] [] ε μ → (kd ε v0 = 11) ∧ ((μ v0 35) ≤ v3 → (m_ty [] [] ε μ → Q 0 ε μ)) ∧ (v3 < (μ v0 35) → (m_ty [(0, (2, v0)), (1, (0, v1)), (2, (0, v2)), (3, (0, v3))] [] ε μ → (kd ε v0 = 11) ∧ (kd ε (fn ε v0 32) = 101) ∧ ((0 : Int) ≤ v3 ∧ v3 < ln ε (fn ε v0 32)) ∧ ((0 : Int) < (μ (fn ε v0 32) v3) → (m_ty [(0, (2, v0)), (1, (0, v1)), (2, (0, v2)), (3, (0, v3))] [] ε μ → (kd ε v0 = 11) ∧ o_X12_known [(2, v0), (0, v3), (0, v1)] ε μ (fun z ε_1 μ_1 => G cd_X12_leastM Q X 32 [(0, (2, v0)), (1, (0, v1)), (2, (0, v2)), (3, (0, v3))] [] ε_1 μ_1) m_F)) ∧ ((μ (fn ε v0 32) v3) ≤ (0 : Int) → (m_ty [(0, (2, v0)), (1, (0, v1)), (2, (0, v2)), (3, (0, v3))] [] ε μ → G cd_X12_leastM Q X 192 [(0, (2, v0)), (1, (0, v1)), (2, (0, v2)), (3, (0, v3))] [] ε μ))))
  intro hty
  replace h := h hty.1 (hty.2.1 _ (List.mem_of_getElem? (i := 1) rfl)) (hty.2.1 _ (List.mem_of_getElem? (i := 2) rfl)) (hty.2.1 _ (List.mem_of_getElem? (i := 3) rfl))
  obtain ⟨k1, h⟩ := h
  refine And.intro k1 ?_
  obtain ⟨ha, hb⟩ := h
  refine And.intro (fun c5 => ?_) (fun c5 => ?_)
  · replace h := ha c5
    clear ha hb
    intro _
    exact h
  · replace h := hb c5
    clear ha hb
    intro _
    refine And.intro k1 ?_
    obtain ⟨k2, h⟩ := h
    refine And.intro k2 ?_
    obtain ⟨k3, h⟩ := h
    obtain ⟨k4, h⟩ := h
    refine And.intro (And.intro k3 k4) ?_
    obtain ⟨ha, hb⟩ := h
    refine And.intro (fun c4 => ?_) (fun c4 => ?_)
    · replace h := ha c4
      clear ha hb
      intro _
      refine And.intro k1 ?_
      exact h
    · replace h := hb c4
      clear ha hb
      intro _
      exact h
set_option maxRecDepth 20000 in
theorem g_X12_leastM_0 {Q X : m_Po} {v0 v1 : Int} {ε : m_E} {μ : m_M} (h : TY ε μ → i32 v1 → ∀ v2 : Int, v2 = 0 → ∀ v3 : Int, v3 = 0 → G cd_X12_leastM Q X 4 [(0, (2, v0)), (1, (0, v1)), (2, (0, v2)), (3, (0, v3))] [] ε μ) : G cd_X12_leastM Q X 0 [(0, (2, v0)), (1, (0, v1))] [] ε μ := by
  refine G_run (m_in [4, 32, 55, 73, 94, 130, 136, 153, 170, 190, 192]) 21 _ _ _ _ ?_
  show m_ty [(0, (2, v0)), (1, (0, v1))] [] ε μ → ∀ v2 : Int, v2 = 0 → ∀ v3 : Int, v3 = 0 → G cd_X12_leastM Q X 4 [(0, (2, v0)), (1, (0, v1)), (2, (0, v2)), (3, (0, v3))] [] ε μ
  intro hty
  replace h := h hty.1 (hty.2.1 _ (List.mem_of_getElem? (i := 1) rfl))
  intro v2 e_v2
  replace h := h v2 e_v2
  intro v3 e_v3
  replace h := h v3 e_v3
  exact h
theorem e_X12_leastM {Q X : m_Po} {v0 v1 : Int} {ε : m_E} {μ : m_M} (h : TY ε μ → i32 v1 → ∀ v2 : Int, v2 = 0 → ∀ v3 : Int, v3 = 0 → G cd_X12_leastM Q X 4 [(0, (2, v0)), (1, (0, v1)), (2, (0, v2)), (3, (0, v3))] [] ε μ) : o_X12_leastM [(2, v0), (0, v1)] ε μ Q X := And.intro rfl (g_X12_leastM_0 h)
/-! ArchYardModel.touches(I)V -/
set_option maxRecDepth 20000 in
theorem g_X12_touches_178 {Q X : m_Po} {v0 v1 v2 v3 : Int} {ε : m_E} {μ : m_M} (h : TY ε μ → i32 v1 → i32 v2 → i32 v3 → ∀ v3_1 : Int, v3_1 = w32 (v3 + 1) → G cd_X12_touches Q X 13 [(0, (2, v0)), (1, (0, v1)), (2, (0, v2)), (3, (0, v3_1))] [] ε μ) : G cd_X12_touches Q X 178 [(0, (2, v0)), (1, (0, v1)), (2, (0, v2)), (3, (0, v3))] [] ε μ := by
  refine G_run (m_in [13, 27, 50, 65, 88, 109, 131, 140, 178]) 15 _ _ _ _ ?_
  show m_ty [(0, (2, v0)), (1, (0, v1)), (2, (0, v2)), (3, (0, v3))] [] ε μ → ∀ v3_1 : Int, v3_1 = w32 (v3 + 1) → G cd_X12_touches Q X 13 [(0, (2, v0)), (1, (0, v1)), (2, (0, v2)), (3, (0, v3_1))] [] ε μ
  intro hty
  replace h := h hty.1 (hty.2.1 _ (List.mem_of_getElem? (i := 1) rfl)) (hty.2.1 _ (List.mem_of_getElem? (i := 2) rfl)) (hty.2.1 _ (List.mem_of_getElem? (i := 3) rfl))
  intro v3_1 e_v3_1
  replace h := h v3_1 e_v3_1
  exact h
set_option maxRecDepth 20000 in
theorem g_X12_touches_140 {Q X : m_Po} {v0 v1 v2 v3 t : Int} {ε : m_E} {μ : m_M} (h : TY ε μ → i32 v1 → i32 v2 → i32 v3 → i32 t → (t ≠ 0 → kd ε v0 = 11 ∧ kd ε (fn ε v0 56) = 100 ∧ (0 : Int) ≤ v1 ∧ v1 < ln ε (fn ε v0 56) ∧ kd ε (fn ε v0 34) = 100 ∧ (0 : Int) ≤ v3 ∧ v3 < ln ε (fn ε v0 34) ∧ kd ε (fn ε v0 55) = 100 ∧ (0 : Int) ≤ w32 ((w32 (48 * v1)) + (μ (fn ε v0 56) v1)) ∧ w32 ((w32 (48 * v1)) + (μ (fn ε v0 56) v1)) < ln ε (fn ε v0 55) ∧ ∀ μ_1 : m_M, μ_1 = st μ (fn ε v0 55) (w32 ((w32 (48 * v1)) + (μ (fn ε v0 56) v1))) (μ (fn ε v0 34) v3) → ∀ μ_2 : m_M, μ_2 = st μ_1 (fn ε v0 56) v1 (w32 ((μ_1 (fn ε v0 56) v1) + 1)) → G cd_X12_touches Q X 178 [(0, (2, v0)), (1, (0, v1)), (2, (0, v2)), (3, (0, v3))] [] ε μ_2) ∧ (t = 0 → G cd_X12_touches Q X 178 [(0, (2, v0)), (1, (0, v1)), (2, (0, v2)), (3, (0, v3))] [] ε μ)) : G cd_X12_touches Q X 140 [(0, (2, v0)), (1, (0, v1)), (2, (0, v2)), (3, (0, v3))] [(0, t)] ε μ := by
  refine G_run (m_in [13, 27, 50, 65, 88, 109, 131, 140, 178]) 15 _ _ _ _ ?_
  show m_ty [(0, (2, v0)), (1, (0, v1)), (2, (0, v2)), (3, (0, v3))] [(0, t)] ε μ → (t ≠ 0 → (m_ty [(0, (2, v0)), (1, (0, v1)), (2, (0, v2)), (3, (0, v3))] [] ε μ → (kd ε v0 = 11) ∧ (kd ε v0 = 11) ∧ (kd ε (fn ε v0 56) = 100) ∧ ((0 : Int) ≤ v1 ∧ v1 < ln ε (fn ε v0 56)) ∧ (kd ε v0 = 11) ∧ (kd ε (fn ε v0 34) = 100) ∧ ((0 : Int) ≤ v3 ∧ v3 < ln ε (fn ε v0 34)) ∧ (kd ε (fn ε v0 55) = 100) ∧ ((0 : Int) ≤ w32 ((w32 (48 * v1)) + (μ (fn ε v0 56) v1)) ∧ w32 ((w32 (48 * v1)) + (μ (fn ε v0 56) v1)) < ln ε (fn ε v0 55)) ∧ ∀ μ_1 : m_M, μ_1 = st μ (fn ε v0 55) (w32 ((w32 (48 * v1)) + (μ (fn ε v0 56) v1))) (μ (fn ε v0 34) v3) → (kd ε v0 = 11) ∧ (kd ε (fn ε v0 56) = 100) ∧ ((0 : Int) ≤ v1 ∧ v1 < ln ε (fn ε v0 56)) ∧ (kd ε (fn ε v0 56) = 100) ∧ ((0 : Int) ≤ v1 ∧ v1 < ln ε (fn ε v0 56)) ∧ ∀ μ_2 : m_M, μ_2 = st μ_1 (fn ε v0 56) v1 (w32 ((μ_1 (fn ε v0 56) v1) + 1)) → G cd_X12_touches Q X 178 [(0, (2, v0)), (1, (0, v1)), (2, (0, v2)), (3, (0, v3))] [] ε μ_2)) ∧ (t = 0 → (m_ty [(0, (2, v0)), (1, (0, v1)), (2, (0, v2)), (3, (0, v3))] [] ε μ → G cd_X12_touches Q X 178 [(0, (2, v0)), (1, (0, v1)), (2, (0, v2)), (3, (0, v3))] [] ε μ))
  intro hty
  replace h := h hty.1 (hty.2.1 _ (List.mem_of_getElem? (i := 1) rfl)) (hty.2.1 _ (List.mem_of_getElem? (i := 2) rfl)) (hty.2.1 _ (List.mem_of_getElem? (i := 3) rfl)) (hty.2.2 _ (List.mem_of_getElem? (i := 0) rfl))
  obtain ⟨ha, hb⟩ := h
  refine And.intro (fun c10 => ?_) (fun c10 => ?_)
  · replace h := ha c10
    clear ha hb
    intro _
    obtain ⟨k1, h⟩ := h
    refine And.intro k1 ?_
    refine And.intro k1 ?_
    obtain ⟨k2, h⟩ := h
    refine And.intro k2 ?_
    obtain ⟨k3, h⟩ := h
    obtain ⟨k4, h⟩ := h
    refine And.intro (And.intro k3 k4) ?_
    refine And.intro k1 ?_
    obtain ⟨k5, h⟩ := h
    refine And.intro k5 ?_
    obtain ⟨k6, h⟩ := h
    obtain ⟨k7, h⟩ := h
    refine And.intro (And.intro k6 k7) ?_
    obtain ⟨k8, h⟩ := h
    refine And.intro k8 ?_
    obtain ⟨k9, h⟩ := h
    obtain ⟨k10, h⟩ := h
    refine And.intro (And.intro k9 k10) ?_
    intro μ_1 e_μ_1
    replace h := h μ_1 e_μ_1
    refine And.intro k1 ?_
    refine And.intro k2 ?_
    refine And.intro (And.intro k3 k4) ?_
    refine And.intro k2 ?_
    refine And.intro (And.intro k3 k4) ?_
    intro μ_2 e_μ_2
    replace h := h μ_2 e_μ_2
    exact h
  · replace h := hb c10
    clear ha hb
    intro _
    exact h
set_option maxRecDepth 20000 in
theorem g_X12_touches_131 {Q X : m_Po} {v0 v1 v2 v3 : Int} {ε : m_E} {μ : m_M} (h : TY ε μ → i32 v1 → i32 v2 → i32 v3 → kd ε v0 = 11 ∧ kd ε (fn ε v0 52) = 107 ∧ 1 < ln ε (fn ε v0 52) ∧ kd ε (μ (fn ε v0 52) 1) = 10 ∧ o_X11_isNothing [(2, μ (fn ε v0 52) 1)] ε μ (fun z ε_1 μ_1 => G cd_X12_touches Q X 140 [(0, (2, v0)), (1, (0, v1)), (2, (0, v2)), (3, (0, v3))] [(0, z)] ε_1 μ_1) m_F) : G cd_X12_touches Q X 131 [(0, (2, v0)), (1, (0, v1)), (2, (0, v2)), (3, (0, v3))] [] ε μ := by
  refine G_run (m_in [13, 27, 50, 65, 88, 109, 131, 140, 178]) 15 _ _ _ _ ?_
  show m_ty [(0, (2, v0)), (1, (0, v1)), (2, (0, v2)), (3, (0, v3))] [] ε μ → (kd ε v0 = 11) ∧ (kd ε (fn ε v0 52) = 107) ∧ ((0 : Int) ≤ 1 ∧ 1 < ln ε (fn ε v0 52)) ∧ (kd ε (μ (fn ε v0 52) 1) = 10) ∧ o_X11_isNothing [(2, μ (fn ε v0 52) 1)] ε μ (fun z ε_1 μ_1 => G cd_X12_touches Q X 140 [(0, (2, v0)), (1, (0, v1)), (2, (0, v2)), (3, (0, v3))] [(0, z)] ε_1 μ_1) m_F
  intro hty
  replace h := h hty.1 (hty.2.1 _ (List.mem_of_getElem? (i := 1) rfl)) (hty.2.1 _ (List.mem_of_getElem? (i := 2) rfl)) (hty.2.1 _ (List.mem_of_getElem? (i := 3) rfl))
  obtain ⟨k1, h⟩ := h
  refine And.intro k1 ?_
  obtain ⟨k2, h⟩ := h
  refine And.intro k2 ?_
  obtain ⟨k3, h⟩ := h
  refine And.intro (And.intro (by decide) k3) ?_
  obtain ⟨k4, h⟩ := h
  refine And.intro k4 ?_
  exact h
set_option maxRecDepth 20000 in
theorem g_X12_touches_109 {Q X : m_Po} {v0 v1 v2 v3 : Int} {ε : m_E} {μ : m_M} (h : TY ε μ → i32 v1 → i32 v2 → i32 v3 → kd ε v0 = 11 ∧ kd ε (fn ε v0 52) = 107 ∧ 1 < ln ε (fn ε v0 52) ∧ 5 < ln ε (fn ε v0 52) ∧ kd ε (μ (fn ε v0 52) 1) = 10 ∧ o_X11_sum [(2, μ (fn ε v0 52) 1), (2, μ (fn ε v0 52) 1), (2, μ (fn ε v0 52) 5), (0, 0)] ε μ (fun z ε_1 μ_1 => G cd_X12_touches Q X 131 [(0, (2, v0)), (1, (0, v1)), (2, (0, v2)), (3, (0, v3))] [] ε_1 μ_1) m_F) : G cd_X12_touches Q X 109 [(0, (2, v0)), (1, (0, v1)), (2, (0, v2)), (3, (0, v3))] [] ε μ := by
  refine G_run (m_in [13, 27, 50, 65, 88, 109, 131, 140, 178]) 15 _ _ _ _ ?_
  show m_ty [(0, (2, v0)), (1, (0, v1)), (2, (0, v2)), (3, (0, v3))] [] ε μ → (kd ε v0 = 11) ∧ (kd ε (fn ε v0 52) = 107) ∧ ((0 : Int) ≤ 1 ∧ 1 < ln ε (fn ε v0 52)) ∧ (kd ε v0 = 11) ∧ (kd ε (fn ε v0 52) = 107) ∧ ((0 : Int) ≤ 1 ∧ 1 < ln ε (fn ε v0 52)) ∧ (kd ε v0 = 11) ∧ (kd ε (fn ε v0 52) = 107) ∧ ((0 : Int) ≤ 5 ∧ 5 < ln ε (fn ε v0 52)) ∧ (kd ε (μ (fn ε v0 52) 1) = 10) ∧ o_X11_sum [(2, μ (fn ε v0 52) 1), (2, μ (fn ε v0 52) 1), (2, μ (fn ε v0 52) 5), (0, 0)] ε μ (fun z ε_1 μ_1 => G cd_X12_touches Q X 131 [(0, (2, v0)), (1, (0, v1)), (2, (0, v2)), (3, (0, v3))] [] ε_1 μ_1) m_F
  intro hty
  replace h := h hty.1 (hty.2.1 _ (List.mem_of_getElem? (i := 1) rfl)) (hty.2.1 _ (List.mem_of_getElem? (i := 2) rfl)) (hty.2.1 _ (List.mem_of_getElem? (i := 3) rfl))
  obtain ⟨k1, h⟩ := h
  refine And.intro k1 ?_
  obtain ⟨k2, h⟩ := h
  refine And.intro k2 ?_
  obtain ⟨k3, h⟩ := h
  refine And.intro (And.intro (by decide) k3) ?_
  refine And.intro k1 ?_
  refine And.intro k2 ?_
  refine And.intro (And.intro (by decide) k3) ?_
  refine And.intro k1 ?_
  refine And.intro k2 ?_
  obtain ⟨k4, h⟩ := h
  refine And.intro (And.intro (by decide) k4) ?_
  obtain ⟨k5, h⟩ := h
  refine And.intro k5 ?_
  exact h
set_option maxRecDepth 20000 in
theorem g_X12_touches_88 {Q X : m_Po} {v0 v1 v2 v3 : Int} {ε : m_E} {μ : m_M} (h : TY ε μ → i32 v1 → i32 v2 → i32 v3 → kd ε v0 = 11 ∧ kd ε (fn ε v0 52) = 107 ∧ 5 < ln ε (fn ε v0 52) ∧ 2 < ln ε (fn ε v0 52) ∧ 4 < ln ε (fn ε v0 52) ∧ kd ε (μ (fn ε v0 52) 5) = 10 ∧ o_X11_product [(2, μ (fn ε v0 52) 5), (2, μ (fn ε v0 52) 2), (2, μ (fn ε v0 52) 4)] ε μ (fun z ε_1 μ_1 => G cd_X12_touches Q X 109 [(0, (2, v0)), (1, (0, v1)), (2, (0, v2)), (3, (0, v3))] [] ε_1 μ_1) m_F) : G cd_X12_touches Q X 88 [(0, (2, v0)), (1, (0, v1)), (2, (0, v2)), (3, (0, v3))] [] ε μ := by
  refine G_run (m_in [13, 27, 50, 65, 88, 109, 131, 140, 178]) 15 _ _ _ _ ?_
  show m_ty [(0, (2, v0)), (1, (0, v1)), (2, (0, v2)), (3, (0, v3))] [] ε μ → (kd ε v0 = 11) ∧ (kd ε (fn ε v0 52) = 107) ∧ ((0 : Int) ≤ 5 ∧ 5 < ln ε (fn ε v0 52)) ∧ (kd ε v0 = 11) ∧ (kd ε (fn ε v0 52) = 107) ∧ ((0 : Int) ≤ 2 ∧ 2 < ln ε (fn ε v0 52)) ∧ (kd ε v0 = 11) ∧ (kd ε (fn ε v0 52) = 107) ∧ ((0 : Int) ≤ 4 ∧ 4 < ln ε (fn ε v0 52)) ∧ (kd ε (μ (fn ε v0 52) 5) = 10) ∧ o_X11_product [(2, μ (fn ε v0 52) 5), (2, μ (fn ε v0 52) 2), (2, μ (fn ε v0 52) 4)] ε μ (fun z ε_1 μ_1 => G cd_X12_touches Q X 109 [(0, (2, v0)), (1, (0, v1)), (2, (0, v2)), (3, (0, v3))] [] ε_1 μ_1) m_F
  intro hty
  replace h := h hty.1 (hty.2.1 _ (List.mem_of_getElem? (i := 1) rfl)) (hty.2.1 _ (List.mem_of_getElem? (i := 2) rfl)) (hty.2.1 _ (List.mem_of_getElem? (i := 3) rfl))
  obtain ⟨k1, h⟩ := h
  refine And.intro k1 ?_
  obtain ⟨k2, h⟩ := h
  refine And.intro k2 ?_
  obtain ⟨k3, h⟩ := h
  refine And.intro (And.intro (by decide) k3) ?_
  refine And.intro k1 ?_
  refine And.intro k2 ?_
  obtain ⟨k4, h⟩ := h
  refine And.intro (And.intro (by decide) k4) ?_
  refine And.intro k1 ?_
  refine And.intro k2 ?_
  obtain ⟨k5, h⟩ := h
  refine And.intro (And.intro (by decide) k5) ?_
  obtain ⟨k6, h⟩ := h
  refine And.intro k6 ?_
  exact h
set_option maxRecDepth 20000 in
theorem g_X12_touches_65 {Q X : m_Po} {v0 v1 v2 v3 : Int} {ε : m_E} {μ : m_M} (h : TY ε μ → i32 v1 → i32 v2 → i32 v3 → kd ε v0 = 11 ∧ kd ε (fn ε v0 52) = 107 ∧ 2 < ln ε (fn ε v0 52) ∧ 0 < ln ε (fn ε v0 52) ∧ kd ε (fn ε v0 50) = 107 ∧ (0 : Int) ≤ w32 (v2 + 2) ∧ w32 (v2 + 2) < ln ε (fn ε v0 50) ∧ kd ε (μ (fn ε v0 52) 2) = 10 ∧ o_X11_product [(2, μ (fn ε v0 52) 2), (2, μ (fn ε v0 52) 0), (2, μ (fn ε v0 50) (w32 (v2 + 2)))] ε μ (fun z ε_1 μ_1 => G cd_X12_touches Q X 88 [(0, (2, v0)), (1, (0, v1)), (2, (0, v2)), (3, (0, v3))] [] ε_1 μ_1) m_F) : G cd_X12_touches Q X 65 [(0, (2, v0)), (1, (0, v1)), (2, (0, v2)), (3, (0, v3))] [] ε μ := by
  refine G_run (m_in [13, 27, 50, 65, 88, 109, 131, 140, 178]) 15 _ _ _ _ ?_
  show m_ty [(0, (2, v0)), (1, (0, v1)), (2, (0, v2)), (3, (0, v3))] [] ε μ → (kd ε v0 = 11) ∧ (kd ε (fn ε v0 52) = 107) ∧ ((0 : Int) ≤ 2 ∧ 2 < ln ε (fn ε v0 52)) ∧ (kd ε v0 = 11) ∧ (kd ε (fn ε v0 52) = 107) ∧ ((0 : Int) ≤ 0 ∧ 0 < ln ε (fn ε v0 52)) ∧ (kd ε v0 = 11) ∧ (kd ε (fn ε v0 50) = 107) ∧ ((0 : Int) ≤ w32 (v2 + 2) ∧ w32 (v2 + 2) < ln ε (fn ε v0 50)) ∧ (kd ε (μ (fn ε v0 52) 2) = 10) ∧ o_X11_product [(2, μ (fn ε v0 52) 2), (2, μ (fn ε v0 52) 0), (2, μ (fn ε v0 50) (w32 (v2 + 2)))] ε μ (fun z ε_1 μ_1 => G cd_X12_touches Q X 88 [(0, (2, v0)), (1, (0, v1)), (2, (0, v2)), (3, (0, v3))] [] ε_1 μ_1) m_F
  intro hty
  replace h := h hty.1 (hty.2.1 _ (List.mem_of_getElem? (i := 1) rfl)) (hty.2.1 _ (List.mem_of_getElem? (i := 2) rfl)) (hty.2.1 _ (List.mem_of_getElem? (i := 3) rfl))
  obtain ⟨k1, h⟩ := h
  refine And.intro k1 ?_
  obtain ⟨k2, h⟩ := h
  refine And.intro k2 ?_
  obtain ⟨k3, h⟩ := h
  refine And.intro (And.intro (by decide) k3) ?_
  refine And.intro k1 ?_
  refine And.intro k2 ?_
  obtain ⟨k4, h⟩ := h
  refine And.intro (And.intro (by decide) k4) ?_
  refine And.intro k1 ?_
  obtain ⟨k5, h⟩ := h
  refine And.intro k5 ?_
  obtain ⟨k6, h⟩ := h
  obtain ⟨k7, h⟩ := h
  refine And.intro (And.intro k6 k7) ?_
  obtain ⟨k8, h⟩ := h
  refine And.intro k8 ?_
  exact h
set_option maxRecDepth 20000 in
theorem g_X12_touches_50 {Q X : m_Po} {v0 v1 v2 v3 : Int} {ε : m_E} {μ : m_M} (h : TY ε μ → i32 v1 → i32 v2 → i32 v3 → kd ε v0 = 11 ∧ kd ε (fn ε v0 52) = 107 ∧ 0 < ln ε (fn ε v0 52) ∧ kd ε (fn ε v0 32) = 101 ∧ (0 : Int) ≤ v3 ∧ v3 < ln ε (fn ε v0 32) ∧ kd ε (μ (fn ε v0 52) 0) = 10 ∧ o_X11_set [(2, μ (fn ε v0 52) 0), (1, μ (fn ε v0 32) v3)] ε μ (fun z ε_1 μ_1 => G cd_X12_touches Q X 65 [(0, (2, v0)), (1, (0, v1)), (2, (0, v2)), (3, (0, v3))] [] ε_1 μ_1) m_F) : G cd_X12_touches Q X 50 [(0, (2, v0)), (1, (0, v1)), (2, (0, v2)), (3, (0, v3))] [] ε μ := by
  refine G_run (m_in [13, 27, 50, 65, 88, 109, 131, 140, 178]) 15 _ _ _ _ ?_
  show m_ty [(0, (2, v0)), (1, (0, v1)), (2, (0, v2)), (3, (0, v3))] [] ε μ → (kd ε v0 = 11) ∧ (kd ε (fn ε v0 52) = 107) ∧ ((0 : Int) ≤ 0 ∧ 0 < ln ε (fn ε v0 52)) ∧ (kd ε v0 = 11) ∧ (kd ε (fn ε v0 32) = 101) ∧ ((0 : Int) ≤ v3 ∧ v3 < ln ε (fn ε v0 32)) ∧ (kd ε (μ (fn ε v0 52) 0) = 10) ∧ o_X11_set [(2, μ (fn ε v0 52) 0), (1, μ (fn ε v0 32) v3)] ε μ (fun z ε_1 μ_1 => G cd_X12_touches Q X 65 [(0, (2, v0)), (1, (0, v1)), (2, (0, v2)), (3, (0, v3))] [] ε_1 μ_1) m_F
  intro hty
  replace h := h hty.1 (hty.2.1 _ (List.mem_of_getElem? (i := 1) rfl)) (hty.2.1 _ (List.mem_of_getElem? (i := 2) rfl)) (hty.2.1 _ (List.mem_of_getElem? (i := 3) rfl))
  obtain ⟨k1, h⟩ := h
  refine And.intro k1 ?_
  obtain ⟨k2, h⟩ := h
  refine And.intro k2 ?_
  obtain ⟨k3, h⟩ := h
  refine And.intro (And.intro (by decide) k3) ?_
  refine And.intro k1 ?_
  obtain ⟨k4, h⟩ := h
  refine And.intro k4 ?_
  obtain ⟨k5, h⟩ := h
  obtain ⟨k6, h⟩ := h
  refine And.intro (And.intro k5 k6) ?_
  obtain ⟨k7, h⟩ := h
  refine And.intro k7 ?_
  exact h
set_option maxRecDepth 20000 in
theorem g_X12_touches_27 {Q X : m_Po} {v0 v1 v2 v3 : Int} {ε : m_E} {μ : m_M} (h : TY ε μ → i32 v1 → i32 v2 → i32 v3 → kd ε v0 = 11 ∧ kd ε (fn ε v0 52) = 107 ∧ 1 < ln ε (fn ε v0 52) ∧ 3 < ln ε (fn ε v0 52) ∧ kd ε (fn ε v0 51) = 107 ∧ (0 : Int) ≤ w32 (v2 + 2) ∧ w32 (v2 + 2) < ln ε (fn ε v0 51) ∧ kd ε (μ (fn ε v0 52) 1) = 10 ∧ o_X11_product [(2, μ (fn ε v0 52) 1), (2, μ (fn ε v0 52) 3), (2, μ (fn ε v0 51) (w32 (v2 + 2)))] ε μ (fun z ε_1 μ_1 => G cd_X12_touches Q X 50 [(0, (2, v0)), (1, (0, v1)), (2, (0, v2)), (3, (0, v3))] [] ε_1 μ_1) m_F) : G cd_X12_touches Q X 27 [(0, (2, v0)), (1, (0, v1)), (2, (0, v2)), (3, (0, v3))] [] ε μ := by
  refine G_run (m_in [13, 27, 50, 65, 88, 109, 131, 140, 178]) 15 _ _ _ _ ?_
  show m_ty [(0, (2, v0)), (1, (0, v1)), (2, (0, v2)), (3, (0, v3))] [] ε μ → (kd ε v0 = 11) ∧ (kd ε (fn ε v0 52) = 107) ∧ ((0 : Int) ≤ 1 ∧ 1 < ln ε (fn ε v0 52)) ∧ (kd ε v0 = 11) ∧ (kd ε (fn ε v0 52) = 107) ∧ ((0 : Int) ≤ 3 ∧ 3 < ln ε (fn ε v0 52)) ∧ (kd ε v0 = 11) ∧ (kd ε (fn ε v0 51) = 107) ∧ ((0 : Int) ≤ w32 (v2 + 2) ∧ w32 (v2 + 2) < ln ε (fn ε v0 51)) ∧ (kd ε (μ (fn ε v0 52) 1) = 10) ∧ o_X11_product [(2, μ (fn ε v0 52) 1), (2, μ (fn ε v0 52) 3), (2, μ (fn ε v0 51) (w32 (v2 + 2)))] ε μ (fun z ε_1 μ_1 => G cd_X12_touches Q X 50 [(0, (2, v0)), (1, (0, v1)), (2, (0, v2)), (3, (0, v3))] [] ε_1 μ_1) m_F
  intro hty
  replace h := h hty.1 (hty.2.1 _ (List.mem_of_getElem? (i := 1) rfl)) (hty.2.1 _ (List.mem_of_getElem? (i := 2) rfl)) (hty.2.1 _ (List.mem_of_getElem? (i := 3) rfl))
  obtain ⟨k1, h⟩ := h
  refine And.intro k1 ?_
  obtain ⟨k2, h⟩ := h
  refine And.intro k2 ?_
  obtain ⟨k3, h⟩ := h
  refine And.intro (And.intro (by decide) k3) ?_
  refine And.intro k1 ?_
  refine And.intro k2 ?_
  obtain ⟨k4, h⟩ := h
  refine And.intro (And.intro (by decide) k4) ?_
  refine And.intro k1 ?_
  obtain ⟨k5, h⟩ := h
  refine And.intro k5 ?_
  obtain ⟨k6, h⟩ := h
  obtain ⟨k7, h⟩ := h
  refine And.intro (And.intro k6 k7) ?_
  obtain ⟨k8, h⟩ := h
  refine And.intro k8 ?_
  exact h
set_option maxRecDepth 20000 in
theorem g_X12_touches_13 {Q X : m_Po} {v0 v1 v2 v3 : Int} {ε : m_E} {μ : m_M} (h : TY ε μ → i32 v1 → i32 v2 → i32 v3 → kd ε v0 = 11 ∧ ((μ v0 35) ≤ v3 → Q 0 ε μ) ∧ (v3 < (μ v0 35) → o_X12_known [(2, v0), (0, v3), (0, v2)] ε μ (fun z ε_1 μ_1 => G cd_X12_touches Q X 27 [(0, (2, v0)), (1, (0, v1)), (2, (0, v2)), (3, (0, v3))] [] ε_1 μ_1) m_F)) : G cd_X12_touches Q X 13 [(0, (2, v0)), (1, (0, v1)), (2, (0, v2)), (3, (0, v3))] [] ε μ := by
  refine G_run (m_in [13, 27, 50, 65, 88, 109, 131, 140, 178]) 15 _ _ _ _ ?_
  show m_ty [(0, (2, v0)), (1, (0, v1)), (2, (0, v2)), (3, (0, v3))] [] ε μ → (kd ε v0 = 11) ∧ ((μ v0 35) ≤ v3 → (m_ty [] [] ε μ → Q 0 ε μ)) ∧ (v3 < (μ v0 35) → (m_ty [(0, (2, v0)), (1, (0, v1)), (2, (0, v2)), (3, (0, v3))] [] ε μ → (kd ε v0 = 11) ∧ o_X12_known [(2, v0), (0, v3), (0, v2)] ε μ (fun z ε_1 μ_1 => G cd_X12_touches Q X 27 [(0, (2, v0)), (1, (0, v1)), (2, (0, v2)), (3, (0, v3))] [] ε_1 μ_1) m_F))
  intro hty
  replace h := h hty.1 (hty.2.1 _ (List.mem_of_getElem? (i := 1) rfl)) (hty.2.1 _ (List.mem_of_getElem? (i := 2) rfl)) (hty.2.1 _ (List.mem_of_getElem? (i := 3) rfl))
  obtain ⟨k1, h⟩ := h
  refine And.intro k1 ?_
  obtain ⟨ha, hb⟩ := h
  refine And.intro (fun c1 => ?_) (fun c1 => ?_)
  · replace h := ha c1
    clear ha hb
    intro _
    exact h
  · replace h := hb c1
    clear ha hb
    intro _
    refine And.intro k1 ?_
    exact h
set_option maxRecDepth 20000 in
theorem g_X12_touches_0 {Q X : m_Po} {v0 v1 : Int} {ε : m_E} {μ : m_M} (h : TY ε μ → i32 v1 → ∀ v2 : Int, v2 = w32 (3 * v1) → kd ε v0 = 11 ∧ kd ε (fn ε v0 56) = 100 ∧ (0 : Int) ≤ v1 ∧ v1 < ln ε (fn ε v0 56) ∧ ∀ μ_1 : m_M, μ_1 = st μ (fn ε v0 56) v1 0 → ∀ v3 : Int, v3 = 0 → G cd_X12_touches Q X 13 [(0, (2, v0)), (1, (0, v1)), (2, (0, v2)), (3, (0, v3))] [] ε μ_1) : G cd_X12_touches Q X 0 [(0, (2, v0)), (1, (0, v1))] [] ε μ := by
  refine G_run (m_in [13, 27, 50, 65, 88, 109, 131, 140, 178]) 15 _ _ _ _ ?_
  show m_ty [(0, (2, v0)), (1, (0, v1))] [] ε μ → ∀ v2 : Int, v2 = w32 (3 * v1) → (kd ε v0 = 11) ∧ (kd ε (fn ε v0 56) = 100) ∧ ((0 : Int) ≤ v1 ∧ v1 < ln ε (fn ε v0 56)) ∧ ∀ μ_1 : m_M, μ_1 = st μ (fn ε v0 56) v1 0 → ∀ v3 : Int, v3 = 0 → G cd_X12_touches Q X 13 [(0, (2, v0)), (1, (0, v1)), (2, (0, v2)), (3, (0, v3))] [] ε μ_1
  intro hty
  replace h := h hty.1 (hty.2.1 _ (List.mem_of_getElem? (i := 1) rfl))
  intro v2 e_v2
  replace h := h v2 e_v2
  obtain ⟨k1, h⟩ := h
  refine And.intro k1 ?_
  obtain ⟨k2, h⟩ := h
  refine And.intro k2 ?_
  obtain ⟨k3, h⟩ := h
  obtain ⟨k4, h⟩ := h
  refine And.intro (And.intro k3 k4) ?_
  intro μ_1 e_μ_1
  replace h := h μ_1 e_μ_1
  intro v3 e_v3
  replace h := h v3 e_v3
  exact h
theorem e_X12_touches {Q X : m_Po} {v0 v1 : Int} {ε : m_E} {μ : m_M} (h : TY ε μ → i32 v1 → ∀ v2 : Int, v2 = w32 (3 * v1) → kd ε v0 = 11 ∧ kd ε (fn ε v0 56) = 100 ∧ (0 : Int) ≤ v1 ∧ v1 < ln ε (fn ε v0 56) ∧ ∀ μ_1 : m_M, μ_1 = st μ (fn ε v0 56) v1 0 → ∀ v3 : Int, v3 = 0 → G cd_X12_touches Q X 13 [(0, (2, v0)), (1, (0, v1)), (2, (0, v2)), (3, (0, v3))] [] ε μ_1) : o_X12_touches [(2, v0), (0, v1)] ε μ Q X := And.intro rfl (g_X12_touches_0 h)
/-! ArchYardModel.isNever(I)Z -/
set_option maxRecDepth 20000 in
theorem g_X12_isNever_247 {Q X : m_Po} {ε : m_E} {μ : m_M} (h : TY ε μ → Q 1 ε μ) : G cd_X12_isNever Q X 247 [] [] ε μ := by
  refine G_run (m_in [5, 22, 26, 39, 42, 80, 101, 122, 144, 171, 184, 226, 247]) 24 _ _ _ _ ?_
  show m_ty [] [] ε μ → (1 = 0 ∨ 1 = 1) ∧ Q 1 ε μ
  intro hty
  replace h := h hty.1 
  refine And.intro (Or.inr rfl) ?_
  exact h
set_option maxRecDepth 20000 in
theorem g_X12_isNever_226 {Q X : m_Po} {v0 v1 v4 : Int} {ε : m_E} {μ : m_M} (h : TY ε μ → i32 v1 → i32 v4 → ∀ v4_1 : Int, v4_1 = w32 (v4 + 1) → G cd_X12_isNever Q X 184 [(0, (2, v0)), (1, (0, v1)), (4, (0, v4_1))] [] ε μ) : G cd_X12_isNever Q X 226 [(0, (2, v0)), (1, (0, v1)), (4, (0, v4))] [] ε μ := by
  refine G_run (m_in [5, 22, 26, 39, 42, 80, 101, 122, 144, 171, 184, 226, 247]) 24 _ _ _ _ ?_
  show m_ty [(0, (2, v0)), (1, (0, v1)), (4, (0, v4))] [] ε μ → ∀ v4_1 : Int, v4_1 = w32 (v4 + 1) → G cd_X12_isNever Q X 184 [(0, (2, v0)), (1, (0, v1)), (4, (0, v4_1))] [] ε μ
  intro hty
  replace h := h hty.1 (hty.2.1 _ (List.mem_of_getElem? (i := 1) rfl)) (hty.2.1 _ (List.mem_of_getElem? (i := 2) rfl))
  intro v4_1 e_v4_1
  replace h := h v4_1 e_v4_1
  exact h
set_option maxRecDepth 20000 in
theorem g_X12_isNever_184 {Q X : m_Po} {v0 v1 v4 : Int} {ε : m_E} {μ : m_M} (h : TY ε μ → i32 v1 → i32 v4 → (v1 ≤ v4 → kd ε v0 = 11 ∧ kd ε (fn ε v0 58) = 107 ∧ 4 < ln ε (fn ε v0 58) ∧ kd ε (fn ε v0 52) = 107 ∧ 4 < ln ε (fn ε v0 52) ∧ kd ε (μ (fn ε v0 58) 4) = 10 ∧ o_X11_take [(2, μ (fn ε v0 58) 4), (2, μ (fn ε v0 52) 4)] ε μ (fun z ε_1 μ_1 => G cd_X12_isNever Q X 247 [] [] ε_1 μ_1) m_F) ∧ (v4 < v1 → kd ε v0 = 11 ∧ kd ε (fn ε v0 61) = 100 ∧ (0 : Int) ≤ v4 ∧ v4 < ln ε (fn ε v0 61) ∧ kd ε (fn ε v0 34) = 100 ∧ (0 : Int) ≤ μ (fn ε v0 61) v4 ∧ μ (fn ε v0 61) v4 < ln ε (fn ε v0 34) ∧ kd ε (fn ε v0 57) = 100 ∧ v4 < ln ε (fn ε v0 57) ∧ ∀ μ_2 : m_M, μ_2 = st μ (fn ε v0 57) v4 (μ (fn ε v0 34) (μ (fn ε v0 61) v4)) → kd ε (fn ε v0 58) = 107 ∧ v4 < ln ε (fn ε v0 58) ∧ kd ε (fn ε v0 60) = 101 ∧ v4 < ln ε (fn ε v0 60) ∧ kd ε (μ_2 (fn ε v0 58) v4) = 10 ∧ o_X11_set [(2, μ_2 (fn ε v0 58) v4), (1, μ_2 (fn ε v0 60) v4)] ε μ_2 (fun z_1 ε_2 μ_3 => G cd_X12_isNever Q X 226 [(0, (2, v0)), (1, (0, v1)), (4, (0, v4))] [] ε_2 μ_3) m_F)) : G cd_X12_isNever Q X 184 [(0, (2, v0)), (1, (0, v1)), (4, (0, v4))] [] ε μ := by
  refine G_run (m_in [5, 22, 26, 39, 42, 80, 101, 122, 144, 171, 184, 226, 247]) 24 _ _ _ _ ?_
  show m_ty [(0, (2, v0)), (1, (0, v1)), (4, (0, v4))] [] ε μ → (v1 ≤ v4 → (m_ty [(0, (2, v0))] [] ε μ → (kd ε v0 = 11) ∧ (kd ε (fn ε v0 58) = 107) ∧ ((0 : Int) ≤ 4 ∧ 4 < ln ε (fn ε v0 58)) ∧ (kd ε v0 = 11) ∧ (kd ε (fn ε v0 52) = 107) ∧ ((0 : Int) ≤ 4 ∧ 4 < ln ε (fn ε v0 52)) ∧ (kd ε (μ (fn ε v0 58) 4) = 10) ∧ o_X11_take [(2, μ (fn ε v0 58) 4), (2, μ (fn ε v0 52) 4)] ε μ (fun z ε_1 μ_1 => G cd_X12_isNever Q X 247 [] [] ε_1 μ_1) m_F)) ∧ (v4 < v1 → (m_ty [(0, (2, v0)), (1, (0, v1)), (4, (0, v4))] [] ε μ → (kd ε v0 = 11) ∧ (kd ε v0 = 11) ∧ (kd ε v0 = 11) ∧ (kd ε (fn ε v0 61) = 100) ∧ ((0 : Int) ≤ v4 ∧ v4 < ln ε (fn ε v0 61)) ∧ (kd ε (fn ε v0 34) = 100) ∧ ((0 : Int) ≤ μ (fn ε v0 61) v4 ∧ μ (fn ε v0 61) v4 < ln ε (fn ε v0 34)) ∧ (kd ε (fn ε v0 57) = 100) ∧ ((0 : Int) ≤ v4 ∧ v4 < ln ε (fn ε v0 57)) ∧ ∀ μ_2 : m_M, μ_2 = st μ (fn ε v0 57) v4 (μ (fn ε v0 34) (μ (fn ε v0 61) v4)) → (kd ε v0 = 11) ∧ (kd ε (fn ε v0 58) = 107) ∧ ((0 : Int) ≤ v4 ∧ v4 < ln ε (fn ε v0 58)) ∧ (kd ε v0 = 11) ∧ (kd ε (fn ε v0 60) = 101) ∧ ((0 : Int) ≤ v4 ∧ v4 < ln ε (fn ε v0 60)) ∧ (kd ε (μ_2 (fn ε v0 58) v4) = 10) ∧ o_X11_set [(2, μ_2 (fn ε v0 58) v4), (1, μ_2 (fn ε v0 60) v4)] ε μ_2 (fun z_1 ε_2 μ_3 => G cd_X12_isNever Q X 226 [(0, (2, v0)), (1, (0, v1)), (4, (0, v4))] [] ε_2 μ_3) m_F))
  intro hty
  replace h := h hty.1 (hty.2.1 _ (List.mem_of_getElem? (i := 1) rfl)) (hty.2.1 _ (List.mem_of_getElem? (i := 2) rfl))
  obtain ⟨ha, hb⟩ := h
  refine And.intro (fun c20 => ?_) (fun c20 => ?_)
  · replace h := ha c20
    clear ha hb
    intro _
    obtain ⟨k1, h⟩ := h
    refine And.intro k1 ?_
    obtain ⟨k2, h⟩ := h
    refine And.intro k2 ?_
    obtain ⟨k3, h⟩ := h
    refine And.intro (And.intro (by decide) k3) ?_
    refine And.intro k1 ?_
    obtain ⟨k4, h⟩ := h
    refine And.intro k4 ?_
    obtain ⟨k5, h⟩ := h
    refine And.intro (And.intro (by decide) k5) ?_
    obtain ⟨k6, h⟩ := h
    refine And.intro k6 ?_
    exact h
  · replace h := hb c20
    clear ha hb
    intro _
    obtain ⟨k7, h⟩ := h
    refine And.intro k7 ?_
    refine And.intro k7 ?_
    refine And.intro k7 ?_
    obtain ⟨k8, h⟩ := h
    refine And.intro k8 ?_
    obtain ⟨k9, h⟩ := h
    obtain ⟨k10, h⟩ := h
    refine And.intro (And.intro k9 k10) ?_
    obtain ⟨k11, h⟩ := h
    refine And.intro k11 ?_
    obtain ⟨k12, h⟩ := h
    obtain ⟨k13, h⟩ := h
    refine And.intro (And.intro k12 k13) ?_
    obtain ⟨k14, h⟩ := h
    refine And.intro k14 ?_
    obtain ⟨k15, h⟩ := h
    refine And.intro (And.intro k9 k15) ?_
    intro μ_2 e_μ_2
    replace h := h μ_2 e_μ_2
    refine And.intro k7 ?_
    obtain ⟨k16, h⟩ := h
    refine And.intro k16 ?_
    obtain ⟨k17, h⟩ := h
    refine And.intro (And.intro k9 k17) ?_
    refine And.intro k7 ?_
    obtain ⟨k18, h⟩ := h
    refine And.intro k18 ?_
    obtain ⟨k19, h⟩ := h
    refine And.intro (And.intro k9 k19) ?_
    obtain ⟨k20, h⟩ := h
    refine And.intro k20 ?_
    exact h
set_option maxRecDepth 20000 in
theorem g_X12_isNever_171 {Q X : m_Po} {v0 v1 t : Int} {ε : m_E} {μ : m_M} (h : TY ε μ → i32 v1 → i32 t → (t = 0 → kd ε v0 = 11 ∧ ∀ μ_1 : m_M, μ_1 = st μ v0 59 v1 → ∀ v4 : Int, v4 = 0 → G cd_X12_isNever Q X 184 [(0, (2, v0)), (1, (0, v1)), (4, (0, v4))] [] ε μ_1) ∧ (t ≠ 0 → Q 0 ε μ)) : G cd_X12_isNever Q X 171 [(0, (2, v0)), (1, (0, v1))] [(0, t)] ε μ := by
  refine G_run (m_in [5, 22, 26, 39, 42, 80, 101, 122, 144, 171, 184, 226, 247]) 24 _ _ _ _ ?_
  show m_ty [(0, (2, v0)), (1, (0, v1))] [(0, t)] ε μ → (t = 0 → (m_ty [(0, (2, v0)), (1, (0, v1))] [] ε μ → (kd ε v0 = 11) ∧ ∀ μ_1 : m_M, μ_1 = st μ v0 59 v1 → ∀ v4 : Int, v4 = 0 → G cd_X12_isNever Q X 184 [(0, (2, v0)), (1, (0, v1)), (4, (0, v4))] [] ε μ_1)) ∧ (t ≠ 0 → (m_ty [] [] ε μ → (0 = 0 ∨ 0 = 1) ∧ Q 0 ε μ))
  intro hty
  replace h := h hty.1 (hty.2.1 _ (List.mem_of_getElem? (i := 1) rfl)) (hty.2.2 _ (List.mem_of_getElem? (i := 0) rfl))
  obtain ⟨ha, hb⟩ := h
  refine And.intro (fun c1 => ?_) (fun c1 => ?_)
  · replace h := ha c1
    clear ha hb
    intro _
    obtain ⟨k1, h⟩ := h
    refine And.intro k1 ?_
    intro μ_1 e_μ_1
    replace h := h μ_1 e_μ_1
    intro v4 e_v4
    replace h := h v4 e_v4
    exact h
  · replace h := hb c1
    clear ha hb
    intro _
    refine And.intro (Or.inl rfl) ?_
    exact h
set_option maxRecDepth 20000 in
theorem g_X12_isNever_144 {Q X : m_Po} {v0 v1 v2 v4 : Int} {ε : m_E} {μ : m_M} (h : TY ε μ → i32 v1 → i64 v2 → i32 v4 → ∀ v4_1 : Int, v4_1 = w32 (v4 + 1) → G cd_X12_isNever Q X 42 [(0, (2, v0)), (1, (0, v1)), (2, (1, v2)), (4, (0, v4_1))] [] ε μ) : G cd_X12_isNever Q X 144 [(0, (2, v0)), (1, (0, v1)), (2, (1, v2)), (4, (0, v4))] [] ε μ := by
  refine G_run (m_in [5, 22, 26, 39, 42, 80, 101, 122, 144, 171, 184, 226, 247]) 24 _ _ _ _ ?_
  show m_ty [(0, (2, v0)), (1, (0, v1)), (2, (1, v2)), (4, (0, v4))] [] ε μ → ∀ v4_1 : Int, v4_1 = w32 (v4 + 1) → G cd_X12_isNever Q X 42 [(0, (2, v0)), (1, (0, v1)), (2, (1, v2)), (4, (0, v4_1))] [] ε μ
  intro hty
  replace h := h hty.1 (hty.2.1 _ (List.mem_of_getElem? (i := 1) rfl)) (hty.2.1 _ (List.mem_of_getElem? (i := 2) rfl)) (hty.2.1 _ (List.mem_of_getElem? (i := 3) rfl))
  intro v4_1 e_v4_1
  replace h := h v4_1 e_v4_1
  exact h
set_option maxRecDepth 20000 in
theorem g_X12_isNever_122 {Q X : m_Po} {v0 v1 v2 v4 : Int} {ε : m_E} {μ : m_M} (h : TY ε μ → i32 v1 → i64 v2 → i32 v4 → kd ε v0 = 11 ∧ kd ε (fn ε v0 52) = 107 ∧ 4 < ln ε (fn ε v0 52) ∧ 2 < ln ε (fn ε v0 52) ∧ kd ε (μ (fn ε v0 52) 4) = 10 ∧ o_X11_sum [(2, μ (fn ε v0 52) 4), (2, μ (fn ε v0 52) 4), (2, μ (fn ε v0 52) 2), (0, 0)] ε μ (fun z ε_1 μ_1 => G cd_X12_isNever Q X 144 [(0, (2, v0)), (1, (0, v1)), (2, (1, v2)), (4, (0, v4))] [] ε_1 μ_1) m_F) : G cd_X12_isNever Q X 122 [(0, (2, v0)), (1, (0, v1)), (2, (1, v2)), (4, (0, v4))] [] ε μ := by
  refine G_run (m_in [5, 22, 26, 39, 42, 80, 101, 122, 144, 171, 184, 226, 247]) 24 _ _ _ _ ?_
  show m_ty [(0, (2, v0)), (1, (0, v1)), (2, (1, v2)), (4, (0, v4))] [] ε μ → (kd ε v0 = 11) ∧ (kd ε (fn ε v0 52) = 107) ∧ ((0 : Int) ≤ 4 ∧ 4 < ln ε (fn ε v0 52)) ∧ (kd ε v0 = 11) ∧ (kd ε (fn ε v0 52) = 107) ∧ ((0 : Int) ≤ 4 ∧ 4 < ln ε (fn ε v0 52)) ∧ (kd ε v0 = 11) ∧ (kd ε (fn ε v0 52) = 107) ∧ ((0 : Int) ≤ 2 ∧ 2 < ln ε (fn ε v0 52)) ∧ (kd ε (μ (fn ε v0 52) 4) = 10) ∧ o_X11_sum [(2, μ (fn ε v0 52) 4), (2, μ (fn ε v0 52) 4), (2, μ (fn ε v0 52) 2), (0, 0)] ε μ (fun z ε_1 μ_1 => G cd_X12_isNever Q X 144 [(0, (2, v0)), (1, (0, v1)), (2, (1, v2)), (4, (0, v4))] [] ε_1 μ_1) m_F
  intro hty
  replace h := h hty.1 (hty.2.1 _ (List.mem_of_getElem? (i := 1) rfl)) (hty.2.1 _ (List.mem_of_getElem? (i := 2) rfl)) (hty.2.1 _ (List.mem_of_getElem? (i := 3) rfl))
  obtain ⟨k1, h⟩ := h
  refine And.intro k1 ?_
  obtain ⟨k2, h⟩ := h
  refine And.intro k2 ?_
  obtain ⟨k3, h⟩ := h
  refine And.intro (And.intro (by decide) k3) ?_
  refine And.intro k1 ?_
  refine And.intro k2 ?_
  refine And.intro (And.intro (by decide) k3) ?_
  refine And.intro k1 ?_
  refine And.intro k2 ?_
  obtain ⟨k4, h⟩ := h
  refine And.intro (And.intro (by decide) k4) ?_
  obtain ⟨k5, h⟩ := h
  refine And.intro k5 ?_
  exact h
set_option maxRecDepth 20000 in
theorem g_X12_isNever_101 {Q X : m_Po} {v0 v1 v2 v4 : Int} {ε : m_E} {μ : m_M} (h : TY ε μ → i32 v1 → i64 v2 → i32 v4 → kd ε v0 = 11 ∧ kd ε (fn ε v0 52) = 107 ∧ 2 < ln ε (fn ε v0 52) ∧ 0 < ln ε (fn ε v0 52) ∧ 1 < ln ε (fn ε v0 52) ∧ kd ε (μ (fn ε v0 52) 2) = 10 ∧ o_X11_product [(2, μ (fn ε v0 52) 2), (2, μ (fn ε v0 52) 0), (2, μ (fn ε v0 52) 1)] ε μ (fun z ε_1 μ_1 => G cd_X12_isNever Q X 122 [(0, (2, v0)), (1, (0, v1)), (2, (1, v2)), (4, (0, v4))] [] ε_1 μ_1) m_F) : G cd_X12_isNever Q X 101 [(0, (2, v0)), (1, (0, v1)), (2, (1, v2)), (4, (0, v4))] [] ε μ := by
  refine G_run (m_in [5, 22, 26, 39, 42, 80, 101, 122, 144, 171, 184, 226, 247]) 24 _ _ _ _ ?_
  show m_ty [(0, (2, v0)), (1, (0, v1)), (2, (1, v2)), (4, (0, v4))] [] ε μ → (kd ε v0 = 11) ∧ (kd ε (fn ε v0 52) = 107) ∧ ((0 : Int) ≤ 2 ∧ 2 < ln ε (fn ε v0 52)) ∧ (kd ε v0 = 11) ∧ (kd ε (fn ε v0 52) = 107) ∧ ((0 : Int) ≤ 0 ∧ 0 < ln ε (fn ε v0 52)) ∧ (kd ε v0 = 11) ∧ (kd ε (fn ε v0 52) = 107) ∧ ((0 : Int) ≤ 1 ∧ 1 < ln ε (fn ε v0 52)) ∧ (kd ε (μ (fn ε v0 52) 2) = 10) ∧ o_X11_product [(2, μ (fn ε v0 52) 2), (2, μ (fn ε v0 52) 0), (2, μ (fn ε v0 52) 1)] ε μ (fun z ε_1 μ_1 => G cd_X12_isNever Q X 122 [(0, (2, v0)), (1, (0, v1)), (2, (1, v2)), (4, (0, v4))] [] ε_1 μ_1) m_F
  intro hty
  replace h := h hty.1 (hty.2.1 _ (List.mem_of_getElem? (i := 1) rfl)) (hty.2.1 _ (List.mem_of_getElem? (i := 2) rfl)) (hty.2.1 _ (List.mem_of_getElem? (i := 3) rfl))
  obtain ⟨k1, h⟩ := h
  refine And.intro k1 ?_
  obtain ⟨k2, h⟩ := h
  refine And.intro k2 ?_
  obtain ⟨k3, h⟩ := h
  refine And.intro (And.intro (by decide) k3) ?_
  refine And.intro k1 ?_
  refine And.intro k2 ?_
  obtain ⟨k4, h⟩ := h
  refine And.intro (And.intro (by decide) k4) ?_
  refine And.intro k1 ?_
  refine And.intro k2 ?_
  obtain ⟨k5, h⟩ := h
  refine And.intro (And.intro (by decide) k5) ?_
  obtain ⟨k6, h⟩ := h
  refine And.intro k6 ?_
  exact h
set_option maxRecDepth 20000 in
theorem g_X12_isNever_80 {Q X : m_Po} {v0 v1 v2 v4 : Int} {ε : m_E} {μ : m_M} (h : TY ε μ → i32 v1 → i64 v2 → i32 v4 → kd ε v0 = 11 ∧ kd ε (fn ε v0 52) = 107 ∧ 1 < ln ε (fn ε v0 52) ∧ kd ε (fn ε v0 61) = 100 ∧ (0 : Int) ≤ v4 ∧ v4 < ln ε (fn ε v0 61) ∧ kd ε (fn ε v0 33) = 101 ∧ (0 : Int) ≤ μ (fn ε v0 61) v4 ∧ μ (fn ε v0 61) v4 < ln ε (fn ε v0 33) ∧ kd ε (μ (fn ε v0 52) 1) = 10 ∧ o_X11_set [(2, μ (fn ε v0 52) 1), (1, μ (fn ε v0 33) (μ (fn ε v0 61) v4))] ε μ (fun z ε_1 μ_1 => G cd_X12_isNever Q X 101 [(0, (2, v0)), (1, (0, v1)), (2, (1, v2)), (4, (0, v4))] [] ε_1 μ_1) m_F) : G cd_X12_isNever Q X 80 [(0, (2, v0)), (1, (0, v1)), (2, (1, v2)), (4, (0, v4))] [] ε μ := by
  refine G_run (m_in [5, 22, 26, 39, 42, 80, 101, 122, 144, 171, 184, 226, 247]) 24 _ _ _ _ ?_
  show m_ty [(0, (2, v0)), (1, (0, v1)), (2, (1, v2)), (4, (0, v4))] [] ε μ → (kd ε v0 = 11) ∧ (kd ε (fn ε v0 52) = 107) ∧ ((0 : Int) ≤ 1 ∧ 1 < ln ε (fn ε v0 52)) ∧ (kd ε v0 = 11) ∧ (kd ε v0 = 11) ∧ (kd ε (fn ε v0 61) = 100) ∧ ((0 : Int) ≤ v4 ∧ v4 < ln ε (fn ε v0 61)) ∧ (kd ε (fn ε v0 33) = 101) ∧ ((0 : Int) ≤ μ (fn ε v0 61) v4 ∧ μ (fn ε v0 61) v4 < ln ε (fn ε v0 33)) ∧ (kd ε (μ (fn ε v0 52) 1) = 10) ∧ o_X11_set [(2, μ (fn ε v0 52) 1), (1, μ (fn ε v0 33) (μ (fn ε v0 61) v4))] ε μ (fun z ε_1 μ_1 => G cd_X12_isNever Q X 101 [(0, (2, v0)), (1, (0, v1)), (2, (1, v2)), (4, (0, v4))] [] ε_1 μ_1) m_F
  intro hty
  replace h := h hty.1 (hty.2.1 _ (List.mem_of_getElem? (i := 1) rfl)) (hty.2.1 _ (List.mem_of_getElem? (i := 2) rfl)) (hty.2.1 _ (List.mem_of_getElem? (i := 3) rfl))
  obtain ⟨k1, h⟩ := h
  refine And.intro k1 ?_
  obtain ⟨k2, h⟩ := h
  refine And.intro k2 ?_
  obtain ⟨k3, h⟩ := h
  refine And.intro (And.intro (by decide) k3) ?_
  refine And.intro k1 ?_
  refine And.intro k1 ?_
  obtain ⟨k4, h⟩ := h
  refine And.intro k4 ?_
  obtain ⟨k5, h⟩ := h
  obtain ⟨k6, h⟩ := h
  refine And.intro (And.intro k5 k6) ?_
  obtain ⟨k7, h⟩ := h
  refine And.intro k7 ?_
  obtain ⟨k8, h⟩ := h
  obtain ⟨k9, h⟩ := h
  refine And.intro (And.intro k8 k9) ?_
  obtain ⟨k10, h⟩ := h
  refine And.intro k10 ?_
  exact h
set_option maxRecDepth 20000 in
theorem g_X12_isNever_42 {Q X : m_Po} {v0 v1 v2 v4 : Int} {ε : m_E} {μ : m_M} (h : TY ε μ → i32 v1 → i64 v2 → i32 v4 → (v1 ≤ v4 → kd ε v0 = 11 ∧ kd ε (fn ε v0 52) = 107 ∧ 4 < ln ε (fn ε v0 52) ∧ kd ε (μ (fn ε v0 52) 4) = 10 ∧ ((μ (μ (fn ε v0 52) 4) 1) = 0 → Q 0 ε μ) ∧ ((μ (μ (fn ε v0 52) 4) 1) ≠ 0 → o_X11_isNothing [(2, μ (fn ε v0 52) 4)] ε μ (fun z ε_1 μ_1 => G cd_X12_isNever Q X 171 [(0, (2, v0)), (1, (0, v1))] [(0, z)] ε_1 μ_1) m_F)) ∧ (v4 < v1 → kd ε v0 = 11 ∧ kd ε (fn ε v0 60) = 101 ∧ (0 : Int) ≤ v4 ∧ v4 < ln ε (fn ε v0 60) ∧ v2 ≠ 0 ∧ ∀ μ_2 : m_M, μ_2 = st μ (fn ε v0 60) v4 (w64 (Int.tdiv (μ (fn ε v0 60) v4) v2)) → kd ε (fn ε v0 52) = 107 ∧ 0 < ln ε (fn ε v0 52) ∧ kd ε (μ_2 (fn ε v0 52) 0) = 10 ∧ o_X11_set [(2, μ_2 (fn ε v0 52) 0), (1, μ_2 (fn ε v0 60) v4)] ε μ_2 (fun z_1 ε_2 μ_3 => G cd_X12_isNever Q X 80 [(0, (2, v0)), (1, (0, v1)), (2, (1, v2)), (4, (0, v4))] [] ε_2 μ_3) m_F)) : G cd_X12_isNever Q X 42 [(0, (2, v0)), (1, (0, v1)), (2, (1, v2)), (4, (0, v4))] [] ε μ := by
  refine G_run (m_in [5, 22, 26, 39, 42, 80, 101, 122, 144, 171, 184, 226, 247]) 24 _ _ _ _ ?_
  show m_ty [(0, (2, v0)), (1, (0, v1)), (2, (1, v2)), (4, (0, v4))] [] ε μ → (v1 ≤ v4 → (m_ty [(0, (2, v0)), (1, (0, v1))] [] ε μ → (kd ε v0 = 11) ∧ (kd ε (fn ε v0 52) = 107) ∧ ((0 : Int) ≤ 4 ∧ 4 < ln ε (fn ε v0 52)) ∧ (kd ε (μ (fn ε v0 52) 4) = 10) ∧ ((μ (μ (fn ε v0 52) 4) 1) = 0 → (m_ty [] [] ε μ → (0 = 0 ∨ 0 = 1) ∧ Q 0 ε μ)) ∧ ((μ (μ (fn ε v0 52) 4) 1) ≠ 0 → (m_ty [(0, (2, v0)), (1, (0, v1))] [] ε μ → (kd ε v0 = 11) ∧ (kd ε (fn ε v0 52) = 107) ∧ ((0 : Int) ≤ 4 ∧ 4 < ln ε (fn ε v0 52)) ∧ (kd ε (μ (fn ε v0 52) 4) = 10) ∧ o_X11_isNothing [(2, μ (fn ε v0 52) 4)] ε μ (fun z ε_1 μ_1 => G cd_X12_isNever Q X 171 [(0, (2, v0)), (1, (0, v1))] [(0, z)] ε_1 μ_1) m_F)))) ∧ (v4 < v1 → (m_ty [(0, (2, v0)), (1, (0, v1)), (2, (1, v2)), (4, (0, v4))] [] ε μ → (kd ε v0 = 11) ∧ (kd ε v0 = 11) ∧ (kd ε (fn ε v0 60) = 101) ∧ ((0 : Int) ≤ v4 ∧ v4 < ln ε (fn ε v0 60)) ∧ (v2 ≠ 0) ∧ (kd ε (fn ε v0 60) = 101) ∧ ((0 : Int) ≤ v4 ∧ v4 < ln ε (fn ε v0 60)) ∧ ∀ μ_2 : m_M, μ_2 = st μ (fn ε v0 60) v4 (w64 (Int.tdiv (μ (fn ε v0 60) v4) v2)) → (kd ε v0 = 11) ∧ (kd ε (fn ε v0 52) = 107) ∧ ((0 : Int) ≤ 0 ∧ 0 < ln ε (fn ε v0 52)) ∧ (kd ε v0 = 11) ∧ (kd ε (fn ε v0 60) = 101) ∧ ((0 : Int) ≤ v4 ∧ v4 < ln ε (fn ε v0 60)) ∧ (kd ε (μ_2 (fn ε v0 52) 0) = 10) ∧ o_X11_set [(2, μ_2 (fn ε v0 52) 0), (1, μ_2 (fn ε v0 60) v4)] ε μ_2 (fun z_1 ε_2 μ_3 => G cd_X12_isNever Q X 80 [(0, (2, v0)), (1, (0, v1)), (2, (1, v2)), (4, (0, v4))] [] ε_2 μ_3) m_F))
  intro hty
  replace h := h hty.1 (hty.2.1 _ (List.mem_of_getElem? (i := 1) rfl)) (hty.2.1 _ (List.mem_of_getElem? (i := 2) rfl)) (hty.2.1 _ (List.mem_of_getElem? (i := 3) rfl))
  obtain ⟨ha, hb⟩ := h
  refine And.intro (fun c13 => ?_) (fun c13 => ?_)
  · replace h := ha c13
    clear ha hb
    intro _
    obtain ⟨k1, h⟩ := h
    refine And.intro k1 ?_
    obtain ⟨k2, h⟩ := h
    refine And.intro k2 ?_
    obtain ⟨k3, h⟩ := h
    refine And.intro (And.intro (by decide) k3) ?_
    obtain ⟨k4, h⟩ := h
    refine And.intro k4 ?_
    obtain ⟨ha, hb⟩ := h
    refine And.intro (fun c4 => ?_) (fun c4 => ?_)
    · replace h := ha c4
      clear ha hb
      intro _
      refine And.intro (Or.inl rfl) ?_
      exact h
    · replace h := hb c4
      clear ha hb
      intro _
      refine And.intro k1 ?_
      refine And.intro k2 ?_
      refine And.intro (And.intro (by decide) k3) ?_
      refine And.intro k4 ?_
      exact h
  · replace h := hb c13
    clear ha hb
    intro _
    obtain ⟨k6, h⟩ := h
    refine And.intro k6 ?_
    refine And.intro k6 ?_
    obtain ⟨k7, h⟩ := h
    refine And.intro k7 ?_
    obtain ⟨k8, h⟩ := h
    obtain ⟨k9, h⟩ := h
    refine And.intro (And.intro k8 k9) ?_
    obtain ⟨k10, h⟩ := h
    refine And.intro k10 ?_
    refine And.intro k7 ?_
    refine And.intro (And.intro k8 k9) ?_
    intro μ_2 e_μ_2
    replace h := h μ_2 e_μ_2
    refine And.intro k6 ?_
    obtain ⟨k11, h⟩ := h
    refine And.intro k11 ?_
    obtain ⟨k12, h⟩ := h
    refine And.intro (And.intro (by decide) k12) ?_
    refine And.intro k6 ?_
    refine And.intro k7 ?_
    refine And.intro (And.intro k8 k9) ?_
    obtain ⟨k13, h⟩ := h
    refine And.intro k13 ?_
    exact h
set_option maxRecDepth 20000 in
theorem g_X12_isNever_39 {Q X : m_Po} {v0 v1 v2 : Int} {ε : m_E} {μ : m_M} (h : TY ε μ → i32 v1 → i64 v2 → ∀ v4 : Int, v4 = 0 → G cd_X12_isNever Q X 42 [(0, (2, v0)), (1, (0, v1)), (2, (1, v2)), (4, (0, v4))] [] ε μ) : G cd_X12_isNever Q X 39 [(0, (2, v0)), (1, (0, v1)), (2, (1, v2))] [] ε μ := by
  refine G_run (m_in [5, 22, 26, 39, 42, 80, 101, 122, 144, 171, 184, 226, 247]) 24 _ _ _ _ ?_
  show m_ty [(0, (2, v0)), (1, (0, v1)), (2, (1, v2))] [] ε μ → ∀ v4 : Int, v4 = 0 → G cd_X12_isNever Q X 42 [(0, (2, v0)), (1, (0, v1)), (2, (1, v2)), (4, (0, v4))] [] ε μ
  intro hty
  replace h := h hty.1 (hty.2.1 _ (List.mem_of_getElem? (i := 1) rfl)) (hty.2.1 _ (List.mem_of_getElem? (i := 2) rfl))
  intro v4 e_v4
  replace h := h v4 e_v4
  exact h
set_option maxRecDepth 20000 in
theorem g_X12_isNever_26 {Q X : m_Po} {v0 v1 v2 v4 : Int} {ε : m_E} {μ : m_M} (h : TY ε μ → i32 v1 → i64 v2 → i32 v4 → G cd_X12_isNever Q X 5 [(0, (2, v0)), (1, (0, v1)), (2, (1, v2)), (4, (0, v4))] [] ε μ) : G cd_X12_isNever Q X 26 [(0, (2, v0)), (1, (0, v1)), (2, (1, v2)), (4, (0, v4))] [] ε μ := by
  refine G_run (m_in [5, 22, 26, 39, 42, 80, 101, 122, 144, 171, 184, 226, 247]) 24 _ _ _ _ ?_
  show m_ty [(0, (2, v0)), (1, (0, v1)), (2, (1, v2)), (4, (0, v4))] [] ε μ → G cd_X12_isNever Q X 5 [(0, (2, v0)), (1, (0, v1)), (2, (1, v2)), (4, (0, v4))] [] ε μ
  intro hty
  replace h := h hty.1 (hty.2.1 _ (List.mem_of_getElem? (i := 1) rfl)) (hty.2.1 _ (List.mem_of_getElem? (i := 2) rfl)) (hty.2.1 _ (List.mem_of_getElem? (i := 3) rfl))
  exact h
set_option maxRecDepth 20000 in
theorem g_X12_isNever_22 {Q X : m_Po} {v0 v1 v4 t : Int} {ε : m_E} {μ : m_M} (h : TY ε μ → i32 v1 → i32 v4 → i64 t → ∀ v2 : Int, v2 = t → ∀ v4_1 : Int, v4_1 = w32 (v4 + 1) → G cd_X12_isNever Q X 5 [(0, (2, v0)), (1, (0, v1)), (2, (1, v2)), (4, (0, v4_1))] [] ε μ) : G cd_X12_isNever Q X 22 [(0, (2, v0)), (1, (0, v1)), (4, (0, v4))] [(1, t)] ε μ := by
  refine G_run (m_in [5, 22, 26, 39, 42, 80, 101, 122, 144, 171, 184, 226, 247]) 24 _ _ _ _ ?_
  show m_ty [(0, (2, v0)), (1, (0, v1)), (4, (0, v4))] [(1, t)] ε μ → ∀ v2 : Int, v2 = t → ∀ v4_1 : Int, v4_1 = w32 (v4 + 1) → G cd_X12_isNever Q X 26 [(0, (2, v0)), (1, (0, v1)), (2, (1, v2)), (4, (0, v4_1))] [] ε μ
  intro hty
  replace h := h hty.1 (hty.2.1 _ (List.mem_of_getElem? (i := 1) rfl)) (hty.2.1 _ (List.mem_of_getElem? (i := 2) rfl)) (hty.2.2 _ (List.mem_of_getElem? (i := 0) rfl))
  intro v2 e_v2
  replace h := h v2 e_v2
  intro v4_1 e_v4_1
  replace h := h v4_1 e_v4_1
  exact g_X12_isNever_26 (fun _ _ _ _ => h)
set_option maxRecDepth 20000 in
theorem g_X12_isNever_5 {Q X : m_Po} {v0 v1 v2 v4 : Int} {ε : m_E} {μ : m_M} (h : TY ε μ → i32 v1 → i64 v2 → i32 v4 → (v1 ≤ v4 → kd ε v0 = 11 ∧ kd ε (fn ε v0 52) = 107 ∧ 4 < ln ε (fn ε v0 52) ∧ kd ε (μ (fn ε v0 52) 4) = 10 ∧ o_X11_set [(2, μ (fn ε v0 52) 4), (1, 0)] ε μ (fun z ε_1 μ_1 => G cd_X12_isNever Q X 39 [(0, (2, v0)), (1, (0, v1)), (2, (1, v2))] [] ε_1 μ_1) m_F) ∧ (v4 < v1 → kd ε v0 = 11 ∧ kd ε (fn ε v0 60) = 101 ∧ (0 : Int) ≤ v4 ∧ v4 < ln ε (fn ε v0 60) ∧ o_X12_gcd [(1, v2), (1, μ (fn ε v0 60) v4)] ε μ (fun z_1 ε_2 μ_2 => G cd_X12_isNever Q X 22 [(0, (2, v0)), (1, (0, v1)), (4, (0, v4))] [(1, z_1)] ε_2 μ_2) m_F)) : G cd_X12_isNever Q X 5 [(0, (2, v0)), (1, (0, v1)), (2, (1, v2)), (4, (0, v4))] [] ε μ := by
  refine G_run (m_in [5, 22, 26, 39, 42, 80, 101, 122, 144, 171, 184, 226, 247]) 24 _ _ _ _ ?_
  show m_ty [(0, (2, v0)), (1, (0, v1)), (2, (1, v2)), (4, (0, v4))] [] ε μ → (v1 ≤ v4 → (m_ty [(0, (2, v0)), (1, (0, v1)), (2, (1, v2))] [] ε μ → (kd ε v0 = 11) ∧ (kd ε (fn ε v0 52) = 107) ∧ ((0 : Int) ≤ 4 ∧ 4 < ln ε (fn ε v0 52)) ∧ (kd ε (μ (fn ε v0 52) 4) = 10) ∧ o_X11_set [(2, μ (fn ε v0 52) 4), (1, 0)] ε μ (fun z ε_1 μ_1 => G cd_X12_isNever Q X 39 [(0, (2, v0)), (1, (0, v1)), (2, (1, v2))] [] ε_1 μ_1) m_F)) ∧ (v4 < v1 → (m_ty [(0, (2, v0)), (1, (0, v1)), (2, (1, v2)), (4, (0, v4))] [] ε μ → (kd ε v0 = 11) ∧ (kd ε (fn ε v0 60) = 101) ∧ ((0 : Int) ≤ v4 ∧ v4 < ln ε (fn ε v0 60)) ∧ o_X12_gcd [(1, v2), (1, μ (fn ε v0 60) v4)] ε μ (fun z_1 ε_2 μ_2 => G cd_X12_isNever Q X 22 [(0, (2, v0)), (1, (0, v1)), (4, (0, v4))] [(1, z_1)] ε_2 μ_2) m_F))
  intro hty
  replace h := h hty.1 (hty.2.1 _ (List.mem_of_getElem? (i := 1) rfl)) (hty.2.1 _ (List.mem_of_getElem? (i := 2) rfl)) (hty.2.1 _ (List.mem_of_getElem? (i := 3) rfl))
  obtain ⟨ha, hb⟩ := h
  refine And.intro (fun c8 => ?_) (fun c8 => ?_)
  · replace h := ha c8
    clear ha hb
    intro _
    obtain ⟨k1, h⟩ := h
    refine And.intro k1 ?_
    obtain ⟨k2, h⟩ := h
    refine And.intro k2 ?_
    obtain ⟨k3, h⟩ := h
    refine And.intro (And.intro (by decide) k3) ?_
    obtain ⟨k4, h⟩ := h
    refine And.intro k4 ?_
    exact h
  · replace h := hb c8
    clear ha hb
    intro _
    obtain ⟨k5, h⟩ := h
    refine And.intro k5 ?_
    obtain ⟨k6, h⟩ := h
    refine And.intro k6 ?_
    obtain ⟨k7, h⟩ := h
    obtain ⟨k8, h⟩ := h
    refine And.intro (And.intro k7 k8) ?_
    exact h
set_option maxRecDepth 20000 in
theorem g_X12_isNever_0 {Q X : m_Po} {v0 v1 : Int} {ε : m_E} {μ : m_M} (h : TY ε μ → i32 v1 → ∀ v2 : Int, v2 = 0 → ∀ v4 : Int, v4 = 0 → G cd_X12_isNever Q X 5 [(0, (2, v0)), (1, (0, v1)), (2, (1, v2)), (4, (0, v4))] [] ε μ) : G cd_X12_isNever Q X 0 [(0, (2, v0)), (1, (0, v1))] [] ε μ := by
  refine G_run (m_in [5, 22, 26, 39, 42, 80, 101, 122, 144, 171, 184, 226, 247]) 24 _ _ _ _ ?_
  show m_ty [(0, (2, v0)), (1, (0, v1))] [] ε μ → ∀ v2 : Int, v2 = 0 → ∀ v4 : Int, v4 = 0 → G cd_X12_isNever Q X 5 [(0, (2, v0)), (1, (0, v1)), (2, (1, v2)), (4, (0, v4))] [] ε μ
  intro hty
  replace h := h hty.1 (hty.2.1 _ (List.mem_of_getElem? (i := 1) rfl))
  intro v2 e_v2
  replace h := h v2 e_v2
  intro v4 e_v4
  replace h := h v4 e_v4
  exact h
theorem e_X12_isNever {Q X : m_Po} {v0 v1 : Int} {ε : m_E} {μ : m_M} (h : TY ε μ → i32 v1 → ∀ v2 : Int, v2 = 0 → ∀ v4 : Int, v4 = 0 → G cd_X12_isNever Q X 5 [(0, (2, v0)), (1, (0, v1)), (2, (1, v2)), (4, (0, v4))] [] ε μ) : o_X12_isNever [(2, v0), (0, v1)] ε μ Q X := And.intro rfl (g_X12_isNever_0 h)
/-! ArchYardModel.pairs()Z -/
set_option maxRecDepth 20000 in
theorem g_X12_pairs_317 {Q X : m_Po} {v0 v1 v2 : Int} {ε : m_E} {μ : m_M} (h : TY ε μ → i32 v1 → i32 v2 → ∀ v2_1 : Int, v2_1 = w32 (v2 + 1) → G cd_X12_pairs Q X 14 [(0, (2, v0)), (1, (0, v1)), (2, (0, v2_1))] [] ε μ) : G cd_X12_pairs Q X 317 [(0, (2, v0)), (1, (0, v1)), (2, (0, v2))] [] ε μ := by
  refine G_run (m_in [2, 14, 117, 171, 219, 233, 245, 285, 306, 312, 317]) 42 _ _ _ _ ?_
  show m_ty [(0, (2, v0)), (1, (0, v1)), (2, (0, v2))] [] ε μ → ∀ v2_1 : Int, v2_1 = w32 (v2 + 1) → G cd_X12_pairs Q X 14 [(0, (2, v0)), (1, (0, v1)), (2, (0, v2_1))] [] ε μ
  intro hty
  replace h := h hty.1 (hty.2.1 _ (List.mem_of_getElem? (i := 1) rfl)) (hty.2.1 _ (List.mem_of_getElem? (i := 2) rfl))
  intro v2_1 e_v2_1
  replace h := h v2_1 e_v2_1
  exact h
set_option maxRecDepth 20000 in
theorem g_X12_pairs_312 {Q X : m_Po} {v0 v1 v2 t : Int} {ε : m_E} {μ : m_M} (h : TY ε μ → i32 v1 → i32 v2 → i32 t → (t = 0 → G cd_X12_pairs Q X 317 [(0, (2, v0)), (1, (0, v1)), (2, (0, v2))] [] ε μ) ∧ (t ≠ 0 → Q 1 ε μ)) : G cd_X12_pairs Q X 312 [(0, (2, v0)), (1, (0, v1)), (2, (0, v2))] [(0, t)] ε μ := by
  refine G_run (m_in [2, 14, 117, 171, 219, 233, 245, 285, 306, 312, 317]) 42 _ _ _ _ ?_
  show m_ty [(0, (2, v0)), (1, (0, v1)), (2, (0, v2))] [(0, t)] ε μ → (t = 0 → G cd_X12_pairs Q X 317 [(0, (2, v0)), (1, (0, v1)), (2, (0, v2))] [] ε μ) ∧ (t ≠ 0 → (m_ty [] [] ε μ → (1 = 0 ∨ 1 = 1) ∧ Q 1 ε μ))
  intro hty
  replace h := h hty.1 (hty.2.1 _ (List.mem_of_getElem? (i := 1) rfl)) (hty.2.1 _ (List.mem_of_getElem? (i := 2) rfl)) (hty.2.2 _ (List.mem_of_getElem? (i := 0) rfl))
  obtain ⟨ha, hb⟩ := h
  refine And.intro (fun c0 => ?_) (fun c0 => ?_)
  · replace h := ha c0
    clear ha hb
    exact h
  · replace h := hb c0
    clear ha hb
    intro _
    refine And.intro (Or.inr rfl) ?_
    exact h
set_option maxRecDepth 20000 in
theorem g_X12_pairs_306 {Q X : m_Po} {v0 v1 v2 t t_1 t_2 : Int} {ε : m_E} {μ : m_M} (h : TY ε μ → i32 v1 → i32 v2 → i32 t_1 → i64 t_2 → kd ε t = 101 ∧ (0 : Int) ≤ t_1 ∧ t_1 < ln ε t ∧ ∀ μ_1 : m_M, μ_1 = st μ t t_1 t_2 → kd ε v0 = 11 ∧ o_X12_isNever [(2, v0), (0, 2)] ε μ_1 (fun z ε_1 μ_2 => G cd_X12_pairs Q X 312 [(0, (2, v0)), (1, (0, v1)), (2, (0, v2))] [(0, z)] ε_1 μ_2) m_F) : G cd_X12_pairs Q X 306 [(0, (2, v0)), (1, (0, v1)), (2, (0, v2))] [(1, t_2), (0, t_1), (2, t)] ε μ := by
  refine G_run (m_in [2, 14, 117, 171, 219, 233, 245, 285, 306, 312, 317]) 42 _ _ _ _ ?_
  show m_ty [(0, (2, v0)), (1, (0, v1)), (2, (0, v2))] [(1, t_2), (0, t_1), (2, t)] ε μ → (kd ε t = 101) ∧ ((0 : Int) ≤ t_1 ∧ t_1 < ln ε t) ∧ ∀ μ_1 : m_M, μ_1 = st μ t t_1 t_2 → (kd ε v0 = 11) ∧ o_X12_isNever [(2, v0), (0, 2)] ε μ_1 (fun z ε_1 μ_2 => G cd_X12_pairs Q X 312 [(0, (2, v0)), (1, (0, v1)), (2, (0, v2))] [(0, z)] ε_1 μ_2) m_F
  intro hty
  replace h := h hty.1 (hty.2.1 _ (List.mem_of_getElem? (i := 1) rfl)) (hty.2.1 _ (List.mem_of_getElem? (i := 2) rfl)) (hty.2.2 _ (List.mem_of_getElem? (i := 1) rfl)) (hty.2.2 _ (List.mem_of_getElem? (i := 0) rfl))
  obtain ⟨k1, h⟩ := h
  refine And.intro k1 ?_
  obtain ⟨k2, h⟩ := h
  obtain ⟨k3, h⟩ := h
  refine And.intro (And.intro k2 k3) ?_
  intro μ_1 e_μ_1
  replace h := h μ_1 e_μ_1
  obtain ⟨k4, h⟩ := h
  refine And.intro k4 ?_
  exact h
set_option maxRecDepth 20000 in
theorem g_X12_pairs_285 {Q X : m_Po} {v0 v1 v2 v4 t t_1 t_2 : Int} {ε : m_E} {μ : m_M} (h : TY ε μ → i32 v1 → i32 v2 → i64 v4 → i32 t_1 → i64 t_2 → kd ε t = 101 ∧ (0 : Int) ≤ t_1 ∧ t_1 < ln ε t ∧ ∀ μ_1 : m_M, μ_1 = st μ t t_1 t_2 → kd ε v0 = 11 ∧ ∀ t_3 : Int, t_3 = (if (0 : Int) ≤ v4 then v4 else w64 (-v4)) → kd ε (fn ε v0 60) = 101 ∧ (0 : Int) ≤ 1 ∧ 1 < ln ε (fn ε v0 60) ∧ ∀ μ_2 : m_M, μ_2 = st μ_1 (fn ε v0 60) 1 t_3 → kd ε v0 = 11 ∧ o_X12_isNever [(2, v0), (0, 2)] ε μ_2 (fun z ε_1 μ_3 => G cd_X12_pairs Q X 312 [(0, (2, v0)), (1, (0, v1)), (2, (0, v2))] [(0, z)] ε_1 μ_3) m_F) : G cd_X12_pairs Q X 285 [(0, (2, v0)), (1, (0, v1)), (2, (0, v2)), (4, (1, v4))] [(1, t_2), (0, t_1), (2, t)] ε μ := by
  refine G_run (m_in [2, 14, 117, 171, 219, 233, 245, 285, 306, 312, 317]) 42 _ _ _ _ ?_
  show m_ty [(0, (2, v0)), (1, (0, v1)), (2, (0, v2)), (4, (1, v4))] [(1, t_2), (0, t_1), (2, t)] ε μ → (kd ε t = 101) ∧ ((0 : Int) ≤ t_1 ∧ t_1 < ln ε t) ∧ ∀ μ_1 : m_M, μ_1 = st μ t t_1 t_2 → (kd ε v0 = 11) ∧ ((0 : Int) ≤ v4 → (m_ty [(0, (2, v0)), (1, (0, v1)), (2, (0, v2)), (4, (1, v4))] [(0, 1), (2, fn ε v0 60)] ε μ_1 → G cd_X12_pairs Q X 306 [(0, (2, v0)), (1, (0, v1)), (2, (0, v2))] [(1, v4), (0, 1), (2, fn ε v0 60)] ε μ_1)) ∧ (v4 < (0 : Int) → (m_ty [(0, (2, v0)), (1, (0, v1)), (2, (0, v2)), (4, (1, v4))] [(0, 1), (2, fn ε v0 60)] ε μ_1 → G cd_X12_pairs Q X 306 [(0, (2, v0)), (1, (0, v1)), (2, (0, v2))] [(1, w64 (-v4)), (0, 1), (2, fn ε v0 60)] ε μ_1))
  intro hty
  replace h := h hty.1 (hty.2.1 _ (List.mem_of_getElem? (i := 1) rfl)) (hty.2.1 _ (List.mem_of_getElem? (i := 2) rfl)) (hty.2.1 _ (List.mem_of_getElem? (i := 3) rfl)) (hty.2.2 _ (List.mem_of_getElem? (i := 1) rfl)) (hty.2.2 _ (List.mem_of_getElem? (i := 0) rfl))
  obtain ⟨k1, h⟩ := h
  refine And.intro k1 ?_
  obtain ⟨k2, h⟩ := h
  obtain ⟨k3, h⟩ := h
  refine And.intro (And.intro k2 k3) ?_
  intro μ_1 e_μ_1
  replace h := h μ_1 e_μ_1
  obtain ⟨k4, h⟩ := h
  refine And.intro k4 ?_
  have hj := h
  refine And.intro (fun c4 => ?_) (fun c4 => ?_)
  · intro _
    exact g_X12_pairs_306 (fun _ _ _ _ _ => (hj _ (((if_pos c4).trans rfl)).symm))
  · intro _
    exact g_X12_pairs_306 (fun _ _ _ _ _ => (hj _ (((if_neg (Int.not_le.mpr c4)).trans rfl)).symm))
set_option maxRecDepth 20000 in
theorem g_X12_pairs_245 {Q X : m_Po} {v0 v1 v2 v4 v6 t t_1 : Int} {ε : m_E} {μ : m_M} (h : TY ε μ → i32 v1 → i32 v2 → i64 v4 → i64 v6 → i32 t → i32 t_1 → (t ≠ t_1 → kd ε v0 = 11 ∧ kd ε (fn ε v0 61) = 100 ∧ 0 < ln ε (fn ε v0 61) ∧ ∀ μ_1 : m_M, μ_1 = st μ (fn ε v0 61) 0 v1 → 1 < ln ε (fn ε v0 61) ∧ ∀ μ_2 : m_M, μ_2 = st μ_1 (fn ε v0 61) 1 v2 → ∀ t_2 : Int, t_2 = (if (0 : Int) ≤ v6 then v6 else w64 (-v6)) → kd ε (fn ε v0 60) = 101 ∧ (0 : Int) ≤ 0 ∧ 0 < ln ε (fn ε v0 60) ∧ ∀ μ_3 : m_M, μ_3 = st μ_2 (fn ε v0 60) 0 t_2 → kd ε v0 = 11 ∧ ∀ t_3 : Int, t_3 = (if (0 : Int) ≤ v4 then v4 else w64 (-v4)) → kd ε (fn ε v0 60) = 101 ∧ (0 : Int) ≤ 1 ∧ 1 < ln ε (fn ε v0 60) ∧ ∀ μ_4 : m_M, μ_4 = st μ_3 (fn ε v0 60) 1 t_3 → kd ε v0 = 11 ∧ o_X12_isNever [(2, v0), (0, 2)] ε μ_4 (fun z ε_1 μ_5 => G cd_X12_pairs Q X 312 [(0, (2, v0)), (1, (0, v1)), (2, (0, v2))] [(0, z)] ε_1 μ_5) m_F) ∧ (t = t_1 → G cd_X12_pairs Q X 317 [(0, (2, v0)), (1, (0, v1)), (2, (0, v2))] [] ε μ)) : G cd_X12_pairs Q X 245 [(0, (2, v0)), (1, (0, v1)), (2, (0, v2)), (4, (1, v4)), (6, (1, v6))] [(0, t_1), (0, t)] ε μ := by
  refine G_run (m_in [2, 14, 117, 171, 219, 233, 245, 285, 306, 312, 317]) 42 _ _ _ _ ?_
  show m_ty [(0, (2, v0)), (1, (0, v1)), (2, (0, v2)), (4, (1, v4)), (6, (1, v6))] [(0, t_1), (0, t)] ε μ → (t ≠ t_1 → (m_ty [(0, (2, v0)), (1, (0, v1)), (2, (0, v2)), (4, (1, v4)), (6, (1, v6))] [] ε μ → (kd ε v0 = 11) ∧ (kd ε (fn ε v0 61) = 100) ∧ ((0 : Int) ≤ 0 ∧ 0 < ln ε (fn ε v0 61)) ∧ ∀ μ_1 : m_M, μ_1 = st μ (fn ε v0 61) 0 v1 → (kd ε v0 = 11) ∧ (kd ε (fn ε v0 61) = 100) ∧ ((0 : Int) ≤ 1 ∧ 1 < ln ε (fn ε v0 61)) ∧ ∀ μ_2 : m_M, μ_2 = st μ_1 (fn ε v0 61) 1 v2 → (kd ε v0 = 11) ∧ ((0 : Int) ≤ v6 → (m_ty [(0, (2, v0)), (1, (0, v1)), (2, (0, v2)), (4, (1, v4)), (6, (1, v6))] [(0, 0), (2, fn ε v0 60)] ε μ_2 → G cd_X12_pairs Q X 285 [(0, (2, v0)), (1, (0, v1)), (2, (0, v2)), (4, (1, v4))] [(1, v6), (0, 0), (2, fn ε v0 60)] ε μ_2)) ∧ (v6 < (0 : Int) → (m_ty [(0, (2, v0)), (1, (0, v1)), (2, (0, v2)), (4, (1, v4)), (6, (1, v6))] [(0, 0), (2, fn ε v0 60)] ε μ_2 → G cd_X12_pairs Q X 285 [(0, (2, v0)), (1, (0, v1)), (2, (0, v2)), (4, (1, v4))] [(1, w64 (-v6)), (0, 0), (2, fn ε v0 60)] ε μ_2)))) ∧ (t = t_1 → (m_ty [(0, (2, v0)), (1, (0, v1)), (2, (0, v2))] [] ε μ → G cd_X12_pairs Q X 317 [(0, (2, v0)), (1, (0, v1)), (2, (0, v2))] [] ε μ))
  intro hty
  replace h := h hty.1 (hty.2.1 _ (List.mem_of_getElem? (i := 1) rfl)) (hty.2.1 _ (List.mem_of_getElem? (i := 2) rfl)) (hty.2.1 _ (List.mem_of_getElem? (i := 3) rfl)) (hty.2.1 _ (List.mem_of_getElem? (i := 4) rfl)) (hty.2.2 _ (List.mem_of_getElem? (i := 1) rfl)) (hty.2.2 _ (List.mem_of_getElem? (i := 0) rfl))
  obtain ⟨ha, hb⟩ := h
  refine And.intro (fun c14 => ?_) (fun c14 => ?_)
  · replace h := ha c14
    clear ha hb
    intro _
    obtain ⟨k1, h⟩ := h
    refine And.intro k1 ?_
    obtain ⟨k2, h⟩ := h
    refine And.intro k2 ?_
    obtain ⟨k3, h⟩ := h
    refine And.intro (And.intro (by decide) k3) ?_
    intro μ_1 e_μ_1
    replace h := h μ_1 e_μ_1
    refine And.intro k1 ?_
    refine And.intro k2 ?_
    obtain ⟨k4, h⟩ := h
    refine And.intro (And.intro (by decide) k4) ?_
    intro μ_2 e_μ_2
    replace h := h μ_2 e_μ_2
    refine And.intro k1 ?_
    have hj := h
    refine And.intro (fun c4 => ?_) (fun c4 => ?_)
    · intro _
      exact g_X12_pairs_285 (fun _ _ _ _ _ _ => (hj _ (((if_pos c4).trans rfl)).symm))
    · intro _
      exact g_X12_pairs_285 (fun _ _ _ _ _ _ => (hj _ (((if_neg (Int.not_le.mpr c4)).trans rfl)).symm))
  · replace h := hb c14
    clear ha hb
    intro _
    exact h
set_option maxRecDepth 20000 in
theorem g_X12_pairs_233 {Q X : m_Po} {v0 v1 v2 v4 v6 t : Int} {ε : m_E} {μ : m_M} (h : TY ε μ → i32 v1 → i32 v2 → i64 v4 → i64 v6 → i32 t → ∀ t_1 : Int, t_1 = (if (0 : Int) ≤ v6 then 0 else 1) → (t ≠ t_1 → kd ε v0 = 11 ∧ kd ε (fn ε v0 61) = 100 ∧ 0 < ln ε (fn ε v0 61) ∧ ∀ μ_1 : m_M, μ_1 = st μ (fn ε v0 61) 0 v1 → 1 < ln ε (fn ε v0 61) ∧ ∀ μ_2 : m_M, μ_2 = st μ_1 (fn ε v0 61) 1 v2 → ∀ t_2 : Int, t_2 = (if (0 : Int) ≤ v6 then v6 else w64 (-v6)) → kd ε (fn ε v0 60) = 101 ∧ (0 : Int) ≤ 0 ∧ 0 < ln ε (fn ε v0 60) ∧ ∀ μ_3 : m_M, μ_3 = st μ_2 (fn ε v0 60) 0 t_2 → kd ε v0 = 11 ∧ ∀ t_3 : Int, t_3 = (if (0 : Int) ≤ v4 then v4 else w64 (-v4)) → kd ε (fn ε v0 60) = 101 ∧ (0 : Int) ≤ 1 ∧ 1 < ln ε (fn ε v0 60) ∧ ∀ μ_4 : m_M, μ_4 = st μ_3 (fn ε v0 60) 1 t_3 → kd ε v0 = 11 ∧ o_X12_isNever [(2, v0), (0, 2)] ε μ_4 (fun z ε_1 μ_5 => G cd_X12_pairs Q X 312 [(0, (2, v0)), (1, (0, v1)), (2, (0, v2))] [(0, z)] ε_1 μ_5) m_F) ∧ (t = t_1 → G cd_X12_pairs Q X 317 [(0, (2, v0)), (1, (0, v1)), (2, (0, v2))] [] ε μ)) : G cd_X12_pairs Q X 233 [(0, (2, v0)), (1, (0, v1)), (2, (0, v2)), (4, (1, v4)), (6, (1, v6))] [(0, t)] ε μ := by
  refine G_run (m_in [2, 14, 117, 171, 219, 233, 245, 285, 306, 312, 317]) 42 _ _ _ _ ?_
  show m_ty [(0, (2, v0)), (1, (0, v1)), (2, (0, v2)), (4, (1, v4)), (6, (1, v6))] [(0, t)] ε μ → ((0 : Int) ≤ v6 → (m_ty [(0, (2, v0)), (1, (0, v1)), (2, (0, v2)), (4, (1, v4)), (6, (1, v6))] [(0, t)] ε μ → G cd_X12_pairs Q X 245 [(0, (2, v0)), (1, (0, v1)), (2, (0, v2)), (4, (1, v4)), (6, (1, v6))] [(0, 0), (0, t)] ε μ)) ∧ (v6 < (0 : Int) → (m_ty [(0, (2, v0)), (1, (0, v1)), (2, (0, v2)), (4, (1, v4)), (6, (1, v6))] [(0, t)] ε μ → G cd_X12_pairs Q X 245 [(0, (2, v0)), (1, (0, v1)), (2, (0, v2)), (4, (1, v4)), (6, (1, v6))] [(0, 1), (0, t)] ε μ))
  intro hty
  replace h := h hty.1 (hty.2.1 _ (List.mem_of_getElem? (i := 1) rfl)) (hty.2.1 _ (List.mem_of_getElem? (i := 2) rfl)) (hty.2.1 _ (List.mem_of_getElem? (i := 3) rfl)) (hty.2.1 _ (List.mem_of_getElem? (i := 4) rfl)) (hty.2.2 _ (List.mem_of_getElem? (i := 0) rfl))
  have hj := h
  refine And.intro (fun c0 => ?_) (fun c0 => ?_)
  · intro _
    exact g_X12_pairs_245 (fun _ _ _ _ _ _ _ => (hj _ (((if_pos c0).trans rfl)).symm))
  · intro _
    exact g_X12_pairs_245 (fun _ _ _ _ _ _ _ => (hj _ (((if_neg (Int.not_le.mpr c0)).trans rfl)).symm))
set_option maxRecDepth 20000 in
theorem g_X12_pairs_219 {Q X : m_Po} {v0 v1 v2 v4 t : Int} {ε : m_E} {μ : m_M} (h : TY ε μ → i32 v1 → i32 v2 → i64 v4 → i64 t → ∀ v6 : Int, v6 = t → ∀ t_1 : Int, t_1 = (if (0 : Int) ≤ v4 then 0 else 1) → ∀ t_2 : Int, t_2 = (if (0 : Int) ≤ v6 then 0 else 1) → (t_1 ≠ t_2 → kd ε v0 = 11 ∧ kd ε (fn ε v0 61) = 100 ∧ 0 < ln ε (fn ε v0 61) ∧ ∀ μ_1 : m_M, μ_1 = st μ (fn ε v0 61) 0 v1 → 1 < ln ε (fn ε v0 61) ∧ ∀ μ_2 : m_M, μ_2 = st μ_1 (fn ε v0 61) 1 v2 → ∀ t_3 : Int, t_3 = (if (0 : Int) ≤ v6 then v6 else w64 (-v6)) → kd ε (fn ε v0 60) = 101 ∧ (0 : Int) ≤ 0 ∧ 0 < ln ε (fn ε v0 60) ∧ ∀ μ_3 : m_M, μ_3 = st μ_2 (fn ε v0 60) 0 t_3 → kd ε v0 = 11 ∧ ∀ t_4 : Int, t_4 = (if (0 : Int) ≤ v4 then v4 else w64 (-v4)) → kd ε (fn ε v0 60) = 101 ∧ (0 : Int) ≤ 1 ∧ 1 < ln ε (fn ε v0 60) ∧ ∀ μ_4 : m_M, μ_4 = st μ_3 (fn ε v0 60) 1 t_4 → kd ε v0 = 11 ∧ o_X12_isNever [(2, v0), (0, 2)] ε μ_4 (fun z ε_1 μ_5 => G cd_X12_pairs Q X 312 [(0, (2, v0)), (1, (0, v1)), (2, (0, v2))] [(0, z)] ε_1 μ_5) m_F) ∧ (t_1 = t_2 → G cd_X12_pairs Q X 317 [(0, (2, v0)), (1, (0, v1)), (2, (0, v2))] [] ε μ)) : G cd_X12_pairs Q X 219 [(0, (2, v0)), (1, (0, v1)), (2, (0, v2)), (4, (1, v4))] [(1, t)] ε μ := by
  refine G_run (m_in [2, 14, 117, 171, 219, 233, 245, 285, 306, 312, 317]) 42 _ _ _ _ ?_
  show m_ty [(0, (2, v0)), (1, (0, v1)), (2, (0, v2)), (4, (1, v4))] [(1, t)] ε μ → ∀ v6 : Int, v6 = t → ((0 : Int) ≤ v4 → (m_ty [(0, (2, v0)), (1, (0, v1)), (2, (0, v2)), (4, (1, v4)), (6, (1, v6))] [] ε μ → G cd_X12_pairs Q X 233 [(0, (2, v0)), (1, (0, v1)), (2, (0, v2)), (4, (1, v4)), (6, (1, v6))] [(0, 0)] ε μ)) ∧ (v4 < (0 : Int) → (m_ty [(0, (2, v0)), (1, (0, v1)), (2, (0, v2)), (4, (1, v4)), (6, (1, v6))] [] ε μ → G cd_X12_pairs Q X 233 [(0, (2, v0)), (1, (0, v1)), (2, (0, v2)), (4, (1, v4)), (6, (1, v6))] [(0, 1)] ε μ))
  intro hty
  replace h := h hty.1 (hty.2.1 _ (List.mem_of_getElem? (i := 1) rfl)) (hty.2.1 _ (List.mem_of_getElem? (i := 2) rfl)) (hty.2.1 _ (List.mem_of_getElem? (i := 3) rfl)) (hty.2.2 _ (List.mem_of_getElem? (i := 0) rfl))
  intro v6 e_v6
  replace h := h v6 e_v6
  have hj := h
  refine And.intro (fun c0 => ?_) (fun c0 => ?_)
  · intro _
    exact g_X12_pairs_233 (fun _ _ _ _ _ _ => (hj _ (((if_pos c0).trans rfl)).symm))
  · intro _
    exact g_X12_pairs_233 (fun _ _ _ _ _ _ => (hj _ (((if_neg (Int.not_le.mpr c0)).trans rfl)).symm))
set_option maxRecDepth 20000 in
theorem g_X12_pairs_171 {Q X : m_Po} {v0 v1 v2 t : Int} {ε : m_E} {μ : m_M} (h : TY ε μ → i32 v1 → i32 v2 → i64 t → ∀ v4 : Int, v4 = t → kd ε v0 = 11 ∧ kd ε (fn ε v0 30) = 101 ∧ (0 : Int) ≤ v1 ∧ v1 < ln ε (fn ε v0 30) ∧ (((μ (fn ε v0 30) v1) = (0 : Int) → kd ε (fn ε v0 31) = 101 ∧ v1 < ln ε (fn ε v0 31) ∧ ((μ (fn ε v0 31) v1) = (0 : Int) → kd ε (fn ε v0 32) = 101 ∧ (0 : Int) ≤ v2 ∧ v2 < ln ε (fn ε v0 32)) ∧ ((μ (fn ε v0 31) v1) ≠ (0 : Int) → (0 : Int) ≤ v2 ∧ v2 < ln ε (fn ε v0 31))) ∧ ((μ (fn ε v0 30) v1) ≠ (0 : Int) → (0 : Int) ≤ v2 ∧ v2 < ln ε (fn ε v0 30))) ∧ ∀ t_1 : Int, t_1 = (if (μ (fn ε v0 30) v1) = (0 : Int) then if (μ (fn ε v0 31) v1) = (0 : Int) then μ (fn ε v0 32) v2 else μ (fn ε v0 31) v2 else μ (fn ε v0 30) v2) → ∀ v6 : Int, v6 = t_1 → ∀ t_2 : Int, t_2 = (if (0 : Int) ≤ v4 then 0 else 1) → ∀ t_3 : Int, t_3 = (if (0 : Int) ≤ v6 then 0 else 1) → (t_2 ≠ t_3 → kd ε v0 = 11 ∧ kd ε (fn ε v0 61) = 100 ∧ 0 < ln ε (fn ε v0 61) ∧ ∀ μ_1 : m_M, μ_1 = st μ (fn ε v0 61) 0 v1 → 1 < ln ε (fn ε v0 61) ∧ ∀ μ_2 : m_M, μ_2 = st μ_1 (fn ε v0 61) 1 v2 → ∀ t_4 : Int, t_4 = (if (0 : Int) ≤ v6 then v6 else w64 (-v6)) → kd ε (fn ε v0 60) = 101 ∧ (0 : Int) ≤ 0 ∧ 0 < ln ε (fn ε v0 60) ∧ ∀ μ_3 : m_M, μ_3 = st μ_2 (fn ε v0 60) 0 t_4 → kd ε v0 = 11 ∧ ∀ t_5 : Int, t_5 = (if (0 : Int) ≤ v4 then v4 else w64 (-v4)) → kd ε (fn ε v0 60) = 101 ∧ (0 : Int) ≤ 1 ∧ 1 < ln ε (fn ε v0 60) ∧ ∀ μ_4 : m_M, μ_4 = st μ_3 (fn ε v0 60) 1 t_5 → kd ε v0 = 11 ∧ o_X12_isNever [(2, v0), (0, 2)] ε μ_4 (fun z ε_1 μ_5 => G cd_X12_pairs Q X 312 [(0, (2, v0)), (1, (0, v1)), (2, (0, v2))] [(0, z)] ε_1 μ_5) m_F) ∧ (t_2 = t_3 → G cd_X12_pairs Q X 317 [(0, (2, v0)), (1, (0, v1)), (2, (0, v2))] [] ε μ)) : G cd_X12_pairs Q X 171 [(0, (2, v0)), (1, (0, v1)), (2, (0, v2))] [(1, t)] ε μ := by
  refine G_run (m_in [2, 14, 117, 171, 219, 233, 245, 285, 306, 312, 317]) 42 _ _ _ _ ?_
  show m_ty [(0, (2, v0)), (1, (0, v1)), (2, (0, v2))] [(1, t)] ε μ → ∀ v4 : Int, v4 = t → (kd ε v0 = 11) ∧ (kd ε (fn ε v0 30) = 101) ∧ ((0 : Int) ≤ v1 ∧ v1 < ln ε (fn ε v0 30)) ∧ ((μ (fn ε v0 30) v1) = (0 : Int) → (m_ty [(0, (2, v0)), (1, (0, v1)), (2, (0, v2)), (4, (1, v4))] [] ε μ → (kd ε v0 = 11) ∧ (kd ε (fn ε v0 31) = 101) ∧ ((0 : Int) ≤ v1 ∧ v1 < ln ε (fn ε v0 31)) ∧ ((μ (fn ε v0 31) v1) = (0 : Int) → (m_ty [(0, (2, v0)), (1, (0, v1)), (2, (0, v2)), (4, (1, v4))] [] ε μ → (kd ε v0 = 11) ∧ (kd ε (fn ε v0 32) = 101) ∧ ((0 : Int) ≤ v2 ∧ v2 < ln ε (fn ε v0 32)) ∧ G cd_X12_pairs Q X 219 [(0, (2, v0)), (1, (0, v1)), (2, (0, v2)), (4, (1, v4))] [(1, μ (fn ε v0 32) v2)] ε μ)) ∧ ((μ (fn ε v0 31) v1) ≠ (0 : Int) → (m_ty [(0, (2, v0)), (1, (0, v1)), (2, (0, v2)), (4, (1, v4))] [] ε μ → (kd ε v0 = 11) ∧ (kd ε (fn ε v0 31) = 101) ∧ ((0 : Int) ≤ v2 ∧ v2 < ln ε (fn ε v0 31)) ∧ G cd_X12_pairs Q X 219 [(0, (2, v0)), (1, (0, v1)), (2, (0, v2)), (4, (1, v4))] [(1, μ (fn ε v0 31) v2)] ε μ)))) ∧ ((μ (fn ε v0 30) v1) ≠ (0 : Int) → (m_ty [(0, (2, v0)), (1, (0, v1)), (2, (0, v2)), (4, (1, v4))] [] ε μ → (kd ε v0 = 11) ∧ (kd ε (fn ε v0 30) = 101) ∧ ((0 : Int) ≤ v2 ∧ v2 < ln ε (fn ε v0 30)) ∧ G cd_X12_pairs Q X 219 [(0, (2, v0)), (1, (0, v1)), (2, (0, v2)), (4, (1, v4))] [(1, μ (fn ε v0 30) v2)] ε μ))
  intro hty
  replace h := h hty.1 (hty.2.1 _ (List.mem_of_getElem? (i := 1) rfl)) (hty.2.1 _ (List.mem_of_getElem? (i := 2) rfl)) (hty.2.2 _ (List.mem_of_getElem? (i := 0) rfl))
  intro v4 e_v4
  replace h := h v4 e_v4
  obtain ⟨k1, h⟩ := h
  refine And.intro k1 ?_
  obtain ⟨k2, h⟩ := h
  refine And.intro k2 ?_
  obtain ⟨k3, h⟩ := h
  obtain ⟨k4, h⟩ := h
  refine And.intro (And.intro k3 k4) ?_
  obtain ⟨hc, hj⟩ := h
  obtain ⟨k33, k34⟩ := hc
  refine And.intro (fun c4 => ?_) (fun c4 => ?_)
  · replace k33 := k33 c4
    intro _
    obtain ⟨k6, k7, k35⟩ := k33
    refine And.intro k1 ?_
    refine And.intro k6 ?_
    refine And.intro (And.intro k3 k7) ?_
    obtain ⟨k36, k37⟩ := k35
    refine And.intro (fun c7 => ?_) (fun c7 => ?_)
    · replace k36 := k36 c7
      intro _
      obtain ⟨k9, k10, k11⟩ := k36
      refine And.intro k1 ?_
      refine And.intro k9 ?_
      refine And.intro (And.intro k10 k11) ?_
      exact g_X12_pairs_219 (fun _ _ _ _ _ => (hj _ (((if_pos c4).trans ((if_pos c7).trans rfl))).symm))
    · replace k37 := k37 c7
      intro _
      obtain ⟨k12, k13⟩ := k37
      refine And.intro k1 ?_
      refine And.intro k6 ?_
      refine And.intro (And.intro k12 k13) ?_
      exact g_X12_pairs_219 (fun _ _ _ _ _ => (hj _ (((if_pos c4).trans ((if_neg (c7)).trans rfl))).symm))
  · replace k34 := k34 c4
    intro _
    obtain ⟨k14, k15⟩ := k34
    refine And.intro k1 ?_
    refine And.intro k2 ?_
    refine And.intro (And.intro k14 k15) ?_
    exact g_X12_pairs_219 (fun _ _ _ _ _ => (hj _ (((if_neg (c4)).trans rfl)).symm))
set_option maxRecDepth 20000 in
theorem g_X12_pairs_117 {Q X : m_Po} {v0 v1 v2 t : Int} {ε : m_E} {μ : m_M} (h : TY ε μ → i32 v1 → i32 v2 → i32 t → ∀ v3 : Int, v3 = t → (v3 ≠ 0 → kd ε v0 = 11 ∧ kd ε (fn ε v0 30) = 101 ∧ (0 : Int) ≤ v1 ∧ v1 < ln ε (fn ε v0 30) ∧ (((μ (fn ε v0 30) v1) = (0 : Int) → kd ε (fn ε v0 31) = 101 ∧ v1 < ln ε (fn ε v0 31) ∧ ((μ (fn ε v0 31) v1) = (0 : Int) → kd ε (fn ε v0 32) = 101 ∧ v1 < ln ε (fn ε v0 32)))) ∧ ∀ t_1 : Int, t_1 = (if (μ (fn ε v0 30) v1) = (0 : Int) then if (μ (fn ε v0 31) v1) = (0 : Int) then μ (fn ε v0 32) v1 else μ (fn ε v0 31) v1 else μ (fn ε v0 30) v1) → ∀ v4 : Int, v4 = t_1 → kd ε v0 = 11 ∧ kd ε (fn ε v0 30) = 101 ∧ (0 : Int) ≤ v1 ∧ v1 < ln ε (fn ε v0 30) ∧ (((μ (fn ε v0 30) v1) = (0 : Int) → kd ε (fn ε v0 31) = 101 ∧ v1 < ln ε (fn ε v0 31) ∧ ((μ (fn ε v0 31) v1) = (0 : Int) → kd ε (fn ε v0 32) = 101 ∧ (0 : Int) ≤ v2 ∧ v2 < ln ε (fn ε v0 32)) ∧ ((μ (fn ε v0 31) v1) ≠ (0 : Int) → (0 : Int) ≤ v2 ∧ v2 < ln ε (fn ε v0 31))) ∧ ((μ (fn ε v0 30) v1) ≠ (0 : Int) → (0 : Int) ≤ v2 ∧ v2 < ln ε (fn ε v0 30))) ∧ ∀ t_2 : Int, t_2 = (if (μ (fn ε v0 30) v1) = (0 : Int) then if (μ (fn ε v0 31) v1) = (0 : Int) then μ (fn ε v0 32) v2 else μ (fn ε v0 31) v2 else μ (fn ε v0 30) v2) → ∀ v6 : Int, v6 = t_2 → ∀ t_3 : Int, t_3 = (if (0 : Int) ≤ v4 then 0 else 1) → ∀ t_4 : Int, t_4 = (if (0 : Int) ≤ v6 then 0 else 1) → (t_3 ≠ t_4 → kd ε v0 = 11 ∧ kd ε (fn ε v0 61) = 100 ∧ 0 < ln ε (fn ε v0 61) ∧ ∀ μ_1 : m_M, μ_1 = st μ (fn ε v0 61) 0 v1 → 1 < ln ε (fn ε v0 61) ∧ ∀ μ_2 : m_M, μ_2 = st μ_1 (fn ε v0 61) 1 v2 → ∀ t_5 : Int, t_5 = (if (0 : Int) ≤ v6 then v6 else w64 (-v6)) → kd ε (fn ε v0 60) = 101 ∧ (0 : Int) ≤ 0 ∧ 0 < ln ε (fn ε v0 60) ∧ ∀ μ_3 : m_M, μ_3 = st μ_2 (fn ε v0 60) 0 t_5 → kd ε v0 = 11 ∧ ∀ t_6 : Int, t_6 = (if (0 : Int) ≤ v4 then v4 else w64 (-v4)) → kd ε (fn ε v0 60) = 101 ∧ (0 : Int) ≤ 1 ∧ 1 < ln ε (fn ε v0 60) ∧ ∀ μ_4 : m_M, μ_4 = st μ_3 (fn ε v0 60) 1 t_6 → kd ε v0 = 11 ∧ o_X12_isNever [(2, v0), (0, 2)] ε μ_4 (fun z ε_1 μ_5 => G cd_X12_pairs Q X 312 [(0, (2, v0)), (1, (0, v1)), (2, (0, v2))] [(0, z)] ε_1 μ_5) m_F) ∧ (t_3 = t_4 → G cd_X12_pairs Q X 317 [(0, (2, v0)), (1, (0, v1)), (2, (0, v2))] [] ε μ)) ∧ (v3 = 0 → G cd_X12_pairs Q X 317 [(0, (2, v0)), (1, (0, v1)), (2, (0, v2))] [] ε μ)) : G cd_X12_pairs Q X 117 [(0, (2, v0)), (1, (0, v1)), (2, (0, v2))] [(0, t)] ε μ := by
  refine G_run (m_in [2, 14, 117, 171, 219, 233, 245, 285, 306, 312, 317]) 42 _ _ _ _ ?_
  show m_ty [(0, (2, v0)), (1, (0, v1)), (2, (0, v2))] [(0, t)] ε μ → ∀ v3 : Int, v3 = t → (v3 ≠ 0 → (m_ty [(0, (2, v0)), (1, (0, v1)), (2, (0, v2))] [] ε μ → (kd ε v0 = 11) ∧ (kd ε (fn ε v0 30) = 101) ∧ ((0 : Int) ≤ v1 ∧ v1 < ln ε (fn ε v0 30)) ∧ ((μ (fn ε v0 30) v1) = (0 : Int) → (m_ty [(0, (2, v0)), (1, (0, v1)), (2, (0, v2))] [] ε μ → (kd ε v0 = 11) ∧ (kd ε (fn ε v0 31) = 101) ∧ ((0 : Int) ≤ v1 ∧ v1 < ln ε (fn ε v0 31)) ∧ ((μ (fn ε v0 31) v1) = (0 : Int) → (m_ty [(0, (2, v0)), (1, (0, v1)), (2, (0, v2))] [] ε μ → (kd ε v0 = 11) ∧ (kd ε (fn ε v0 32) = 101) ∧ ((0 : Int) ≤ v1 ∧ v1 < ln ε (fn ε v0 32)) ∧ G cd_X12_pairs Q X 171 [(0, (2, v0)), (1, (0, v1)), (2, (0, v2))] [(1, μ (fn ε v0 32) v1)] ε μ)) ∧ ((μ (fn ε v0 31) v1) ≠ (0 : Int) → (m_ty [(0, (2, v0)), (1, (0, v1)), (2, (0, v2))] [] ε μ → (kd ε v0 = 11) ∧ (kd ε (fn ε v0 31) = 101) ∧ ((0 : Int) ≤ v1 ∧ v1 < ln ε (fn ε v0 31)) ∧ G cd_X12_pairs Q X 171 [(0, (2, v0)), (1, (0, v1)), (2, (0, v2))] [(1, μ (fn ε v0 31) v1)] ε μ)))) ∧ ((μ (fn ε v0 30) v1) ≠ (0 : Int) → (m_ty [(0, (2, v0)), (1, (0, v1)), (2, (0, v2))] [] ε μ → (kd ε v0 = 11) ∧ (kd ε (fn ε v0 30) = 101) ∧ ((0 : Int) ≤ v1 ∧ v1 < ln ε (fn ε v0 30)) ∧ G cd_X12_pairs Q X 171 [(0, (2, v0)), (1, (0, v1)), (2, (0, v2))] [(1, μ (fn ε v0 30) v1)] ε μ)))) ∧ (v3 = 0 → (m_ty [(0, (2, v0)), (1, (0, v1)), (2, (0, v2))] [] ε μ → G cd_X12_pairs Q X 317 [(0, (2, v0)), (1, (0, v1)), (2, (0, v2))] [] ε μ))
  intro hty
  replace h := h hty.1 (hty.2.1 _ (List.mem_of_getElem? (i := 1) rfl)) (hty.2.1 _ (List.mem_of_getElem? (i := 2) rfl)) (hty.2.2 _ (List.mem_of_getElem? (i := 0) rfl))
  intro v3 e_v3
  replace h := h v3 e_v3
  obtain ⟨ha, hb⟩ := h
  refine And.intro (fun c48 => ?_) (fun c48 => ?_)
  · replace h := ha c48
    clear ha hb
    intro _
    obtain ⟨k1, h⟩ := h
    refine And.intro k1 ?_
    obtain ⟨k2, h⟩ := h
    refine And.intro k2 ?_
    obtain ⟨k3, h⟩ := h
    obtain ⟨k4, h⟩ := h
    refine And.intro (And.intro k3 k4) ?_
    obtain ⟨hc, hj⟩ := h
    refine And.intro (fun c4 => ?_) (fun c4 => ?_)
    · replace hc := hc c4
      intro _
      obtain ⟨k6, k7, k48⟩ := hc
      refine And.intro k1 ?_
      refine And.intro k6 ?_
      refine And.intro (And.intro k3 k7) ?_
      refine And.intro (fun c7 => ?_) (fun c7 => ?_)
      · replace k48 := k48 c7
        intro _
        obtain ⟨k9, k10⟩ := k48
        refine And.intro k1 ?_
        refine And.intro k9 ?_
        refine And.intro (And.intro k3 k10) ?_
        exact g_X12_pairs_171 (fun _ _ _ _ => (hj _ (((if_pos c4).trans ((if_pos c7).trans rfl))).symm))
      · intro _
        refine And.intro k1 ?_
        refine And.intro k6 ?_
        refine And.intro (And.intro k3 k7) ?_
        exact g_X12_pairs_171 (fun _ _ _ _ => (hj _ (((if_pos c4).trans ((if_neg (c7)).trans rfl))).symm))
    · intro _
      refine And.intro k1 ?_
      refine And.intro k2 ?_
      refine And.intro (And.intro k3 k4) ?_
      exact g_X12_pairs_171 (fun _ _ _ _ => (hj _ (((if_neg (c4)).trans rfl)).symm))
  · replace h := hb c48
    clear ha hb
    intro _
    exact h
set_option maxRecDepth 20000 in
theorem g_X12_pairs_14 {Q X : m_Po} {v0 v1 v2 : Int} {ε : m_E} {μ : m_M} (h : TY ε μ → i32 v1 → i32 v2 → kd ε v0 = 11 ∧ ((μ v0 35) ≤ v2 → ∀ v1_1 : Int, v1_1 = w32 (v1 + 1) → G cd_X12_pairs Q X 2 [(0, (2, v0)), (1, (0, v1_1))] [] ε μ) ∧ (v2 < (μ v0 35) → kd ε (fn ε v0 30) = 101 ∧ (0 : Int) ≤ v1 ∧ v1 < ln ε (fn ε v0 30) ∧ kd ε (fn ε v0 31) = 101 ∧ (0 : Int) ≤ v2 ∧ v2 < ln ε (fn ε v0 31) ∧ v2 < ln ε (fn ε v0 30) ∧ v1 < ln ε (fn ε v0 31) ∧ (((w64 ((μ (fn ε v0 30) v1) * (μ (fn ε v0 31) v2))) = (w64 ((μ (fn ε v0 30) v2) * (μ (fn ε v0 31) v1))) → kd ε (fn ε v0 32) = 101 ∧ v2 < ln ε (fn ε v0 32) ∧ v1 < ln ε (fn ε v0 32))) ∧ ∀ t : Int, t = (if (w64 ((μ (fn ε v0 30) v1) * (μ (fn ε v0 31) v2))) = (w64 ((μ (fn ε v0 30) v2) * (μ (fn ε v0 31) v1))) then if (w64 ((μ (fn ε v0 30) v1) * (μ (fn ε v0 32) v2))) = (w64 ((μ (fn ε v0 30) v2) * (μ (fn ε v0 32) v1))) then if (w64 ((μ (fn ε v0 31) v1) * (μ (fn ε v0 32) v2))) = (w64 ((μ (fn ε v0 31) v2) * (μ (fn ε v0 32) v1))) then 1 else 0 else 0 else 0) → ∀ v3 : Int, v3 = t → (v3 ≠ 0 → kd ε v0 = 11 ∧ kd ε (fn ε v0 30) = 101 ∧ (0 : Int) ≤ v1 ∧ v1 < ln ε (fn ε v0 30) ∧ (((μ (fn ε v0 30) v1) = (0 : Int) → kd ε (fn ε v0 31) = 101 ∧ v1 < ln ε (fn ε v0 31) ∧ ((μ (fn ε v0 31) v1) = (0 : Int) → kd ε (fn ε v0 32) = 101 ∧ v1 < ln ε (fn ε v0 32)))) ∧ ∀ t_1 : Int, t_1 = (if (μ (fn ε v0 30) v1) = (0 : Int) then if (μ (fn ε v0 31) v1) = (0 : Int) then μ (fn ε v0 32) v1 else μ (fn ε v0 31) v1 else μ (fn ε v0 30) v1) → ∀ v4 : Int, v4 = t_1 → kd ε v0 = 11 ∧ kd ε (fn ε v0 30) = 101 ∧ (0 : Int) ≤ v1 ∧ v1 < ln ε (fn ε v0 30) ∧ (((μ (fn ε v0 30) v1) = (0 : Int) → kd ε (fn ε v0 31) = 101 ∧ v1 < ln ε (fn ε v0 31) ∧ ((μ (fn ε v0 31) v1) = (0 : Int) → kd ε (fn ε v0 32) = 101 ∧ (0 : Int) ≤ v2 ∧ v2 < ln ε (fn ε v0 32)) ∧ ((μ (fn ε v0 31) v1) ≠ (0 : Int) → (0 : Int) ≤ v2 ∧ v2 < ln ε (fn ε v0 31))) ∧ ((μ (fn ε v0 30) v1) ≠ (0 : Int) → (0 : Int) ≤ v2 ∧ v2 < ln ε (fn ε v0 30))) ∧ ∀ t_2 : Int, t_2 = (if (μ (fn ε v0 30) v1) = (0 : Int) then if (μ (fn ε v0 31) v1) = (0 : Int) then μ (fn ε v0 32) v2 else μ (fn ε v0 31) v2 else μ (fn ε v0 30) v2) → ∀ v6 : Int, v6 = t_2 → ∀ t_3 : Int, t_3 = (if (0 : Int) ≤ v4 then 0 else 1) → ∀ t_4 : Int, t_4 = (if (0 : Int) ≤ v6 then 0 else 1) → (t_3 ≠ t_4 → kd ε v0 = 11 ∧ kd ε (fn ε v0 61) = 100 ∧ 0 < ln ε (fn ε v0 61) ∧ ∀ μ_1 : m_M, μ_1 = st μ (fn ε v0 61) 0 v1 → 1 < ln ε (fn ε v0 61) ∧ ∀ μ_2 : m_M, μ_2 = st μ_1 (fn ε v0 61) 1 v2 → ∀ t_5 : Int, t_5 = (if (0 : Int) ≤ v6 then v6 else w64 (-v6)) → kd ε (fn ε v0 60) = 101 ∧ (0 : Int) ≤ 0 ∧ 0 < ln ε (fn ε v0 60) ∧ ∀ μ_3 : m_M, μ_3 = st μ_2 (fn ε v0 60) 0 t_5 → kd ε v0 = 11 ∧ ∀ t_6 : Int, t_6 = (if (0 : Int) ≤ v4 then v4 else w64 (-v4)) → kd ε (fn ε v0 60) = 101 ∧ (0 : Int) ≤ 1 ∧ 1 < ln ε (fn ε v0 60) ∧ ∀ μ_4 : m_M, μ_4 = st μ_3 (fn ε v0 60) 1 t_6 → kd ε v0 = 11 ∧ o_X12_isNever [(2, v0), (0, 2)] ε μ_4 (fun z ε_1 μ_5 => G cd_X12_pairs Q X 312 [(0, (2, v0)), (1, (0, v1)), (2, (0, v2))] [(0, z)] ε_1 μ_5) m_F) ∧ (t_3 = t_4 → G cd_X12_pairs Q X 317 [(0, (2, v0)), (1, (0, v1)), (2, (0, v2))] [] ε μ)) ∧ (v3 = 0 → G cd_X12_pairs Q X 317 [(0, (2, v0)), (1, (0, v1)), (2, (0, v2))] [] ε μ))) : G cd_X12_pairs Q X 14 [(0, (2, v0)), (1, (0, v1)), (2, (0, v2))] [] ε μ := by
  refine G_run (m_in [2, 14, 117, 171, 219, 233, 245, 285, 306, 312, 317]) 42 _ _ _ _ ?_
  show m_ty [(0, (2, v0)), (1, (0, v1)), (2, (0, v2))] [] ε μ → (kd ε v0 = 11) ∧ ((μ v0 35) ≤ v2 → (m_ty [(0, (2, v0)), (1, (0, v1))] [] ε μ → ∀ v1_1 : Int, v1_1 = w32 (v1 + 1) → G cd_X12_pairs Q X 2 [(0, (2, v0)), (1, (0, v1_1))] [] ε μ)) ∧ (v2 < (μ v0 35) → (m_ty [(0, (2, v0)), (1, (0, v1)), (2, (0, v2))] [] ε μ → (kd ε v0 = 11) ∧ (kd ε (fn ε v0 30) = 101) ∧ ((0 : Int) ≤ v1 ∧ v1 < ln ε (fn ε v0 30)) ∧ (kd ε v0 = 11) ∧ (kd ε (fn ε v0 31) = 101) ∧ ((0 : Int) ≤ v2 ∧ v2 < ln ε (fn ε v0 31)) ∧ (kd ε v0 = 11) ∧ (kd ε (fn ε v0 30) = 101) ∧ ((0 : Int) ≤ v2 ∧ v2 < ln ε (fn ε v0 30)) ∧ (kd ε v0 = 11) ∧ (kd ε (fn ε v0 31) = 101) ∧ ((0 : Int) ≤ v1 ∧ v1 < ln ε (fn ε v0 31)) ∧ ((w64 ((μ (fn ε v0 30) v1) * (μ (fn ε v0 31) v2))) ≠ (w64 ((μ (fn ε v0 30) v2) * (μ (fn ε v0 31) v1))) → (m_ty [(0, (2, v0)), (1, (0, v1)), (2, (0, v2))] [] ε μ → G cd_X12_pairs Q X 117 [(0, (2, v0)), (1, (0, v1)), (2, (0, v2))] [(0, 0)] ε μ)) ∧ ((w64 ((μ (fn ε v0 30) v1) * (μ (fn ε v0 31) v2))) = (w64 ((μ (fn ε v0 30) v2) * (μ (fn ε v0 31) v1))) → (m_ty [(0, (2, v0)), (1, (0, v1)), (2, (0, v2))] [] ε μ → (kd ε v0 = 11) ∧ (kd ε (fn ε v0 30) = 101) ∧ ((0 : Int) ≤ v1 ∧ v1 < ln ε (fn ε v0 30)) ∧ (kd ε v0 = 11) ∧ (kd ε (fn ε v0 32) = 101) ∧ ((0 : Int) ≤ v2 ∧ v2 < ln ε (fn ε v0 32)) ∧ (kd ε v0 = 11) ∧ (kd ε (fn ε v0 30) = 101) ∧ ((0 : Int) ≤ v2 ∧ v2 < ln ε (fn ε v0 30)) ∧ (kd ε v0 = 11) ∧ (kd ε (fn ε v0 32) = 101) ∧ ((0 : Int) ≤ v1 ∧ v1 < ln ε (fn ε v0 32)) ∧ ((w64 ((μ (fn ε v0 30) v1) * (μ (fn ε v0 32) v2))) ≠ (w64 ((μ (fn ε v0 30) v2) * (μ (fn ε v0 32) v1))) → (m_ty [(0, (2, v0)), (1, (0, v1)), (2, (0, v2))] [] ε μ → G cd_X12_pairs Q X 117 [(0, (2, v0)), (1, (0, v1)), (2, (0, v2))] [(0, 0)] ε μ)) ∧ ((w64 ((μ (fn ε v0 30) v1) * (μ (fn ε v0 32) v2))) = (w64 ((μ (fn ε v0 30) v2) * (μ (fn ε v0 32) v1))) → (m_ty [(0, (2, v0)), (1, (0, v1)), (2, (0, v2))] [] ε μ → (kd ε v0 = 11) ∧ (kd ε (fn ε v0 31) = 101) ∧ ((0 : Int) ≤ v1 ∧ v1 < ln ε (fn ε v0 31)) ∧ (kd ε v0 = 11) ∧ (kd ε (fn ε v0 32) = 101) ∧ ((0 : Int) ≤ v2 ∧ v2 < ln ε (fn ε v0 32)) ∧ (kd ε v0 = 11) ∧ (kd ε (fn ε v0 31) = 101) ∧ ((0 : Int) ≤ v2 ∧ v2 < ln ε (fn ε v0 31)) ∧ (kd ε v0 = 11) ∧ (kd ε (fn ε v0 32) = 101) ∧ ((0 : Int) ≤ v1 ∧ v1 < ln ε (fn ε v0 32)) ∧ ((w64 ((μ (fn ε v0 31) v1) * (μ (fn ε v0 32) v2))) ≠ (w64 ((μ (fn ε v0 31) v2) * (μ (fn ε v0 32) v1))) → (m_ty [(0, (2, v0)), (1, (0, v1)), (2, (0, v2))] [] ε μ → G cd_X12_pairs Q X 117 [(0, (2, v0)), (1, (0, v1)), (2, (0, v2))] [(0, 0)] ε μ)) ∧ ((w64 ((μ (fn ε v0 31) v1) * (μ (fn ε v0 32) v2))) = (w64 ((μ (fn ε v0 31) v2) * (μ (fn ε v0 32) v1))) → (m_ty [(0, (2, v0)), (1, (0, v1)), (2, (0, v2))] [] ε μ → G cd_X12_pairs Q X 117 [(0, (2, v0)), (1, (0, v1)), (2, (0, v2))] [(0, 1)] ε μ))))))))
  intro hty
  replace h := h hty.1 (hty.2.1 _ (List.mem_of_getElem? (i := 1) rfl)) (hty.2.1 _ (List.mem_of_getElem? (i := 2) rfl))
  obtain ⟨k1, h⟩ := h
  refine And.intro k1 ?_
  obtain ⟨ha, hb⟩ := h
  refine And.intro (fun c64 => ?_) (fun c64 => ?_)
  · replace h := ha c64
    clear ha hb
    intro _
    intro v1_1 e_v1_1
    replace h := h v1_1 e_v1_1
    exact h
  · replace h := hb c64
    clear ha hb
    intro _
    refine And.intro k1 ?_
    obtain ⟨k2, h⟩ := h
    refine And.intro k2 ?_
    obtain ⟨k3, h⟩ := h
    obtain ⟨k4, h⟩ := h
    refine And.intro (And.intro k3 k4) ?_
    refine And.intro k1 ?_
    obtain ⟨k5, h⟩ := h
    refine And.intro k5 ?_
    obtain ⟨k6, h⟩ := h
    obtain ⟨k7, h⟩ := h
    refine And.intro (And.intro k6 k7) ?_
    refine And.intro k1 ?_
    refine And.intro k2 ?_
    obtain ⟨k8, h⟩ := h
    refine And.intro (And.intro k6 k8) ?_
    refine And.intro k1 ?_
    refine And.intro k5 ?_
    obtain ⟨k9, h⟩ := h
    refine And.intro (And.intro k3 k9) ?_
    obtain ⟨hc, hj⟩ := h
    refine And.intro (fun c9 => ?_) (fun c9 => ?_)
    · intro _
      exact g_X12_pairs_117 (fun _ _ _ _ => (hj _ (((if_neg (c9)).trans rfl)).symm))
    · replace hc := hc c9
      intro _
      obtain ⟨k11, k12, k13⟩ := hc
      refine And.intro k1 ?_
      refine And.intro k2 ?_
      refine And.intro (And.intro k3 k4) ?_
      refine And.intro k1 ?_
      refine And.intro k11 ?_
      refine And.intro (And.intro k6 k12) ?_
      refine And.intro k1 ?_
      refine And.intro k2 ?_
      refine And.intro (And.intro k6 k8) ?_
      refine And.intro k1 ?_
      refine And.intro k11 ?_
      refine And.intro (And.intro k3 k13) ?_
      refine And.intro (fun c13 => ?_) (fun c13 => ?_)
      · intro _
        exact g_X12_pairs_117 (fun _ _ _ _ => (hj _ (((if_pos c9).trans ((if_neg (c13)).trans rfl))).symm))
      · intro _
        refine And.intro k1 ?_
        refine And.intro k5 ?_
        refine And.intro (And.intro k3 k9) ?_
        refine And.intro k1 ?_
        refine And.intro k11 ?_
        refine And.intro (And.intro k6 k12) ?_
        refine And.intro k1 ?_
        refine And.intro k5 ?_
        refine And.intro (And.intro k6 k7) ?_
        refine And.intro k1 ?_
        refine And.intro k11 ?_
        refine And.intro (And.intro k3 k13) ?_
        refine And.intro (fun c14 => ?_) (fun c14 => ?_)
        · intro _
          exact g_X12_pairs_117 (fun _ _ _ _ => (hj _ (((if_pos c9).trans ((if_pos c13).trans ((if_neg (c14)).trans rfl)))).symm))
        · intro _
          exact g_X12_pairs_117 (fun _ _ _ _ => (hj _ (((if_pos c9).trans ((if_pos c13).trans ((if_pos c14).trans rfl)))).symm))
set_option maxRecDepth 20000 in
theorem g_X12_pairs_2 {Q X : m_Po} {v0 v1 : Int} {ε : m_E} {μ : m_M} (h : TY ε μ → i32 v1 → kd ε v0 = 11 ∧ ((μ v0 35) ≤ v1 → Q 0 ε μ) ∧ (v1 < (μ v0 35) → ∀ v2 : Int, v2 = w32 (v1 + 1) → G cd_X12_pairs Q X 14 [(0, (2, v0)), (1, (0, v1)), (2, (0, v2))] [] ε μ)) : G cd_X12_pairs Q X 2 [(0, (2, v0)), (1, (0, v1))] [] ε μ := by
  refine G_run (m_in [2, 14, 117, 171, 219, 233, 245, 285, 306, 312, 317]) 42 _ _ _ _ ?_
  show m_ty [(0, (2, v0)), (1, (0, v1))] [] ε μ → (kd ε v0 = 11) ∧ ((μ v0 35) ≤ v1 → (m_ty [] [] ε μ → (0 = 0 ∨ 0 = 1) ∧ Q 0 ε μ)) ∧ (v1 < (μ v0 35) → (m_ty [(0, (2, v0)), (1, (0, v1))] [] ε μ → ∀ v2 : Int, v2 = w32 (v1 + 1) → G cd_X12_pairs Q X 14 [(0, (2, v0)), (1, (0, v1)), (2, (0, v2))] [] ε μ))
  intro hty
  replace h := h hty.1 (hty.2.1 _ (List.mem_of_getElem? (i := 1) rfl))
  obtain ⟨k1, h⟩ := h
  refine And.intro k1 ?_
  obtain ⟨ha, hb⟩ := h
  refine And.intro (fun c1 => ?_) (fun c1 => ?_)
  · replace h := ha c1
    clear ha hb
    intro _
    refine And.intro (Or.inl rfl) ?_
    exact h
  · replace h := hb c1
    clear ha hb
    intro _
    intro v2 e_v2
    replace h := h v2 e_v2
    exact h
set_option maxRecDepth 20000 in
theorem g_X12_pairs_0 {Q X : m_Po} {v0 : Int} {ε : m_E} {μ : m_M} (h : TY ε μ → ∀ v1 : Int, v1 = 0 → G cd_X12_pairs Q X 2 [(0, (2, v0)), (1, (0, v1))] [] ε μ) : G cd_X12_pairs Q X 0 [(0, (2, v0))] [] ε μ := by
  refine G_run (m_in [2, 14, 117, 171, 219, 233, 245, 285, 306, 312, 317]) 42 _ _ _ _ ?_
  show m_ty [(0, (2, v0))] [] ε μ → ∀ v1 : Int, v1 = 0 → G cd_X12_pairs Q X 2 [(0, (2, v0)), (1, (0, v1))] [] ε μ
  intro hty
  replace h := h hty.1 
  intro v1 e_v1
  replace h := h v1 e_v1
  exact h
theorem e_X12_pairs {Q X : m_Po} {v0 : Int} {ε : m_E} {μ : m_M} (h : TY ε μ → ∀ v1 : Int, v1 = 0 → G cd_X12_pairs Q X 2 [(0, (2, v0)), (1, (0, v1))] [] ε μ) : o_X12_pairs [(2, v0)] ε μ Q X := And.intro rfl (g_X12_pairs_0 h)
/-! ArchYardModel.minor(III)J -/
set_option maxRecDepth 20000 in
theorem g_X12_minor_87 {Q X : m_Po} {v0 v2 v3 t t_1 t_2 t_3 : Int} {ε : m_E} {μ : m_M} (h : TY ε μ → i32 v2 → i32 v3 → i64 t → i64 t_1 → i64 t_2 → i64 t_3 → kd ε v0 = 11 ∧ kd ε (fn ε v0 30) = 101 ∧ (0 : Int) ≤ v3 ∧ v3 < ln ε (fn ε v0 30) ∧ kd ε (fn ε v0 31) = 101 ∧ (0 : Int) ≤ v2 ∧ v2 < ln ε (fn ε v0 31) ∧ Q (w64 (t + (w64 (t_1 * (w64 ((w64 (t_2 * t_3)) - (w64 ((μ (fn ε v0 30) v3) * (μ (fn ε v0 31) v2))))))))) ε μ) : G cd_X12_minor Q X 87 [(0, (2, v0)), (2, (0, v2)), (3, (0, v3))] [(1, t_3), (1, t_2), (1, t_1), (1, t)] ε μ := by
  refine G_run (m_in [44, 87]) 4 _ _ _ _ ?_
  show m_ty [(0, (2, v0)), (2, (0, v2)), (3, (0, v3))] [(1, t_3), (1, t_2), (1, t_1), (1, t)] ε μ → (kd ε v0 = 11) ∧ (kd ε (fn ε v0 30) = 101) ∧ ((0 : Int) ≤ v3 ∧ v3 < ln ε (fn ε v0 30)) ∧ (kd ε v0 = 11) ∧ (kd ε (fn ε v0 31) = 101) ∧ ((0 : Int) ≤ v2 ∧ v2 < ln ε (fn ε v0 31)) ∧ Q (w64 (t + (w64 (t_1 * (w64 ((w64 (t_2 * t_3)) - (w64 ((μ (fn ε v0 30) v3) * (μ (fn ε v0 31) v2))))))))) ε μ
  intro hty
  replace h := h hty.1 (hty.2.1 _ (List.mem_of_getElem? (i := 1) rfl)) (hty.2.1 _ (List.mem_of_getElem? (i := 2) rfl)) (hty.2.2 _ (List.mem_of_getElem? (i := 3) rfl)) (hty.2.2 _ (List.mem_of_getElem? (i := 2) rfl)) (hty.2.2 _ (List.mem_of_getElem? (i := 1) rfl)) (hty.2.2 _ (List.mem_of_getElem? (i := 0) rfl))
  obtain ⟨k1, h⟩ := h
  refine And.intro k1 ?_
  obtain ⟨k2, h⟩ := h
  refine And.intro k2 ?_
  obtain ⟨k3, h⟩ := h
  obtain ⟨k4, h⟩ := h
  refine And.intro (And.intro k3 k4) ?_
  refine And.intro k1 ?_
  obtain ⟨k5, h⟩ := h
  refine And.intro k5 ?_
  obtain ⟨k6, h⟩ := h
  obtain ⟨k7, h⟩ := h
  refine And.intro (And.intro k6 k7) ?_
  exact h
set_option maxRecDepth 20000 in
theorem g_X12_minor_44 {Q X : m_Po} {v0 v1 v2 v3 t t_1 t_2 : Int} {ε : m_E} {μ : m_M} (h : TY ε μ → i32 v1 → i32 v2 → i32 v3 → i64 t → i64 t_1 → kd ε t_2 = 101 ∧ (0 : Int) ≤ v2 ∧ v2 < ln ε t_2 ∧ kd ε v0 = 11 ∧ kd ε (fn ε v0 32) = 101 ∧ (0 : Int) ≤ v3 ∧ v3 < ln ε (fn ε v0 32) ∧ kd ε (fn ε v0 30) = 101 ∧ v3 < ln ε (fn ε v0 30) ∧ v2 < ln ε (fn ε v0 32) ∧ (0 : Int) ≤ v1 ∧ v1 < ln ε (fn ε v0 32) ∧ v2 < ln ε (fn ε v0 30) ∧ kd ε (fn ε v0 31) = 101 ∧ v3 < ln ε (fn ε v0 31) ∧ kd ε v0 = 11 ∧ kd ε (fn ε v0 30) = 101 ∧ (0 : Int) ≤ v3 ∧ v3 < ln ε (fn ε v0 30) ∧ kd ε (fn ε v0 31) = 101 ∧ (0 : Int) ≤ v2 ∧ v2 < ln ε (fn ε v0 31) ∧ Q (w64 ((w64 (t - (w64 (t_1 * (w64 ((w64 ((μ t_2 v2) * (μ (fn ε v0 32) v3))) - (w64 ((μ (fn ε v0 30) v3) * (μ (fn ε v0 32) v2))))))))) + (w64 ((μ (fn ε v0 32) v1) * (w64 ((w64 ((μ (fn ε v0 30) v2) * (μ (fn ε v0 31) v3))) - (w64 ((μ (fn ε v0 30) v3) * (μ (fn ε v0 31) v2))))))))) ε μ) : G cd_X12_minor Q X 44 [(0, (2, v0)), (1, (0, v1)), (2, (0, v2)), (3, (0, v3))] [(2, t_2), (1, t_1), (1, t)] ε μ := by
  refine G_run (m_in [44, 87]) 4 _ _ _ _ ?_
  show m_ty [(0, (2, v0)), (1, (0, v1)), (2, (0, v2)), (3, (0, v3))] [(2, t_2), (1, t_1), (1, t)] ε μ → (kd ε t_2 = 101) ∧ ((0 : Int) ≤ v2 ∧ v2 < ln ε t_2) ∧ (kd ε v0 = 11) ∧ (kd ε (fn ε v0 32) = 101) ∧ ((0 : Int) ≤ v3 ∧ v3 < ln ε (fn ε v0 32)) ∧ (kd ε v0 = 11) ∧ (kd ε (fn ε v0 30) = 101) ∧ ((0 : Int) ≤ v3 ∧ v3 < ln ε (fn ε v0 30)) ∧ (kd ε v0 = 11) ∧ (kd ε (fn ε v0 32) = 101) ∧ ((0 : Int) ≤ v2 ∧ v2 < ln ε (fn ε v0 32)) ∧ (kd ε v0 = 11) ∧ (kd ε (fn ε v0 32) = 101) ∧ ((0 : Int) ≤ v1 ∧ v1 < ln ε (fn ε v0 32)) ∧ (kd ε v0 = 11) ∧ (kd ε (fn ε v0 30) = 101) ∧ ((0 : Int) ≤ v2 ∧ v2 < ln ε (fn ε v0 30)) ∧ (kd ε v0 = 11) ∧ (kd ε (fn ε v0 31) = 101) ∧ ((0 : Int) ≤ v3 ∧ v3 < ln ε (fn ε v0 31)) ∧ G cd_X12_minor Q X 87 [(0, (2, v0)), (2, (0, v2)), (3, (0, v3))] [(1, μ (fn ε v0 31) v3), (1, μ (fn ε v0 30) v2), (1, μ (fn ε v0 32) v1), (1, w64 (t - (w64 (t_1 * (w64 ((w64 ((μ t_2 v2) * (μ (fn ε v0 32) v3))) - (w64 ((μ (fn ε v0 30) v3) * (μ (fn ε v0 32) v2)))))))))] ε μ
  intro hty
  replace h := h hty.1 (hty.2.1 _ (List.mem_of_getElem? (i := 1) rfl)) (hty.2.1 _ (List.mem_of_getElem? (i := 2) rfl)) (hty.2.1 _ (List.mem_of_getElem? (i := 3) rfl)) (hty.2.2 _ (List.mem_of_getElem? (i := 2) rfl)) (hty.2.2 _ (List.mem_of_getElem? (i := 1) rfl))
  obtain ⟨k1, h⟩ := h
  refine And.intro k1 ?_
  obtain ⟨k2, h⟩ := h
  obtain ⟨k3, h⟩ := h
  refine And.intro (And.intro k2 k3) ?_
  obtain ⟨k4, h⟩ := h
  refine And.intro k4 ?_
  obtain ⟨k5, h⟩ := h
  refine And.intro k5 ?_
  obtain ⟨k6, h⟩ := h
  obtain ⟨k7, h⟩ := h
  refine And.intro (And.intro k6 k7) ?_
  refine And.intro k4 ?_
  obtain ⟨k8, h⟩ := h
  refine And.intro k8 ?_
  obtain ⟨k9, h⟩ := h
  refine And.intro (And.intro k6 k9) ?_
  refine And.intro k4 ?_
  refine And.intro k5 ?_
  obtain ⟨k10, h⟩ := h
  refine And.intro (And.intro k2 k10) ?_
  refine And.intro k4 ?_
  refine And.intro k5 ?_
  obtain ⟨k11, h⟩ := h
  obtain ⟨k12, h⟩ := h
  refine And.intro (And.intro k11 k12) ?_
  refine And.intro k4 ?_
  refine And.intro k8 ?_
  obtain ⟨k13, h⟩ := h
  refine And.intro (And.intro k2 k13) ?_
  refine And.intro k4 ?_
  obtain ⟨k14, h⟩ := h
  refine And.intro k14 ?_
  obtain ⟨k15, h⟩ := h
  refine And.intro (And.intro k6 k15) ?_
  exact g_X12_minor_87 (fun _ _ _ _ _ _ _ => h)
set_option maxRecDepth 20000 in
theorem g_X12_minor_0 {Q X : m_Po} {v0 v1 v2 v3 : Int} {ε : m_E} {μ : m_M} (h : TY ε μ → i32 v1 → i32 v2 → i32 v3 → kd ε v0 = 11 ∧ kd ε (fn ε v0 30) = 101 ∧ (0 : Int) ≤ v1 ∧ v1 < ln ε (fn ε v0 30) ∧ kd ε (fn ε v0 31) = 101 ∧ (0 : Int) ≤ v2 ∧ v2 < ln ε (fn ε v0 31) ∧ kd ε (fn ε v0 32) = 101 ∧ (0 : Int) ≤ v3 ∧ v3 < ln ε (fn ε v0 32) ∧ v3 < ln ε (fn ε v0 31) ∧ v2 < ln ε (fn ε v0 32) ∧ v1 < ln ε (fn ε v0 31) ∧ kd ε (fn ε v0 30) = 101 ∧ (0 : Int) ≤ v2 ∧ v2 < ln ε (fn ε v0 30) ∧ kd ε v0 = 11 ∧ kd ε (fn ε v0 32) = 101 ∧ (0 : Int) ≤ v3 ∧ v3 < ln ε (fn ε v0 32) ∧ kd ε (fn ε v0 30) = 101 ∧ v3 < ln ε (fn ε v0 30) ∧ v2 < ln ε (fn ε v0 32) ∧ (0 : Int) ≤ v1 ∧ v1 < ln ε (fn ε v0 32) ∧ v2 < ln ε (fn ε v0 30) ∧ kd ε (fn ε v0 31) = 101 ∧ v3 < ln ε (fn ε v0 31) ∧ kd ε v0 = 11 ∧ kd ε (fn ε v0 30) = 101 ∧ (0 : Int) ≤ v3 ∧ v3 < ln ε (fn ε v0 30) ∧ kd ε (fn ε v0 31) = 101 ∧ (0 : Int) ≤ v2 ∧ v2 < ln ε (fn ε v0 31) ∧ Q (w64 ((w64 ((w64 ((μ (fn ε v0 30) v1) * (w64 ((w64 ((μ (fn ε v0 31) v2) * (μ (fn ε v0 32) v3))) - (w64 ((μ (fn ε v0 31) v3) * (μ (fn ε v0 32) v2))))))) - (w64 ((μ (fn ε v0 31) v1) * (w64 ((w64 ((μ (fn ε v0 30) v2) * (μ (fn ε v0 32) v3))) - (w64 ((μ (fn ε v0 30) v3) * (μ (fn ε v0 32) v2))))))))) + (w64 ((μ (fn ε v0 32) v1) * (w64 ((w64 ((μ (fn ε v0 30) v2) * (μ (fn ε v0 31) v3))) - (w64 ((μ (fn ε v0 30) v3) * (μ (fn ε v0 31) v2))))))))) ε μ) : G cd_X12_minor Q X 0 [(0, (2, v0)), (1, (0, v1)), (2, (0, v2)), (3, (0, v3))] [] ε μ := by
  refine G_run (m_in [44, 87]) 4 _ _ _ _ ?_
  show m_ty [(0, (2, v0)), (1, (0, v1)), (2, (0, v2)), (3, (0, v3))] [] ε μ → (kd ε v0 = 11) ∧ (kd ε (fn ε v0 30) = 101) ∧ ((0 : Int) ≤ v1 ∧ v1 < ln ε (fn ε v0 30)) ∧ (kd ε v0 = 11) ∧ (kd ε (fn ε v0 31) = 101) ∧ ((0 : Int) ≤ v2 ∧ v2 < ln ε (fn ε v0 31)) ∧ (kd ε v0 = 11) ∧ (kd ε (fn ε v0 32) = 101) ∧ ((0 : Int) ≤ v3 ∧ v3 < ln ε (fn ε v0 32)) ∧ (kd ε v0 = 11) ∧ (kd ε (fn ε v0 31) = 101) ∧ ((0 : Int) ≤ v3 ∧ v3 < ln ε (fn ε v0 31)) ∧ (kd ε v0 = 11) ∧ (kd ε (fn ε v0 32) = 101) ∧ ((0 : Int) ≤ v2 ∧ v2 < ln ε (fn ε v0 32)) ∧ (kd ε v0 = 11) ∧ (kd ε (fn ε v0 31) = 101) ∧ ((0 : Int) ≤ v1 ∧ v1 < ln ε (fn ε v0 31)) ∧ (kd ε v0 = 11) ∧ G cd_X12_minor Q X 44 [(0, (2, v0)), (1, (0, v1)), (2, (0, v2)), (3, (0, v3))] [(2, fn ε v0 30), (1, μ (fn ε v0 31) v1), (1, w64 ((μ (fn ε v0 30) v1) * (w64 ((w64 ((μ (fn ε v0 31) v2) * (μ (fn ε v0 32) v3))) - (w64 ((μ (fn ε v0 31) v3) * (μ (fn ε v0 32) v2)))))))] ε μ
  intro hty
  replace h := h hty.1 (hty.2.1 _ (List.mem_of_getElem? (i := 1) rfl)) (hty.2.1 _ (List.mem_of_getElem? (i := 2) rfl)) (hty.2.1 _ (List.mem_of_getElem? (i := 3) rfl))
  obtain ⟨k1, h⟩ := h
  refine And.intro k1 ?_
  obtain ⟨k2, h⟩ := h
  refine And.intro k2 ?_
  obtain ⟨k3, h⟩ := h
  obtain ⟨k4, h⟩ := h
  refine And.intro (And.intro k3 k4) ?_
  refine And.intro k1 ?_
  obtain ⟨k5, h⟩ := h
  refine And.intro k5 ?_
  obtain ⟨k6, h⟩ := h
  obtain ⟨k7, h⟩ := h
  refine And.intro (And.intro k6 k7) ?_
  refine And.intro k1 ?_
  obtain ⟨k8, h⟩ := h
  refine And.intro k8 ?_
  obtain ⟨k9, h⟩ := h
  obtain ⟨k10, h⟩ := h
  refine And.intro (And.intro k9 k10) ?_
  refine And.intro k1 ?_
  refine And.intro k5 ?_
  obtain ⟨k11, h⟩ := h
  refine And.intro (And.intro k9 k11) ?_
  refine And.intro k1 ?_
  refine And.intro k8 ?_
  obtain ⟨k12, h⟩ := h
  refine And.intro (And.intro k6 k12) ?_
  refine And.intro k1 ?_
  refine And.intro k5 ?_
  obtain ⟨k13, h⟩ := h
  refine And.intro (And.intro k3 k13) ?_
  refine And.intro k1 ?_
  exact g_X12_minor_44 (fun _ _ _ _ _ _ => h)
theorem e_X12_minor {Q X : m_Po} {v0 v1 v2 v3 : Int} {ε : m_E} {μ : m_M} (h : TY ε μ → i32 v1 → i32 v2 → i32 v3 → kd ε v0 = 11 ∧ kd ε (fn ε v0 30) = 101 ∧ (0 : Int) ≤ v1 ∧ v1 < ln ε (fn ε v0 30) ∧ kd ε (fn ε v0 31) = 101 ∧ (0 : Int) ≤ v2 ∧ v2 < ln ε (fn ε v0 31) ∧ kd ε (fn ε v0 32) = 101 ∧ (0 : Int) ≤ v3 ∧ v3 < ln ε (fn ε v0 32) ∧ v3 < ln ε (fn ε v0 31) ∧ v2 < ln ε (fn ε v0 32) ∧ v1 < ln ε (fn ε v0 31) ∧ kd ε (fn ε v0 30) = 101 ∧ (0 : Int) ≤ v2 ∧ v2 < ln ε (fn ε v0 30) ∧ kd ε v0 = 11 ∧ kd ε (fn ε v0 32) = 101 ∧ (0 : Int) ≤ v3 ∧ v3 < ln ε (fn ε v0 32) ∧ kd ε (fn ε v0 30) = 101 ∧ v3 < ln ε (fn ε v0 30) ∧ v2 < ln ε (fn ε v0 32) ∧ (0 : Int) ≤ v1 ∧ v1 < ln ε (fn ε v0 32) ∧ v2 < ln ε (fn ε v0 30) ∧ kd ε (fn ε v0 31) = 101 ∧ v3 < ln ε (fn ε v0 31) ∧ kd ε v0 = 11 ∧ kd ε (fn ε v0 30) = 101 ∧ (0 : Int) ≤ v3 ∧ v3 < ln ε (fn ε v0 30) ∧ kd ε (fn ε v0 31) = 101 ∧ (0 : Int) ≤ v2 ∧ v2 < ln ε (fn ε v0 31) ∧ Q (w64 ((w64 ((w64 ((μ (fn ε v0 30) v1) * (w64 ((w64 ((μ (fn ε v0 31) v2) * (μ (fn ε v0 32) v3))) - (w64 ((μ (fn ε v0 31) v3) * (μ (fn ε v0 32) v2))))))) - (w64 ((μ (fn ε v0 31) v1) * (w64 ((w64 ((μ (fn ε v0 30) v2) * (μ (fn ε v0 32) v3))) - (w64 ((μ (fn ε v0 30) v3) * (μ (fn ε v0 32) v2))))))))) + (w64 ((μ (fn ε v0 32) v1) * (w64 ((w64 ((μ (fn ε v0 30) v2) * (μ (fn ε v0 31) v3))) - (w64 ((μ (fn ε v0 30) v3) * (μ (fn ε v0 31) v2))))))))) ε μ) : o_X12_minor [(2, v0), (0, v1), (0, v2), (0, v3)] ε μ Q X := And.intro rfl (g_X12_minor_0 h)
/-! ArchYardModel.across(III)J -/
set_option maxRecDepth 20000 in
theorem g_X12_across_96 {Q X : m_Po} {t : Int} {ε : m_E} {μ : m_M} (h : TY ε μ → i64 t → Q t ε μ) : G cd_X12_across Q X 96 [] [(1, t)] ε μ := by
  refine G_run (m_in [96]) 7 _ _ _ _ ?_
  show m_ty [] [(1, t)] ε μ → Q t ε μ
  intro hty
  replace h := h hty.1 (hty.2.2 _ (List.mem_of_getElem? (i := 0) rfl))
  exact h
set_option maxRecDepth 20000 in
theorem g_X12_across_0 {Q X : m_Po} {v0 v1 v2 v3 : Int} {ε : m_E} {μ : m_M} (h : TY ε μ → i32 v1 → i32 v2 → i32 v3 → ((v3 ≠ 0 → (v3 ≠ (1 : Int) → kd ε v0 = 11 ∧ kd ε (fn ε v0 30) = 101 ∧ (0 : Int) ≤ v1 ∧ v1 < ln ε (fn ε v0 30) ∧ kd ε (fn ε v0 31) = 101 ∧ (0 : Int) ≤ v2 ∧ v2 < ln ε (fn ε v0 31) ∧ v2 < ln ε (fn ε v0 30) ∧ v1 < ln ε (fn ε v0 31)) ∧ (v3 = (1 : Int) → kd ε v0 = 11 ∧ kd ε (fn ε v0 32) = 101 ∧ (0 : Int) ≤ v1 ∧ v1 < ln ε (fn ε v0 32) ∧ kd ε (fn ε v0 30) = 101 ∧ (0 : Int) ≤ v2 ∧ v2 < ln ε (fn ε v0 30) ∧ v2 < ln ε (fn ε v0 32) ∧ v1 < ln ε (fn ε v0 30))) ∧ (v3 = 0 → kd ε v0 = 11 ∧ kd ε (fn ε v0 31) = 101 ∧ (0 : Int) ≤ v1 ∧ v1 < ln ε (fn ε v0 31) ∧ kd ε (fn ε v0 32) = 101 ∧ (0 : Int) ≤ v2 ∧ v2 < ln ε (fn ε v0 32) ∧ v2 < ln ε (fn ε v0 31) ∧ v1 < ln ε (fn ε v0 32))) ∧ ∀ t : Int, t = (if v3 = 0 then w64 ((w64 ((μ (fn ε v0 31) v1) * (μ (fn ε v0 32) v2))) - (w64 ((μ (fn ε v0 31) v2) * (μ (fn ε v0 32) v1)))) else if v3 = (1 : Int) then w64 ((w64 ((μ (fn ε v0 32) v1) * (μ (fn ε v0 30) v2))) - (w64 ((μ (fn ε v0 32) v2) * (μ (fn ε v0 30) v1)))) else w64 ((w64 ((μ (fn ε v0 30) v1) * (μ (fn ε v0 31) v2))) - (w64 ((μ (fn ε v0 30) v2) * (μ (fn ε v0 31) v1))))) → Q t ε μ) : G cd_X12_across Q X 0 [(0, (2, v0)), (1, (0, v1)), (2, (0, v2)), (3, (0, v3))] [] ε μ := by
  refine G_run (m_in [96]) 7 _ _ _ _ ?_
  show m_ty [(0, (2, v0)), (1, (0, v1)), (2, (0, v2)), (3, (0, v3))] [] ε μ → (v3 ≠ 0 → (m_ty [(0, (2, v0)), (1, (0, v1)), (2, (0, v2)), (3, (0, v3))] [] ε μ → (v3 ≠ (1 : Int) → (m_ty [(0, (2, v0)), (1, (0, v1)), (2, (0, v2))] [] ε μ → (kd ε v0 = 11) ∧ (kd ε (fn ε v0 30) = 101) ∧ ((0 : Int) ≤ v1 ∧ v1 < ln ε (fn ε v0 30)) ∧ (kd ε v0 = 11) ∧ (kd ε (fn ε v0 31) = 101) ∧ ((0 : Int) ≤ v2 ∧ v2 < ln ε (fn ε v0 31)) ∧ (kd ε v0 = 11) ∧ (kd ε (fn ε v0 30) = 101) ∧ ((0 : Int) ≤ v2 ∧ v2 < ln ε (fn ε v0 30)) ∧ (kd ε v0 = 11) ∧ (kd ε (fn ε v0 31) = 101) ∧ ((0 : Int) ≤ v1 ∧ v1 < ln ε (fn ε v0 31)) ∧ G cd_X12_across Q X 96 [] [(1, w64 ((w64 ((μ (fn ε v0 30) v1) * (μ (fn ε v0 31) v2))) - (w64 ((μ (fn ε v0 30) v2) * (μ (fn ε v0 31) v1)))))] ε μ)) ∧ (v3 = (1 : Int) → (m_ty [(0, (2, v0)), (1, (0, v1)), (2, (0, v2))] [] ε μ → (kd ε v0 = 11) ∧ (kd ε (fn ε v0 32) = 101) ∧ ((0 : Int) ≤ v1 ∧ v1 < ln ε (fn ε v0 32)) ∧ (kd ε v0 = 11) ∧ (kd ε (fn ε v0 30) = 101) ∧ ((0 : Int) ≤ v2 ∧ v2 < ln ε (fn ε v0 30)) ∧ (kd ε v0 = 11) ∧ (kd ε (fn ε v0 32) = 101) ∧ ((0 : Int) ≤ v2 ∧ v2 < ln ε (fn ε v0 32)) ∧ (kd ε v0 = 11) ∧ (kd ε (fn ε v0 30) = 101) ∧ ((0 : Int) ≤ v1 ∧ v1 < ln ε (fn ε v0 30)) ∧ G cd_X12_across Q X 96 [] [(1, w64 ((w64 ((μ (fn ε v0 32) v1) * (μ (fn ε v0 30) v2))) - (w64 ((μ (fn ε v0 32) v2) * (μ (fn ε v0 30) v1)))))] ε μ)))) ∧ (v3 = 0 → (m_ty [(0, (2, v0)), (1, (0, v1)), (2, (0, v2))] [] ε μ → (kd ε v0 = 11) ∧ (kd ε (fn ε v0 31) = 101) ∧ ((0 : Int) ≤ v1 ∧ v1 < ln ε (fn ε v0 31)) ∧ (kd ε v0 = 11) ∧ (kd ε (fn ε v0 32) = 101) ∧ ((0 : Int) ≤ v2 ∧ v2 < ln ε (fn ε v0 32)) ∧ (kd ε v0 = 11) ∧ (kd ε (fn ε v0 31) = 101) ∧ ((0 : Int) ≤ v2 ∧ v2 < ln ε (fn ε v0 31)) ∧ (kd ε v0 = 11) ∧ (kd ε (fn ε v0 32) = 101) ∧ ((0 : Int) ≤ v1 ∧ v1 < ln ε (fn ε v0 32)) ∧ G cd_X12_across Q X 96 [] [(1, w64 ((w64 ((μ (fn ε v0 31) v1) * (μ (fn ε v0 32) v2))) - (w64 ((μ (fn ε v0 31) v2) * (μ (fn ε v0 32) v1)))))] ε μ))
  intro hty
  replace h := h hty.1 (hty.2.1 _ (List.mem_of_getElem? (i := 1) rfl)) (hty.2.1 _ (List.mem_of_getElem? (i := 2) rfl)) (hty.2.1 _ (List.mem_of_getElem? (i := 3) rfl))
  obtain ⟨hc, hj⟩ := h
  obtain ⟨k30, k31⟩ := hc
  refine And.intro (fun c0 => ?_) (fun c0 => ?_)
  · replace k30 := k30 c0
    intro _
    obtain ⟨k32, k33⟩ := k30
    refine And.intro (fun c1 => ?_) (fun c1 => ?_)
    · replace k32 := k32 c1
      intro _
      obtain ⟨k3, k4, k5, k6, k7, k8, k9, k10, k11⟩ := k32
      refine And.intro k3 ?_
      refine And.intro k4 ?_
      refine And.intro (And.intro k5 k6) ?_
      refine And.intro k3 ?_
      refine And.intro k7 ?_
      refine And.intro (And.intro k8 k9) ?_
      refine And.intro k3 ?_
      refine And.intro k4 ?_
      refine And.intro (And.intro k8 k10) ?_
      refine And.intro k3 ?_
      refine And.intro k7 ?_
      refine And.intro (And.intro k5 k11) ?_
      exact g_X12_across_96 (fun _ _ => (hj _ (((if_neg (c0)).trans ((if_neg (c1)).trans rfl))).symm))
    · replace k33 := k33 c1
      intro _
      obtain ⟨k12, k13, k14, k15, k16, k17, k18, k19, k20⟩ := k33
      refine And.intro k12 ?_
      refine And.intro k13 ?_
      refine And.intro (And.intro k14 k15) ?_
      refine And.intro k12 ?_
      refine And.intro k16 ?_
      refine And.intro (And.intro k17 k18) ?_
      refine And.intro k12 ?_
      refine And.intro k13 ?_
      refine And.intro (And.intro k17 k19) ?_
      refine And.intro k12 ?_
      refine And.intro k16 ?_
      refine And.intro (And.intro k14 k20) ?_
      exact g_X12_across_96 (fun _ _ => (hj _ (((if_neg (c0)).trans ((if_pos c1).trans rfl))).symm))
  · replace k31 := k31 c0
    intro _
    obtain ⟨k21, k22, k23, k24, k25, k26, k27, k28, k29⟩ := k31
    refine And.intro k21 ?_
    refine And.intro k22 ?_
    refine And.intro (And.intro k23 k24) ?_
    refine And.intro k21 ?_
    refine And.intro k25 ?_
    refine And.intro (And.intro k26 k27) ?_
    refine And.intro k21 ?_
    refine And.intro k22 ?_
    refine And.intro (And.intro k26 k28) ?_
    refine And.intro k21 ?_
    refine And.intro k25 ?_
    refine And.intro (And.intro k23 k29) ?_
    exact g_X12_across_96 (fun _ _ => (hj _ (((if_pos c0).trans rfl)).symm))
theorem e_X12_across {Q X : m_Po} {v0 v1 v2 v3 : Int} {ε : m_E} {μ : m_M} (h : TY ε μ → i32 v1 → i32 v2 → i32 v3 → ((v3 ≠ 0 → (v3 ≠ (1 : Int) → kd ε v0 = 11 ∧ kd ε (fn ε v0 30) = 101 ∧ (0 : Int) ≤ v1 ∧ v1 < ln ε (fn ε v0 30) ∧ kd ε (fn ε v0 31) = 101 ∧ (0 : Int) ≤ v2 ∧ v2 < ln ε (fn ε v0 31) ∧ v2 < ln ε (fn ε v0 30) ∧ v1 < ln ε (fn ε v0 31)) ∧ (v3 = (1 : Int) → kd ε v0 = 11 ∧ kd ε (fn ε v0 32) = 101 ∧ (0 : Int) ≤ v1 ∧ v1 < ln ε (fn ε v0 32) ∧ kd ε (fn ε v0 30) = 101 ∧ (0 : Int) ≤ v2 ∧ v2 < ln ε (fn ε v0 30) ∧ v2 < ln ε (fn ε v0 32) ∧ v1 < ln ε (fn ε v0 30))) ∧ (v3 = 0 → kd ε v0 = 11 ∧ kd ε (fn ε v0 31) = 101 ∧ (0 : Int) ≤ v1 ∧ v1 < ln ε (fn ε v0 31) ∧ kd ε (fn ε v0 32) = 101 ∧ (0 : Int) ≤ v2 ∧ v2 < ln ε (fn ε v0 32) ∧ v2 < ln ε (fn ε v0 31) ∧ v1 < ln ε (fn ε v0 32))) ∧ ∀ t : Int, t = (if v3 = 0 then w64 ((w64 ((μ (fn ε v0 31) v1) * (μ (fn ε v0 32) v2))) - (w64 ((μ (fn ε v0 31) v2) * (μ (fn ε v0 32) v1)))) else if v3 = (1 : Int) then w64 ((w64 ((μ (fn ε v0 32) v1) * (μ (fn ε v0 30) v2))) - (w64 ((μ (fn ε v0 32) v2) * (μ (fn ε v0 30) v1)))) else w64 ((w64 ((μ (fn ε v0 30) v1) * (μ (fn ε v0 31) v2))) - (w64 ((μ (fn ε v0 30) v2) * (μ (fn ε v0 31) v1))))) → Q t ε μ) : o_X12_across [(2, v0), (0, v1), (0, v2), (0, v3)] ε μ Q X := And.intro rfl (g_X12_across_0 h)
/-! ArchYardModel.threes()Z -/
set_option maxRecDepth 20000 in
theorem g_X12_threes_293 {Q X : m_Po} {v0 v1 v2 v3 : Int} {ε : m_E} {μ : m_M} (h : TY ε μ → i32 v1 → i32 v2 → i32 v3 → ∀ v3_1 : Int, v3_1 = w32 (v3 + 1) → G cd_X12_threes Q X 26 [(0, (2, v0)), (1, (0, v1)), (2, (0, v2)), (3, (0, v3_1))] [] ε μ) : G cd_X12_threes Q X 293 [(0, (2, v0)), (1, (0, v1)), (2, (0, v2)), (3, (0, v3))] [] ε μ := by
  refine G_run (m_in [2, 14, 26, 41, 52, 66, 79, 92, 97, 103, 120, 130, 140, 154, 166, 181, 193, 240, 261, 282, 288, 293]) 55 _ _ _ _ ?_
  show m_ty [(0, (2, v0)), (1, (0, v1)), (2, (0, v2)), (3, (0, v3))] [] ε μ → ∀ v3_1 : Int, v3_1 = w32 (v3 + 1) → G cd_X12_threes Q X 26 [(0, (2, v0)), (1, (0, v1)), (2, (0, v2)), (3, (0, v3_1))] [] ε μ
  intro hty
  replace h := h hty.1 (hty.2.1 _ (List.mem_of_getElem? (i := 1) rfl)) (hty.2.1 _ (List.mem_of_getElem? (i := 2) rfl)) (hty.2.1 _ (List.mem_of_getElem? (i := 3) rfl))
  intro v3_1 e_v3_1
  replace h := h v3_1 e_v3_1
  exact h
set_option maxRecDepth 20000 in
theorem g_X12_threes_288 {Q X : m_Po} {v0 v1 v2 v3 t : Int} {ε : m_E} {μ : m_M} (h : TY ε μ → i32 v1 → i32 v2 → i32 v3 → i32 t → (t = 0 → G cd_X12_threes Q X 293 [(0, (2, v0)), (1, (0, v1)), (2, (0, v2)), (3, (0, v3))] [] ε μ) ∧ (t ≠ 0 → Q 1 ε μ)) : G cd_X12_threes Q X 288 [(0, (2, v0)), (1, (0, v1)), (2, (0, v2)), (3, (0, v3))] [(0, t)] ε μ := by
  refine G_run (m_in [2, 14, 26, 41, 52, 66, 79, 92, 97, 103, 120, 130, 140, 154, 166, 181, 193, 240, 261, 282, 288, 293]) 55 _ _ _ _ ?_
  show m_ty [(0, (2, v0)), (1, (0, v1)), (2, (0, v2)), (3, (0, v3))] [(0, t)] ε μ → (t = 0 → G cd_X12_threes Q X 293 [(0, (2, v0)), (1, (0, v1)), (2, (0, v2)), (3, (0, v3))] [] ε μ) ∧ (t ≠ 0 → (m_ty [] [] ε μ → (1 = 0 ∨ 1 = 1) ∧ Q 1 ε μ))
  intro hty
  replace h := h hty.1 (hty.2.1 _ (List.mem_of_getElem? (i := 1) rfl)) (hty.2.1 _ (List.mem_of_getElem? (i := 2) rfl)) (hty.2.1 _ (List.mem_of_getElem? (i := 3) rfl)) (hty.2.2 _ (List.mem_of_getElem? (i := 0) rfl))
  obtain ⟨ha, hb⟩ := h
  refine And.intro (fun c0 => ?_) (fun c0 => ?_)
  · replace h := ha c0
    clear ha hb
    exact h
  · replace h := hb c0
    clear ha hb
    intro _
    refine And.intro (Or.inr rfl) ?_
    exact h
set_option maxRecDepth 20000 in
theorem g_X12_threes_282 {Q X : m_Po} {v0 v1 v2 v3 t t_1 t_2 : Int} {ε : m_E} {μ : m_M} (h : TY ε μ → i32 v1 → i32 v2 → i32 v3 → i32 t_1 → i64 t_2 → kd ε t = 101 ∧ (0 : Int) ≤ t_1 ∧ t_1 < ln ε t ∧ ∀ μ_1 : m_M, μ_1 = st μ t t_1 t_2 → kd ε v0 = 11 ∧ o_X12_isNever [(2, v0), (0, 3)] ε μ_1 (fun z ε_1 μ_2 => G cd_X12_threes Q X 288 [(0, (2, v0)), (1, (0, v1)), (2, (0, v2)), (3, (0, v3))] [(0, z)] ε_1 μ_2) m_F) : G cd_X12_threes Q X 282 [(0, (2, v0)), (1, (0, v1)), (2, (0, v2)), (3, (0, v3))] [(1, t_2), (0, t_1), (2, t)] ε μ := by
  refine G_run (m_in [2, 14, 26, 41, 52, 66, 79, 92, 97, 103, 120, 130, 140, 154, 166, 181, 193, 240, 261, 282, 288, 293]) 55 _ _ _ _ ?_
  show m_ty [(0, (2, v0)), (1, (0, v1)), (2, (0, v2)), (3, (0, v3))] [(1, t_2), (0, t_1), (2, t)] ε μ → (kd ε t = 101) ∧ ((0 : Int) ≤ t_1 ∧ t_1 < ln ε t) ∧ ∀ μ_1 : m_M, μ_1 = st μ t t_1 t_2 → (kd ε v0 = 11) ∧ o_X12_isNever [(2, v0), (0, 3)] ε μ_1 (fun z ε_1 μ_2 => G cd_X12_threes Q X 288 [(0, (2, v0)), (1, (0, v1)), (2, (0, v2)), (3, (0, v3))] [(0, z)] ε_1 μ_2) m_F
  intro hty
  replace h := h hty.1 (hty.2.1 _ (List.mem_of_getElem? (i := 1) rfl)) (hty.2.1 _ (List.mem_of_getElem? (i := 2) rfl)) (hty.2.1 _ (List.mem_of_getElem? (i := 3) rfl)) (hty.2.2 _ (List.mem_of_getElem? (i := 1) rfl)) (hty.2.2 _ (List.mem_of_getElem? (i := 0) rfl))
  obtain ⟨k1, h⟩ := h
  refine And.intro k1 ?_
  obtain ⟨k2, h⟩ := h
  obtain ⟨k3, h⟩ := h
  refine And.intro (And.intro k2 k3) ?_
  intro μ_1 e_μ_1
  replace h := h μ_1 e_μ_1
  obtain ⟨k4, h⟩ := h
  refine And.intro k4 ?_
  exact h
set_option maxRecDepth 20000 in
theorem g_X12_threes_261 {Q X : m_Po} {v0 v1 v2 v3 v9 t t_1 t_2 : Int} {ε : m_E} {μ : m_M} (h : TY ε μ → i32 v1 → i32 v2 → i32 v3 → i64 v9 → i32 t_1 → i64 t_2 → kd ε t = 101 ∧ (0 : Int) ≤ t_1 ∧ t_1 < ln ε t ∧ ∀ μ_1 : m_M, μ_1 = st μ t t_1 t_2 → kd ε v0 = 11 ∧ ∀ t_3 : Int, t_3 = (if (0 : Int) ≤ v9 then v9 else w64 (-v9)) → kd ε (fn ε v0 60) = 101 ∧ (0 : Int) ≤ 2 ∧ 2 < ln ε (fn ε v0 60) ∧ ∀ μ_2 : m_M, μ_2 = st μ_1 (fn ε v0 60) 2 t_3 → kd ε v0 = 11 ∧ o_X12_isNever [(2, v0), (0, 3)] ε μ_2 (fun z ε_1 μ_3 => G cd_X12_threes Q X 288 [(0, (2, v0)), (1, (0, v1)), (2, (0, v2)), (3, (0, v3))] [(0, z)] ε_1 μ_3) m_F) : G cd_X12_threes Q X 261 [(0, (2, v0)), (1, (0, v1)), (2, (0, v2)), (3, (0, v3)), (9, (1, v9))] [(1, t_2), (0, t_1), (2, t)] ε μ := by
  refine G_run (m_in [2, 14, 26, 41, 52, 66, 79, 92, 97, 103, 120, 130, 140, 154, 166, 181, 193, 240, 261, 282, 288, 293]) 55 _ _ _ _ ?_
  show m_ty [(0, (2, v0)), (1, (0, v1)), (2, (0, v2)), (3, (0, v3)), (9, (1, v9))] [(1, t_2), (0, t_1), (2, t)] ε μ → (kd ε t = 101) ∧ ((0 : Int) ≤ t_1 ∧ t_1 < ln ε t) ∧ ∀ μ_1 : m_M, μ_1 = st μ t t_1 t_2 → (kd ε v0 = 11) ∧ ((0 : Int) ≤ v9 → (m_ty [(0, (2, v0)), (1, (0, v1)), (2, (0, v2)), (3, (0, v3)), (9, (1, v9))] [(0, 2), (2, fn ε v0 60)] ε μ_1 → G cd_X12_threes Q X 282 [(0, (2, v0)), (1, (0, v1)), (2, (0, v2)), (3, (0, v3))] [(1, v9), (0, 2), (2, fn ε v0 60)] ε μ_1)) ∧ (v9 < (0 : Int) → (m_ty [(0, (2, v0)), (1, (0, v1)), (2, (0, v2)), (3, (0, v3)), (9, (1, v9))] [(0, 2), (2, fn ε v0 60)] ε μ_1 → G cd_X12_threes Q X 282 [(0, (2, v0)), (1, (0, v1)), (2, (0, v2)), (3, (0, v3))] [(1, w64 (-v9)), (0, 2), (2, fn ε v0 60)] ε μ_1))
  intro hty
  replace h := h hty.1 (hty.2.1 _ (List.mem_of_getElem? (i := 1) rfl)) (hty.2.1 _ (List.mem_of_getElem? (i := 2) rfl)) (hty.2.1 _ (List.mem_of_getElem? (i := 3) rfl)) (hty.2.1 _ (List.mem_of_getElem? (i := 4) rfl)) (hty.2.2 _ (List.mem_of_getElem? (i := 1) rfl)) (hty.2.2 _ (List.mem_of_getElem? (i := 0) rfl))
  obtain ⟨k1, h⟩ := h
  refine And.intro k1 ?_
  obtain ⟨k2, h⟩ := h
  obtain ⟨k3, h⟩ := h
  refine And.intro (And.intro k2 k3) ?_
  intro μ_1 e_μ_1
  replace h := h μ_1 e_μ_1
  obtain ⟨k4, h⟩ := h
  refine And.intro k4 ?_
  have hj := h
  refine And.intro (fun c4 => ?_) (fun c4 => ?_)
  · intro _
    exact g_X12_threes_282 (fun _ _ _ _ _ _ => (hj _ (((if_pos c4).trans rfl)).symm))
  · intro _
    exact g_X12_threes_282 (fun _ _ _ _ _ _ => (hj _ (((if_neg (Int.not_le.mpr c4)).trans rfl)).symm))
set_option maxRecDepth 20000 in
theorem g_X12_threes_240 {Q X : m_Po} {v0 v1 v2 v3 v7 v9 t t_1 t_2 : Int} {ε : m_E} {μ : m_M} (h : TY ε μ → i32 v1 → i32 v2 → i32 v3 → i64 v7 → i64 v9 → i32 t_1 → i64 t_2 → kd ε t = 101 ∧ (0 : Int) ≤ t_1 ∧ t_1 < ln ε t ∧ ∀ μ_1 : m_M, μ_1 = st μ t t_1 t_2 → kd ε v0 = 11 ∧ ∀ t_3 : Int, t_3 = (if (0 : Int) ≤ v7 then v7 else w64 (-v7)) → kd ε (fn ε v0 60) = 101 ∧ (0 : Int) ≤ 1 ∧ 1 < ln ε (fn ε v0 60) ∧ ∀ μ_2 : m_M, μ_2 = st μ_1 (fn ε v0 60) 1 t_3 → kd ε v0 = 11 ∧ ∀ t_4 : Int, t_4 = (if (0 : Int) ≤ v9 then v9 else w64 (-v9)) → kd ε (fn ε v0 60) = 101 ∧ (0 : Int) ≤ 2 ∧ 2 < ln ε (fn ε v0 60) ∧ ∀ μ_3 : m_M, μ_3 = st μ_2 (fn ε v0 60) 2 t_4 → kd ε v0 = 11 ∧ o_X12_isNever [(2, v0), (0, 3)] ε μ_3 (fun z ε_1 μ_4 => G cd_X12_threes Q X 288 [(0, (2, v0)), (1, (0, v1)), (2, (0, v2)), (3, (0, v3))] [(0, z)] ε_1 μ_4) m_F) : G cd_X12_threes Q X 240 [(0, (2, v0)), (1, (0, v1)), (2, (0, v2)), (3, (0, v3)), (7, (1, v7)), (9, (1, v9))] [(1, t_2), (0, t_1), (2, t)] ε μ := by
  refine G_run (m_in [2, 14, 26, 41, 52, 66, 79, 92, 97, 103, 120, 130, 140, 154, 166, 181, 193, 240, 261, 282, 288, 293]) 55 _ _ _ _ ?_
  show m_ty [(0, (2, v0)), (1, (0, v1)), (2, (0, v2)), (3, (0, v3)), (7, (1, v7)), (9, (1, v9))] [(1, t_2), (0, t_1), (2, t)] ε μ → (kd ε t = 101) ∧ ((0 : Int) ≤ t_1 ∧ t_1 < ln ε t) ∧ ∀ μ_1 : m_M, μ_1 = st μ t t_1 t_2 → (kd ε v0 = 11) ∧ ((0 : Int) ≤ v7 → (m_ty [(0, (2, v0)), (1, (0, v1)), (2, (0, v2)), (3, (0, v3)), (7, (1, v7)), (9, (1, v9))] [(0, 1), (2, fn ε v0 60)] ε μ_1 → G cd_X12_threes Q X 261 [(0, (2, v0)), (1, (0, v1)), (2, (0, v2)), (3, (0, v3)), (9, (1, v9))] [(1, v7), (0, 1), (2, fn ε v0 60)] ε μ_1)) ∧ (v7 < (0 : Int) → (m_ty [(0, (2, v0)), (1, (0, v1)), (2, (0, v2)), (3, (0, v3)), (7, (1, v7)), (9, (1, v9))] [(0, 1), (2, fn ε v0 60)] ε μ_1 → G cd_X12_threes Q X 261 [(0, (2, v0)), (1, (0, v1)), (2, (0, v2)), (3, (0, v3)), (9, (1, v9))] [(1, w64 (-v7)), (0, 1), (2, fn ε v0 60)] ε μ_1))
  intro hty
  replace h := h hty.1 (hty.2.1 _ (List.mem_of_getElem? (i := 1) rfl)) (hty.2.1 _ (List.mem_of_getElem? (i := 2) rfl)) (hty.2.1 _ (List.mem_of_getElem? (i := 3) rfl)) (hty.2.1 _ (List.mem_of_getElem? (i := 4) rfl)) (hty.2.1 _ (List.mem_of_getElem? (i := 5) rfl)) (hty.2.2 _ (List.mem_of_getElem? (i := 1) rfl)) (hty.2.2 _ (List.mem_of_getElem? (i := 0) rfl))
  obtain ⟨k1, h⟩ := h
  refine And.intro k1 ?_
  obtain ⟨k2, h⟩ := h
  obtain ⟨k3, h⟩ := h
  refine And.intro (And.intro k2 k3) ?_
  intro μ_1 e_μ_1
  replace h := h μ_1 e_μ_1
  obtain ⟨k4, h⟩ := h
  refine And.intro k4 ?_
  have hj := h
  refine And.intro (fun c4 => ?_) (fun c4 => ?_)
  · intro _
    exact g_X12_threes_261 (fun _ _ _ _ _ _ _ => (hj _ (((if_pos c4).trans rfl)).symm))
  · intro _
    exact g_X12_threes_261 (fun _ _ _ _ _ _ _ => (hj _ (((if_neg (Int.not_le.mpr c4)).trans rfl)).symm))
set_option maxRecDepth 20000 in
theorem g_X12_threes_193 {Q X : m_Po} {v0 v1 v2 v3 v5 v7 v9 t t_1 : Int} {ε : m_E} {μ : m_M} (h : TY ε μ → i32 v1 → i32 v2 → i32 v3 → i64 v5 → i64 v7 → i64 v9 → i32 t → i32 t_1 → (t = t_1 → kd ε v0 = 11 ∧ kd ε (fn ε v0 61) = 100 ∧ 0 < ln ε (fn ε v0 61) ∧ ∀ μ_1 : m_M, μ_1 = st μ (fn ε v0 61) 0 v1 → 1 < ln ε (fn ε v0 61) ∧ ∀ μ_2 : m_M, μ_2 = st μ_1 (fn ε v0 61) 1 v2 → 2 < ln ε (fn ε v0 61) ∧ ∀ μ_3 : m_M, μ_3 = st μ_2 (fn ε v0 61) 2 v3 → ∀ t_2 : Int, t_2 = (if (0 : Int) ≤ v5 then v5 else w64 (-v5)) → kd ε (fn ε v0 60) = 101 ∧ (0 : Int) ≤ 0 ∧ 0 < ln ε (fn ε v0 60) ∧ ∀ μ_4 : m_M, μ_4 = st μ_3 (fn ε v0 60) 0 t_2 → kd ε v0 = 11 ∧ ∀ t_3 : Int, t_3 = (if (0 : Int) ≤ v7 then v7 else w64 (-v7)) → kd ε (fn ε v0 60) = 101 ∧ (0 : Int) ≤ 1 ∧ 1 < ln ε (fn ε v0 60) ∧ ∀ μ_5 : m_M, μ_5 = st μ_4 (fn ε v0 60) 1 t_3 → kd ε v0 = 11 ∧ ∀ t_4 : Int, t_4 = (if (0 : Int) ≤ v9 then v9 else w64 (-v9)) → kd ε (fn ε v0 60) = 101 ∧ (0 : Int) ≤ 2 ∧ 2 < ln ε (fn ε v0 60) ∧ ∀ μ_6 : m_M, μ_6 = st μ_5 (fn ε v0 60) 2 t_4 → kd ε v0 = 11 ∧ o_X12_isNever [(2, v0), (0, 3)] ε μ_6 (fun z ε_1 μ_7 => G cd_X12_threes Q X 288 [(0, (2, v0)), (1, (0, v1)), (2, (0, v2)), (3, (0, v3))] [(0, z)] ε_1 μ_7) m_F) ∧ (t ≠ t_1 → G cd_X12_threes Q X 293 [(0, (2, v0)), (1, (0, v1)), (2, (0, v2)), (3, (0, v3))] [] ε μ)) : G cd_X12_threes Q X 193 [(0, (2, v0)), (1, (0, v1)), (2, (0, v2)), (3, (0, v3)), (5, (1, v5)), (7, (1, v7)), (9, (1, v9))] [(0, t_1), (0, t)] ε μ := by
  refine G_run (m_in [2, 14, 26, 41, 52, 66, 79, 92, 97, 103, 120, 130, 140, 154, 166, 181, 193, 240, 261, 282, 288, 293]) 55 _ _ _ _ ?_
  show m_ty [(0, (2, v0)), (1, (0, v1)), (2, (0, v2)), (3, (0, v3)), (5, (1, v5)), (7, (1, v7)), (9, (1, v9))] [(0, t_1), (0, t)] ε μ → (t = t_1 → (m_ty [(0, (2, v0)), (1, (0, v1)), (2, (0, v2)), (3, (0, v3)), (5, (1, v5)), (7, (1, v7)), (9, (1, v9))] [] ε μ → (kd ε v0 = 11) ∧ (kd ε (fn ε v0 61) = 100) ∧ ((0 : Int) ≤ 0 ∧ 0 < ln ε (fn ε v0 61)) ∧ ∀ μ_1 : m_M, μ_1 = st μ (fn ε v0 61) 0 v1 → (kd ε v0 = 11) ∧ (kd ε (fn ε v0 61) = 100) ∧ ((0 : Int) ≤ 1 ∧ 1 < ln ε (fn ε v0 61)) ∧ ∀ μ_2 : m_M, μ_2 = st μ_1 (fn ε v0 61) 1 v2 → (kd ε v0 = 11) ∧ (kd ε (fn ε v0 61) = 100) ∧ ((0 : Int) ≤ 2 ∧ 2 < ln ε (fn ε v0 61)) ∧ ∀ μ_3 : m_M, μ_3 = st μ_2 (fn ε v0 61) 2 v3 → (kd ε v0 = 11) ∧ ((0 : Int) ≤ v5 → (m_ty [(0, (2, v0)), (1, (0, v1)), (2, (0, v2)), (3, (0, v3)), (5, (1, v5)), (7, (1, v7)), (9, (1, v9))] [(0, 0), (2, fn ε v0 60)] ε μ_3 → G cd_X12_threes Q X 240 [(0, (2, v0)), (1, (0, v1)), (2, (0, v2)), (3, (0, v3)), (7, (1, v7)), (9, (1, v9))] [(1, v5), (0, 0), (2, fn ε v0 60)] ε μ_3)) ∧ (v5 < (0 : Int) → (m_ty [(0, (2, v0)), (1, (0, v1)), (2, (0, v2)), (3, (0, v3)), (5, (1, v5)), (7, (1, v7)), (9, (1, v9))] [(0, 0), (2, fn ε v0 60)] ε μ_3 → G cd_X12_threes Q X 240 [(0, (2, v0)), (1, (0, v1)), (2, (0, v2)), (3, (0, v3)), (7, (1, v7)), (9, (1, v9))] [(1, w64 (-v5)), (0, 0), (2, fn ε v0 60)] ε μ_3)))) ∧ (t ≠ t_1 → (m_ty [(0, (2, v0)), (1, (0, v1)), (2, (0, v2)), (3, (0, v3))] [] ε μ → G cd_X12_threes Q X 293 [(0, (2, v0)), (1, (0, v1)), (2, (0, v2)), (3, (0, v3))] [] ε μ))
  intro hty
  replace h := h hty.1 (hty.2.1 _ (List.mem_of_getElem? (i := 1) rfl)) (hty.2.1 _ (List.mem_of_getElem? (i := 2) rfl)) (hty.2.1 _ (List.mem_of_getElem? (i := 3) rfl)) (hty.2.1 _ (List.mem_of_getElem? (i := 4) rfl)) (hty.2.1 _ (List.mem_of_getElem? (i := 5) rfl)) (hty.2.1 _ (List.mem_of_getElem? (i := 6) rfl)) (hty.2.2 _ (List.mem_of_getElem? (i := 1) rfl)) (hty.2.2 _ (List.mem_of_getElem? (i := 0) rfl))
  obtain ⟨ha, hb⟩ := h
  refine And.intro (fun c20 => ?_) (fun c20 => ?_)
  · replace h := ha c20
    clear ha hb
    intro _
    obtain ⟨k1, h⟩ := h
    refine And.intro k1 ?_
    obtain ⟨k2, h⟩ := h
    refine And.intro k2 ?_
    obtain ⟨k3, h⟩ := h
    refine And.intro (And.intro (by decide) k3) ?_
    intro μ_1 e_μ_1
    replace h := h μ_1 e_μ_1
    refine And.intro k1 ?_
    refine And.intro k2 ?_
    obtain ⟨k4, h⟩ := h
    refine And.intro (And.intro (by decide) k4) ?_
    intro μ_2 e_μ_2
    replace h := h μ_2 e_μ_2
    refine And.intro k1 ?_
    refine And.intro k2 ?_
    obtain ⟨k5, h⟩ := h
    refine And.intro (And.intro (by decide) k5) ?_
    intro μ_3 e_μ_3
    replace h := h μ_3 e_μ_3
    refine And.intro k1 ?_
    have hj := h
    refine And.intro (fun c5 => ?_) (fun c5 => ?_)
    · intro _
      exact g_X12_threes_240 (fun _ _ _ _ _ _ _ _ => (hj _ (((if_pos c5).trans rfl)).symm))
    · intro _
      exact g_X12_threes_240 (fun _ _ _ _ _ _ _ _ => (hj _ (((if_neg (Int.not_le.mpr c5)).trans rfl)).symm))
  · replace h := hb c20
    clear ha hb
    intro _
    exact h
set_option maxRecDepth 20000 in
theorem g_X12_threes_181 {Q X : m_Po} {v0 v1 v2 v3 v5 v7 v9 t : Int} {ε : m_E} {μ : m_M} (h : TY ε μ → i32 v1 → i32 v2 → i32 v3 → i64 v5 → i64 v7 → i64 v9 → i32 t → ∀ t_1 : Int, t_1 = (if v9 ≤ (0 : Int) then 0 else 1) → (t = t_1 → kd ε v0 = 11 ∧ kd ε (fn ε v0 61) = 100 ∧ 0 < ln ε (fn ε v0 61) ∧ ∀ μ_1 : m_M, μ_1 = st μ (fn ε v0 61) 0 v1 → 1 < ln ε (fn ε v0 61) ∧ ∀ μ_2 : m_M, μ_2 = st μ_1 (fn ε v0 61) 1 v2 → 2 < ln ε (fn ε v0 61) ∧ ∀ μ_3 : m_M, μ_3 = st μ_2 (fn ε v0 61) 2 v3 → ∀ t_2 : Int, t_2 = (if (0 : Int) ≤ v5 then v5 else w64 (-v5)) → kd ε (fn ε v0 60) = 101 ∧ (0 : Int) ≤ 0 ∧ 0 < ln ε (fn ε v0 60) ∧ ∀ μ_4 : m_M, μ_4 = st μ_3 (fn ε v0 60) 0 t_2 → kd ε v0 = 11 ∧ ∀ t_3 : Int, t_3 = (if (0 : Int) ≤ v7 then v7 else w64 (-v7)) → kd ε (fn ε v0 60) = 101 ∧ (0 : Int) ≤ 1 ∧ 1 < ln ε (fn ε v0 60) ∧ ∀ μ_5 : m_M, μ_5 = st μ_4 (fn ε v0 60) 1 t_3 → kd ε v0 = 11 ∧ ∀ t_4 : Int, t_4 = (if (0 : Int) ≤ v9 then v9 else w64 (-v9)) → kd ε (fn ε v0 60) = 101 ∧ (0 : Int) ≤ 2 ∧ 2 < ln ε (fn ε v0 60) ∧ ∀ μ_6 : m_M, μ_6 = st μ_5 (fn ε v0 60) 2 t_4 → kd ε v0 = 11 ∧ o_X12_isNever [(2, v0), (0, 3)] ε μ_6 (fun z ε_1 μ_7 => G cd_X12_threes Q X 288 [(0, (2, v0)), (1, (0, v1)), (2, (0, v2)), (3, (0, v3))] [(0, z)] ε_1 μ_7) m_F) ∧ (t ≠ t_1 → G cd_X12_threes Q X 293 [(0, (2, v0)), (1, (0, v1)), (2, (0, v2)), (3, (0, v3))] [] ε μ)) : G cd_X12_threes Q X 181 [(0, (2, v0)), (1, (0, v1)), (2, (0, v2)), (3, (0, v3)), (5, (1, v5)), (7, (1, v7)), (9, (1, v9))] [(0, t)] ε μ := by
  refine G_run (m_in [2, 14, 26, 41, 52, 66, 79, 92, 97, 103, 120, 130, 140, 154, 166, 181, 193, 240, 261, 282, 288, 293]) 55 _ _ _ _ ?_
  show m_ty [(0, (2, v0)), (1, (0, v1)), (2, (0, v2)), (3, (0, v3)), (5, (1, v5)), (7, (1, v7)), (9, (1, v9))] [(0, t)] ε μ → (v9 ≤ (0 : Int) → (m_ty [(0, (2, v0)), (1, (0, v1)), (2, (0, v2)), (3, (0, v3)), (5, (1, v5)), (7, (1, v7)), (9, (1, v9))] [(0, t)] ε μ → G cd_X12_threes Q X 193 [(0, (2, v0)), (1, (0, v1)), (2, (0, v2)), (3, (0, v3)), (5, (1, v5)), (7, (1, v7)), (9, (1, v9))] [(0, 0), (0, t)] ε μ)) ∧ ((0 : Int) < v9 → (m_ty [(0, (2, v0)), (1, (0, v1)), (2, (0, v2)), (3, (0, v3)), (5, (1, v5)), (7, (1, v7)), (9, (1, v9))] [(0, t)] ε μ → G cd_X12_threes Q X 193 [(0, (2, v0)), (1, (0, v1)), (2, (0, v2)), (3, (0, v3)), (5, (1, v5)), (7, (1, v7)), (9, (1, v9))] [(0, 1), (0, t)] ε μ))
  intro hty
  replace h := h hty.1 (hty.2.1 _ (List.mem_of_getElem? (i := 1) rfl)) (hty.2.1 _ (List.mem_of_getElem? (i := 2) rfl)) (hty.2.1 _ (List.mem_of_getElem? (i := 3) rfl)) (hty.2.1 _ (List.mem_of_getElem? (i := 4) rfl)) (hty.2.1 _ (List.mem_of_getElem? (i := 5) rfl)) (hty.2.1 _ (List.mem_of_getElem? (i := 6) rfl)) (hty.2.2 _ (List.mem_of_getElem? (i := 0) rfl))
  have hj := h
  refine And.intro (fun c0 => ?_) (fun c0 => ?_)
  · intro _
    exact g_X12_threes_193 (fun _ _ _ _ _ _ _ _ _ => (hj _ (((if_pos c0).trans rfl)).symm))
  · intro _
    exact g_X12_threes_193 (fun _ _ _ _ _ _ _ _ _ => (hj _ (((if_neg (Int.not_le.mpr c0)).trans rfl)).symm))
set_option maxRecDepth 20000 in
theorem g_X12_threes_166 {Q X : m_Po} {v0 v1 v2 v3 v5 v7 v9 t t_1 : Int} {ε : m_E} {μ : m_M} (h : TY ε μ → i32 v1 → i32 v2 → i32 v3 → i64 v5 → i64 v7 → i64 v9 → i32 t → i32 t_1 → (t ≠ t_1 → G cd_X12_threes Q X 293 [(0, (2, v0)), (1, (0, v1)), (2, (0, v2)), (3, (0, v3))] [] ε μ) ∧ (t = t_1 → ∀ t_2 : Int, t_2 = (if v5 ≤ (0 : Int) then 0 else 1) → ∀ t_3 : Int, t_3 = (if v9 ≤ (0 : Int) then 0 else 1) → (t_2 = t_3 → kd ε v0 = 11 ∧ kd ε (fn ε v0 61) = 100 ∧ 0 < ln ε (fn ε v0 61) ∧ ∀ μ_1 : m_M, μ_1 = st μ (fn ε v0 61) 0 v1 → 1 < ln ε (fn ε v0 61) ∧ ∀ μ_2 : m_M, μ_2 = st μ_1 (fn ε v0 61) 1 v2 → 2 < ln ε (fn ε v0 61) ∧ ∀ μ_3 : m_M, μ_3 = st μ_2 (fn ε v0 61) 2 v3 → ∀ t_4 : Int, t_4 = (if (0 : Int) ≤ v5 then v5 else w64 (-v5)) → kd ε (fn ε v0 60) = 101 ∧ (0 : Int) ≤ 0 ∧ 0 < ln ε (fn ε v0 60) ∧ ∀ μ_4 : m_M, μ_4 = st μ_3 (fn ε v0 60) 0 t_4 → kd ε v0 = 11 ∧ ∀ t_5 : Int, t_5 = (if (0 : Int) ≤ v7 then v7 else w64 (-v7)) → kd ε (fn ε v0 60) = 101 ∧ (0 : Int) ≤ 1 ∧ 1 < ln ε (fn ε v0 60) ∧ ∀ μ_5 : m_M, μ_5 = st μ_4 (fn ε v0 60) 1 t_5 → kd ε v0 = 11 ∧ ∀ t_6 : Int, t_6 = (if (0 : Int) ≤ v9 then v9 else w64 (-v9)) → kd ε (fn ε v0 60) = 101 ∧ (0 : Int) ≤ 2 ∧ 2 < ln ε (fn ε v0 60) ∧ ∀ μ_6 : m_M, μ_6 = st μ_5 (fn ε v0 60) 2 t_6 → kd ε v0 = 11 ∧ o_X12_isNever [(2, v0), (0, 3)] ε μ_6 (fun z ε_1 μ_7 => G cd_X12_threes Q X 288 [(0, (2, v0)), (1, (0, v1)), (2, (0, v2)), (3, (0, v3))] [(0, z)] ε_1 μ_7) m_F) ∧ (t_2 ≠ t_3 → G cd_X12_threes Q X 293 [(0, (2, v0)), (1, (0, v1)), (2, (0, v2)), (3, (0, v3))] [] ε μ))) : G cd_X12_threes Q X 166 [(0, (2, v0)), (1, (0, v1)), (2, (0, v2)), (3, (0, v3)), (5, (1, v5)), (7, (1, v7)), (9, (1, v9))] [(0, t_1), (0, t)] ε μ := by
  refine G_run (m_in [2, 14, 26, 41, 52, 66, 79, 92, 97, 103, 120, 130, 140, 154, 166, 181, 193, 240, 261, 282, 288, 293]) 55 _ _ _ _ ?_
  show m_ty [(0, (2, v0)), (1, (0, v1)), (2, (0, v2)), (3, (0, v3)), (5, (1, v5)), (7, (1, v7)), (9, (1, v9))] [(0, t_1), (0, t)] ε μ → (t ≠ t_1 → G cd_X12_threes Q X 293 [(0, (2, v0)), (1, (0, v1)), (2, (0, v2)), (3, (0, v3))] [] ε μ) ∧ (t = t_1 → (m_ty [(0, (2, v0)), (1, (0, v1)), (2, (0, v2)), (3, (0, v3)), (5, (1, v5)), (7, (1, v7)), (9, (1, v9))] [] ε μ → (v5 ≤ (0 : Int) → (m_ty [(0, (2, v0)), (1, (0, v1)), (2, (0, v2)), (3, (0, v3)), (5, (1, v5)), (7, (1, v7)), (9, (1, v9))] [] ε μ → G cd_X12_threes Q X 181 [(0, (2, v0)), (1, (0, v1)), (2, (0, v2)), (3, (0, v3)), (5, (1, v5)), (7, (1, v7)), (9, (1, v9))] [(0, 0)] ε μ)) ∧ ((0 : Int) < v5 → (m_ty [(0, (2, v0)), (1, (0, v1)), (2, (0, v2)), (3, (0, v3)), (5, (1, v5)), (7, (1, v7)), (9, (1, v9))] [] ε μ → G cd_X12_threes Q X 181 [(0, (2, v0)), (1, (0, v1)), (2, (0, v2)), (3, (0, v3)), (5, (1, v5)), (7, (1, v7)), (9, (1, v9))] [(0, 1)] ε μ))))
  intro hty
  replace h := h hty.1 (hty.2.1 _ (List.mem_of_getElem? (i := 1) rfl)) (hty.2.1 _ (List.mem_of_getElem? (i := 2) rfl)) (hty.2.1 _ (List.mem_of_getElem? (i := 3) rfl)) (hty.2.1 _ (List.mem_of_getElem? (i := 4) rfl)) (hty.2.1 _ (List.mem_of_getElem? (i := 5) rfl)) (hty.2.1 _ (List.mem_of_getElem? (i := 6) rfl)) (hty.2.2 _ (List.mem_of_getElem? (i := 1) rfl)) (hty.2.2 _ (List.mem_of_getElem? (i := 0) rfl))
  obtain ⟨ha, hb⟩ := h
  refine And.intro (fun c23 => ?_) (fun c23 => ?_)
  · replace h := ha c23
    clear ha hb
    exact h
  · replace h := hb c23
    clear ha hb
    intro _
    have hj := h
    refine And.intro (fun c0 => ?_) (fun c0 => ?_)
    · intro _
      exact g_X12_threes_181 (fun _ _ _ _ _ _ _ _ => (hj _ (((if_pos c0).trans rfl)).symm))
    · intro _
      exact g_X12_threes_181 (fun _ _ _ _ _ _ _ _ => (hj _ (((if_neg (Int.not_le.mpr c0)).trans rfl)).symm))
set_option maxRecDepth 20000 in
theorem g_X12_threes_154 {Q X : m_Po} {v0 v1 v2 v3 v5 v7 v9 t : Int} {ε : m_E} {μ : m_M} (h : TY ε μ → i32 v1 → i32 v2 → i32 v3 → i64 v5 → i64 v7 → i64 v9 → i32 t → ∀ t_1 : Int, t_1 = (if v7 ≤ (0 : Int) then 0 else 1) → (t ≠ t_1 → G cd_X12_threes Q X 293 [(0, (2, v0)), (1, (0, v1)), (2, (0, v2)), (3, (0, v3))] [] ε μ) ∧ (t = t_1 → ∀ t_2 : Int, t_2 = (if v5 ≤ (0 : Int) then 0 else 1) → ∀ t_3 : Int, t_3 = (if v9 ≤ (0 : Int) then 0 else 1) → (t_2 = t_3 → kd ε v0 = 11 ∧ kd ε (fn ε v0 61) = 100 ∧ 0 < ln ε (fn ε v0 61) ∧ ∀ μ_1 : m_M, μ_1 = st μ (fn ε v0 61) 0 v1 → 1 < ln ε (fn ε v0 61) ∧ ∀ μ_2 : m_M, μ_2 = st μ_1 (fn ε v0 61) 1 v2 → 2 < ln ε (fn ε v0 61) ∧ ∀ μ_3 : m_M, μ_3 = st μ_2 (fn ε v0 61) 2 v3 → ∀ t_4 : Int, t_4 = (if (0 : Int) ≤ v5 then v5 else w64 (-v5)) → kd ε (fn ε v0 60) = 101 ∧ (0 : Int) ≤ 0 ∧ 0 < ln ε (fn ε v0 60) ∧ ∀ μ_4 : m_M, μ_4 = st μ_3 (fn ε v0 60) 0 t_4 → kd ε v0 = 11 ∧ ∀ t_5 : Int, t_5 = (if (0 : Int) ≤ v7 then v7 else w64 (-v7)) → kd ε (fn ε v0 60) = 101 ∧ (0 : Int) ≤ 1 ∧ 1 < ln ε (fn ε v0 60) ∧ ∀ μ_5 : m_M, μ_5 = st μ_4 (fn ε v0 60) 1 t_5 → kd ε v0 = 11 ∧ ∀ t_6 : Int, t_6 = (if (0 : Int) ≤ v9 then v9 else w64 (-v9)) → kd ε (fn ε v0 60) = 101 ∧ (0 : Int) ≤ 2 ∧ 2 < ln ε (fn ε v0 60) ∧ ∀ μ_6 : m_M, μ_6 = st μ_5 (fn ε v0 60) 2 t_6 → kd ε v0 = 11 ∧ o_X12_isNever [(2, v0), (0, 3)] ε μ_6 (fun z ε_1 μ_7 => G cd_X12_threes Q X 288 [(0, (2, v0)), (1, (0, v1)), (2, (0, v2)), (3, (0, v3))] [(0, z)] ε_1 μ_7) m_F) ∧ (t_2 ≠ t_3 → G cd_X12_threes Q X 293 [(0, (2, v0)), (1, (0, v1)), (2, (0, v2)), (3, (0, v3))] [] ε μ))) : G cd_X12_threes Q X 154 [(0, (2, v0)), (1, (0, v1)), (2, (0, v2)), (3, (0, v3)), (5, (1, v5)), (7, (1, v7)), (9, (1, v9))] [(0, t)] ε μ := by
  refine G_run (m_in [2, 14, 26, 41, 52, 66, 79, 92, 97, 103, 120, 130, 140, 154, 166, 181, 193, 240, 261, 282, 288, 293]) 55 _ _ _ _ ?_
  show m_ty [(0, (2, v0)), (1, (0, v1)), (2, (0, v2)), (3, (0, v3)), (5, (1, v5)), (7, (1, v7)), (9, (1, v9))] [(0, t)] ε μ → (v7 ≤ (0 : Int) → (m_ty [(0, (2, v0)), (1, (0, v1)), (2, (0, v2)), (3, (0, v3)), (5, (1, v5)), (7, (1, v7)), (9, (1, v9))] [(0, t)] ε μ → G cd_X12_threes Q X 166 [(0, (2, v0)), (1, (0, v1)), (2, (0, v2)), (3, (0, v3)), (5, (1, v5)), (7, (1, v7)), (9, (1, v9))] [(0, 0), (0, t)] ε μ)) ∧ ((0 : Int) < v7 → (m_ty [(0, (2, v0)), (1, (0, v1)), (2, (0, v2)), (3, (0, v3)), (5, (1, v5)), (7, (1, v7)), (9, (1, v9))] [(0, t)] ε μ → G cd_X12_threes Q X 166 [(0, (2, v0)), (1, (0, v1)), (2, (0, v2)), (3, (0, v3)), (5, (1, v5)), (7, (1, v7)), (9, (1, v9))] [(0, 1), (0, t)] ε μ))
  intro hty
  replace h := h hty.1 (hty.2.1 _ (List.mem_of_getElem? (i := 1) rfl)) (hty.2.1 _ (List.mem_of_getElem? (i := 2) rfl)) (hty.2.1 _ (List.mem_of_getElem? (i := 3) rfl)) (hty.2.1 _ (List.mem_of_getElem? (i := 4) rfl)) (hty.2.1 _ (List.mem_of_getElem? (i := 5) rfl)) (hty.2.1 _ (List.mem_of_getElem? (i := 6) rfl)) (hty.2.2 _ (List.mem_of_getElem? (i := 0) rfl))
  have hj := h
  refine And.intro (fun c0 => ?_) (fun c0 => ?_)
  · intro _
    exact g_X12_threes_166 (fun _ _ _ _ _ _ _ _ _ => (hj _ (((if_pos c0).trans rfl)).symm))
  · intro _
    exact g_X12_threes_166 (fun _ _ _ _ _ _ _ _ _ => (hj _ (((if_neg (Int.not_le.mpr c0)).trans rfl)).symm))
set_option maxRecDepth 20000 in
theorem g_X12_threes_140 {Q X : m_Po} {v0 v1 v2 v3 v5 v7 t : Int} {ε : m_E} {μ : m_M} (h : TY ε μ → i32 v1 → i32 v2 → i32 v3 → i64 v5 → i64 v7 → i64 t → ∀ v9 : Int, v9 = t → ∀ t_1 : Int, t_1 = (if v5 ≤ (0 : Int) then 0 else 1) → ∀ t_2 : Int, t_2 = (if v7 ≤ (0 : Int) then 0 else 1) → (t_1 ≠ t_2 → G cd_X12_threes Q X 293 [(0, (2, v0)), (1, (0, v1)), (2, (0, v2)), (3, (0, v3))] [] ε μ) ∧ (t_1 = t_2 → ∀ t_3 : Int, t_3 = (if v5 ≤ (0 : Int) then 0 else 1) → ∀ t_4 : Int, t_4 = (if v9 ≤ (0 : Int) then 0 else 1) → (t_3 = t_4 → kd ε v0 = 11 ∧ kd ε (fn ε v0 61) = 100 ∧ 0 < ln ε (fn ε v0 61) ∧ ∀ μ_1 : m_M, μ_1 = st μ (fn ε v0 61) 0 v1 → 1 < ln ε (fn ε v0 61) ∧ ∀ μ_2 : m_M, μ_2 = st μ_1 (fn ε v0 61) 1 v2 → 2 < ln ε (fn ε v0 61) ∧ ∀ μ_3 : m_M, μ_3 = st μ_2 (fn ε v0 61) 2 v3 → ∀ t_5 : Int, t_5 = (if (0 : Int) ≤ v5 then v5 else w64 (-v5)) → kd ε (fn ε v0 60) = 101 ∧ (0 : Int) ≤ 0 ∧ 0 < ln ε (fn ε v0 60) ∧ ∀ μ_4 : m_M, μ_4 = st μ_3 (fn ε v0 60) 0 t_5 → kd ε v0 = 11 ∧ ∀ t_6 : Int, t_6 = (if (0 : Int) ≤ v7 then v7 else w64 (-v7)) → kd ε (fn ε v0 60) = 101 ∧ (0 : Int) ≤ 1 ∧ 1 < ln ε (fn ε v0 60) ∧ ∀ μ_5 : m_M, μ_5 = st μ_4 (fn ε v0 60) 1 t_6 → kd ε v0 = 11 ∧ ∀ t_7 : Int, t_7 = (if (0 : Int) ≤ v9 then v9 else w64 (-v9)) → kd ε (fn ε v0 60) = 101 ∧ (0 : Int) ≤ 2 ∧ 2 < ln ε (fn ε v0 60) ∧ ∀ μ_6 : m_M, μ_6 = st μ_5 (fn ε v0 60) 2 t_7 → kd ε v0 = 11 ∧ o_X12_isNever [(2, v0), (0, 3)] ε μ_6 (fun z ε_1 μ_7 => G cd_X12_threes Q X 288 [(0, (2, v0)), (1, (0, v1)), (2, (0, v2)), (3, (0, v3))] [(0, z)] ε_1 μ_7) m_F) ∧ (t_3 ≠ t_4 → G cd_X12_threes Q X 293 [(0, (2, v0)), (1, (0, v1)), (2, (0, v2)), (3, (0, v3))] [] ε μ))) : G cd_X12_threes Q X 140 [(0, (2, v0)), (1, (0, v1)), (2, (0, v2)), (3, (0, v3)), (5, (1, v5)), (7, (1, v7))] [(1, t)] ε μ := by
  refine G_run (m_in [2, 14, 26, 41, 52, 66, 79, 92, 97, 103, 120, 130, 140, 154, 166, 181, 193, 240, 261, 282, 288, 293]) 55 _ _ _ _ ?_
  show m_ty [(0, (2, v0)), (1, (0, v1)), (2, (0, v2)), (3, (0, v3)), (5, (1, v5)), (7, (1, v7))] [(1, t)] ε μ → ∀ v9 : Int, v9 = t → (v5 ≤ (0 : Int) → (m_ty [(0, (2, v0)), (1, (0, v1)), (2, (0, v2)), (3, (0, v3)), (5, (1, v5)), (7, (1, v7)), (9, (1, v9))] [] ε μ → G cd_X12_threes Q X 154 [(0, (2, v0)), (1, (0, v1)), (2, (0, v2)), (3, (0, v3)), (5, (1, v5)), (7, (1, v7)), (9, (1, v9))] [(0, 0)] ε μ)) ∧ ((0 : Int) < v5 → (m_ty [(0, (2, v0)), (1, (0, v1)), (2, (0, v2)), (3, (0, v3)), (5, (1, v5)), (7, (1, v7)), (9, (1, v9))] [] ε μ → G cd_X12_threes Q X 154 [(0, (2, v0)), (1, (0, v1)), (2, (0, v2)), (3, (0, v3)), (5, (1, v5)), (7, (1, v7)), (9, (1, v9))] [(0, 1)] ε μ))
  intro hty
  replace h := h hty.1 (hty.2.1 _ (List.mem_of_getElem? (i := 1) rfl)) (hty.2.1 _ (List.mem_of_getElem? (i := 2) rfl)) (hty.2.1 _ (List.mem_of_getElem? (i := 3) rfl)) (hty.2.1 _ (List.mem_of_getElem? (i := 4) rfl)) (hty.2.1 _ (List.mem_of_getElem? (i := 5) rfl)) (hty.2.2 _ (List.mem_of_getElem? (i := 0) rfl))
  intro v9 e_v9
  replace h := h v9 e_v9
  have hj := h
  refine And.intro (fun c0 => ?_) (fun c0 => ?_)
  · intro _
    exact g_X12_threes_154 (fun _ _ _ _ _ _ _ _ => (hj _ (((if_pos c0).trans rfl)).symm))
  · intro _
    exact g_X12_threes_154 (fun _ _ _ _ _ _ _ _ => (hj _ (((if_neg (Int.not_le.mpr c0)).trans rfl)).symm))
set_option maxRecDepth 20000 in
theorem g_X12_threes_130 {Q X : m_Po} {v0 v1 v2 v3 v4 v5 t : Int} {ε : m_E} {μ : m_M} (h : TY ε μ → i32 v1 → i32 v2 → i32 v3 → i32 v4 → i64 v5 → i64 t → ∀ v7 : Int, v7 = t → kd ε v0 = 11 ∧ o_X12_across [(2, v0), (0, v1), (0, v2), (0, v4)] ε μ (fun z ε_1 μ_1 => G cd_X12_threes Q X 140 [(0, (2, v0)), (1, (0, v1)), (2, (0, v2)), (3, (0, v3)), (5, (1, v5)), (7, (1, v7))] [(1, z)] ε_1 μ_1) m_F) : G cd_X12_threes Q X 130 [(0, (2, v0)), (1, (0, v1)), (2, (0, v2)), (3, (0, v3)), (4, (0, v4)), (5, (1, v5))] [(1, t)] ε μ := by
  refine G_run (m_in [2, 14, 26, 41, 52, 66, 79, 92, 97, 103, 120, 130, 140, 154, 166, 181, 193, 240, 261, 282, 288, 293]) 55 _ _ _ _ ?_
  show m_ty [(0, (2, v0)), (1, (0, v1)), (2, (0, v2)), (3, (0, v3)), (4, (0, v4)), (5, (1, v5))] [(1, t)] ε μ → ∀ v7 : Int, v7 = t → (kd ε v0 = 11) ∧ o_X12_across [(2, v0), (0, v1), (0, v2), (0, v4)] ε μ (fun z ε_1 μ_1 => G cd_X12_threes Q X 140 [(0, (2, v0)), (1, (0, v1)), (2, (0, v2)), (3, (0, v3)), (5, (1, v5)), (7, (1, v7))] [(1, z)] ε_1 μ_1) m_F
  intro hty
  replace h := h hty.1 (hty.2.1 _ (List.mem_of_getElem? (i := 1) rfl)) (hty.2.1 _ (List.mem_of_getElem? (i := 2) rfl)) (hty.2.1 _ (List.mem_of_getElem? (i := 3) rfl)) (hty.2.1 _ (List.mem_of_getElem? (i := 4) rfl)) (hty.2.1 _ (List.mem_of_getElem? (i := 5) rfl)) (hty.2.2 _ (List.mem_of_getElem? (i := 0) rfl))
  intro v7 e_v7
  replace h := h v7 e_v7
  obtain ⟨k1, h⟩ := h
  refine And.intro k1 ?_
  exact h
set_option maxRecDepth 20000 in
theorem g_X12_threes_120 {Q X : m_Po} {v0 v1 v2 v3 v4 t : Int} {ε : m_E} {μ : m_M} (h : TY ε μ → i32 v1 → i32 v2 → i32 v3 → i32 v4 → i64 t → ∀ v5 : Int, v5 = t → kd ε v0 = 11 ∧ o_X12_across [(2, v0), (0, v3), (0, v1), (0, v4)] ε μ (fun z ε_1 μ_1 => G cd_X12_threes Q X 130 [(0, (2, v0)), (1, (0, v1)), (2, (0, v2)), (3, (0, v3)), (4, (0, v4)), (5, (1, v5))] [(1, z)] ε_1 μ_1) m_F) : G cd_X12_threes Q X 120 [(0, (2, v0)), (1, (0, v1)), (2, (0, v2)), (3, (0, v3)), (4, (0, v4))] [(1, t)] ε μ := by
  refine G_run (m_in [2, 14, 26, 41, 52, 66, 79, 92, 97, 103, 120, 130, 140, 154, 166, 181, 193, 240, 261, 282, 288, 293]) 55 _ _ _ _ ?_
  show m_ty [(0, (2, v0)), (1, (0, v1)), (2, (0, v2)), (3, (0, v3)), (4, (0, v4))] [(1, t)] ε μ → ∀ v5 : Int, v5 = t → (kd ε v0 = 11) ∧ o_X12_across [(2, v0), (0, v3), (0, v1), (0, v4)] ε μ (fun z ε_1 μ_1 => G cd_X12_threes Q X 130 [(0, (2, v0)), (1, (0, v1)), (2, (0, v2)), (3, (0, v3)), (4, (0, v4)), (5, (1, v5))] [(1, z)] ε_1 μ_1) m_F
  intro hty
  replace h := h hty.1 (hty.2.1 _ (List.mem_of_getElem? (i := 1) rfl)) (hty.2.1 _ (List.mem_of_getElem? (i := 2) rfl)) (hty.2.1 _ (List.mem_of_getElem? (i := 3) rfl)) (hty.2.1 _ (List.mem_of_getElem? (i := 4) rfl)) (hty.2.2 _ (List.mem_of_getElem? (i := 0) rfl))
  intro v5 e_v5
  replace h := h v5 e_v5
  obtain ⟨k1, h⟩ := h
  refine And.intro k1 ?_
  exact h
set_option maxRecDepth 20000 in
theorem g_X12_threes_103 {Q X : m_Po} {v0 v1 v2 v3 v4 : Int} {ε : m_E} {μ : m_M} (h : TY ε μ → i32 v1 → i32 v2 → i32 v3 → i32 v4 → (v4 ≠ (3 : Int) → kd ε v0 = 11 ∧ o_X12_across [(2, v0), (0, v2), (0, v3), (0, v4)] ε μ (fun z ε_1 μ_1 => G cd_X12_threes Q X 120 [(0, (2, v0)), (1, (0, v1)), (2, (0, v2)), (3, (0, v3)), (4, (0, v4))] [(1, z)] ε_1 μ_1) m_F) ∧ (v4 = (3 : Int) → G cd_X12_threes Q X 293 [(0, (2, v0)), (1, (0, v1)), (2, (0, v2)), (3, (0, v3))] [] ε μ)) : G cd_X12_threes Q X 103 [(0, (2, v0)), (1, (0, v1)), (2, (0, v2)), (3, (0, v3)), (4, (0, v4))] [] ε μ := by
  refine G_run (m_in [2, 14, 26, 41, 52, 66, 79, 92, 97, 103, 120, 130, 140, 154, 166, 181, 193, 240, 261, 282, 288, 293]) 55 _ _ _ _ ?_
  show m_ty [(0, (2, v0)), (1, (0, v1)), (2, (0, v2)), (3, (0, v3)), (4, (0, v4))] [] ε μ → (v4 ≠ (3 : Int) → (m_ty [(0, (2, v0)), (1, (0, v1)), (2, (0, v2)), (3, (0, v3)), (4, (0, v4))] [] ε μ → (kd ε v0 = 11) ∧ o_X12_across [(2, v0), (0, v2), (0, v3), (0, v4)] ε μ (fun z ε_1 μ_1 => G cd_X12_threes Q X 120 [(0, (2, v0)), (1, (0, v1)), (2, (0, v2)), (3, (0, v3)), (4, (0, v4))] [(1, z)] ε_1 μ_1) m_F)) ∧ (v4 = (3 : Int) → (m_ty [(0, (2, v0)), (1, (0, v1)), (2, (0, v2)), (3, (0, v3))] [] ε μ → G cd_X12_threes Q X 293 [(0, (2, v0)), (1, (0, v1)), (2, (0, v2)), (3, (0, v3))] [] ε μ))
  intro hty
  replace h := h hty.1 (hty.2.1 _ (List.mem_of_getElem? (i := 1) rfl)) (hty.2.1 _ (List.mem_of_getElem? (i := 2) rfl)) (hty.2.1 _ (List.mem_of_getElem? (i := 3) rfl)) (hty.2.1 _ (List.mem_of_getElem? (i := 4) rfl))
  obtain ⟨ha, hb⟩ := h
  refine And.intro (fun c1 => ?_) (fun c1 => ?_)
  · replace h := ha c1
    clear ha hb
    intro _
    obtain ⟨k1, h⟩ := h
    refine And.intro k1 ?_
    exact h
  · replace h := hb c1
    clear ha hb
    intro _
    exact h
set_option maxRecDepth 20000 in
theorem g_X12_threes_97 {Q X : m_Po} {v0 v1 v2 v3 v4 : Int} {ε : m_E} {μ : m_M} (h : TY ε μ → i32 v1 → i32 v2 → i32 v3 → i32 v4 → ∀ v4_1 : Int, v4_1 = w32 (v4 + 1) → G cd_X12_threes Q X 52 [(0, (2, v0)), (1, (0, v1)), (2, (0, v2)), (3, (0, v3)), (4, (0, v4_1))] [] ε μ) : G cd_X12_threes Q X 97 [(0, (2, v0)), (1, (0, v1)), (2, (0, v2)), (3, (0, v3)), (4, (0, v4))] [] ε μ := by
  refine G_run (m_in [2, 14, 26, 41, 52, 66, 79, 92, 97, 103, 120, 130, 140, 154, 166, 181, 193, 240, 261, 282, 288, 293]) 55 _ _ _ _ ?_
  show m_ty [(0, (2, v0)), (1, (0, v1)), (2, (0, v2)), (3, (0, v3)), (4, (0, v4))] [] ε μ → ∀ v4_1 : Int, v4_1 = w32 (v4 + 1) → G cd_X12_threes Q X 52 [(0, (2, v0)), (1, (0, v1)), (2, (0, v2)), (3, (0, v3)), (4, (0, v4_1))] [] ε μ
  intro hty
  replace h := h hty.1 (hty.2.1 _ (List.mem_of_getElem? (i := 1) rfl)) (hty.2.1 _ (List.mem_of_getElem? (i := 2) rfl)) (hty.2.1 _ (List.mem_of_getElem? (i := 3) rfl)) (hty.2.1 _ (List.mem_of_getElem? (i := 4) rfl))
  intro v4_1 e_v4_1
  replace h := h v4_1 e_v4_1
  exact h
set_option maxRecDepth 20000 in
theorem g_X12_threes_92 {Q X : m_Po} {v0 v1 v2 v3 v4 t : Int} {ε : m_E} {μ : m_M} (h : TY ε μ → i32 v1 → i32 v2 → i32 v3 → i32 v4 → i64 t → (t ≠ (0 : Int) → G cd_X12_threes Q X 103 [(0, (2, v0)), (1, (0, v1)), (2, (0, v2)), (3, (0, v3)), (4, (0, v4))] [] ε μ) ∧ (t = (0 : Int) → G cd_X12_threes Q X 97 [(0, (2, v0)), (1, (0, v1)), (2, (0, v2)), (3, (0, v3)), (4, (0, v4))] [] ε μ)) : G cd_X12_threes Q X 92 [(0, (2, v0)), (1, (0, v1)), (2, (0, v2)), (3, (0, v3)), (4, (0, v4))] [(1, t)] ε μ := by
  refine G_run (m_in [2, 14, 26, 41, 52, 66, 79, 92, 97, 103, 120, 130, 140, 154, 166, 181, 193, 240, 261, 282, 288, 293]) 55 _ _ _ _ ?_
  show m_ty [(0, (2, v0)), (1, (0, v1)), (2, (0, v2)), (3, (0, v3)), (4, (0, v4))] [(1, t)] ε μ → (t ≠ (0 : Int) → G cd_X12_threes Q X 103 [(0, (2, v0)), (1, (0, v1)), (2, (0, v2)), (3, (0, v3)), (4, (0, v4))] [] ε μ) ∧ (t = (0 : Int) → G cd_X12_threes Q X 97 [(0, (2, v0)), (1, (0, v1)), (2, (0, v2)), (3, (0, v3)), (4, (0, v4))] [] ε μ)
  intro hty
  replace h := h hty.1 (hty.2.1 _ (List.mem_of_getElem? (i := 1) rfl)) (hty.2.1 _ (List.mem_of_getElem? (i := 2) rfl)) (hty.2.1 _ (List.mem_of_getElem? (i := 3) rfl)) (hty.2.1 _ (List.mem_of_getElem? (i := 4) rfl)) (hty.2.2 _ (List.mem_of_getElem? (i := 0) rfl))
  obtain ⟨ha, hb⟩ := h
  refine And.intro (fun c0 => ?_) (fun c0 => ?_)
  · replace h := ha c0
    clear ha hb
    exact h
  · replace h := hb c0
    clear ha hb
    exact h
set_option maxRecDepth 20000 in
theorem g_X12_threes_79 {Q X : m_Po} {v0 v1 v2 v3 v4 t : Int} {ε : m_E} {μ : m_M} (h : TY ε μ → i32 v1 → i32 v2 → i32 v3 → i32 v4 → i64 t → (t = (0 : Int) → G cd_X12_threes Q X 97 [(0, (2, v0)), (1, (0, v1)), (2, (0, v2)), (3, (0, v3)), (4, (0, v4))] [] ε μ) ∧ (t ≠ (0 : Int) → kd ε v0 = 11 ∧ o_X12_across [(2, v0), (0, v1), (0, v2), (0, v4)] ε μ (fun z ε_1 μ_1 => G cd_X12_threes Q X 92 [(0, (2, v0)), (1, (0, v1)), (2, (0, v2)), (3, (0, v3)), (4, (0, v4))] [(1, z)] ε_1 μ_1) m_F)) : G cd_X12_threes Q X 79 [(0, (2, v0)), (1, (0, v1)), (2, (0, v2)), (3, (0, v3)), (4, (0, v4))] [(1, t)] ε μ := by
  refine G_run (m_in [2, 14, 26, 41, 52, 66, 79, 92, 97, 103, 120, 130, 140, 154, 166, 181, 193, 240, 261, 282, 288, 293]) 55 _ _ _ _ ?_
  show m_ty [(0, (2, v0)), (1, (0, v1)), (2, (0, v2)), (3, (0, v3)), (4, (0, v4))] [(1, t)] ε μ → (t = (0 : Int) → G cd_X12_threes Q X 97 [(0, (2, v0)), (1, (0, v1)), (2, (0, v2)), (3, (0, v3)), (4, (0, v4))] [] ε μ) ∧ (t ≠ (0 : Int) → (m_ty [(0, (2, v0)), (1, (0, v1)), (2, (0, v2)), (3, (0, v3)), (4, (0, v4))] [] ε μ → (kd ε v0 = 11) ∧ o_X12_across [(2, v0), (0, v1), (0, v2), (0, v4)] ε μ (fun z ε_1 μ_1 => G cd_X12_threes Q X 92 [(0, (2, v0)), (1, (0, v1)), (2, (0, v2)), (3, (0, v3)), (4, (0, v4))] [(1, z)] ε_1 μ_1) m_F))
  intro hty
  replace h := h hty.1 (hty.2.1 _ (List.mem_of_getElem? (i := 1) rfl)) (hty.2.1 _ (List.mem_of_getElem? (i := 2) rfl)) (hty.2.1 _ (List.mem_of_getElem? (i := 3) rfl)) (hty.2.1 _ (List.mem_of_getElem? (i := 4) rfl)) (hty.2.2 _ (List.mem_of_getElem? (i := 0) rfl))
  obtain ⟨ha, hb⟩ := h
  refine And.intro (fun c1 => ?_) (fun c1 => ?_)
  · replace h := ha c1
    clear ha hb
    exact h
  · replace h := hb c1
    clear ha hb
    intro _
    obtain ⟨k1, h⟩ := h
    refine And.intro k1 ?_
    exact h
set_option maxRecDepth 20000 in
theorem g_X12_threes_66 {Q X : m_Po} {v0 v1 v2 v3 v4 t : Int} {ε : m_E} {μ : m_M} (h : TY ε μ → i32 v1 → i32 v2 → i32 v3 → i32 v4 → i64 t → (t = (0 : Int) → G cd_X12_threes Q X 97 [(0, (2, v0)), (1, (0, v1)), (2, (0, v2)), (3, (0, v3)), (4, (0, v4))] [] ε μ) ∧ (t ≠ (0 : Int) → kd ε v0 = 11 ∧ o_X12_across [(2, v0), (0, v3), (0, v1), (0, v4)] ε μ (fun z ε_1 μ_1 => G cd_X12_threes Q X 79 [(0, (2, v0)), (1, (0, v1)), (2, (0, v2)), (3, (0, v3)), (4, (0, v4))] [(1, z)] ε_1 μ_1) m_F)) : G cd_X12_threes Q X 66 [(0, (2, v0)), (1, (0, v1)), (2, (0, v2)), (3, (0, v3)), (4, (0, v4))] [(1, t)] ε μ := by
  refine G_run (m_in [2, 14, 26, 41, 52, 66, 79, 92, 97, 103, 120, 130, 140, 154, 166, 181, 193, 240, 261, 282, 288, 293]) 55 _ _ _ _ ?_
  show m_ty [(0, (2, v0)), (1, (0, v1)), (2, (0, v2)), (3, (0, v3)), (4, (0, v4))] [(1, t)] ε μ → (t = (0 : Int) → G cd_X12_threes Q X 97 [(0, (2, v0)), (1, (0, v1)), (2, (0, v2)), (3, (0, v3)), (4, (0, v4))] [] ε μ) ∧ (t ≠ (0 : Int) → (m_ty [(0, (2, v0)), (1, (0, v1)), (2, (0, v2)), (3, (0, v3)), (4, (0, v4))] [] ε μ → (kd ε v0 = 11) ∧ o_X12_across [(2, v0), (0, v3), (0, v1), (0, v4)] ε μ (fun z ε_1 μ_1 => G cd_X12_threes Q X 79 [(0, (2, v0)), (1, (0, v1)), (2, (0, v2)), (3, (0, v3)), (4, (0, v4))] [(1, z)] ε_1 μ_1) m_F))
  intro hty
  replace h := h hty.1 (hty.2.1 _ (List.mem_of_getElem? (i := 1) rfl)) (hty.2.1 _ (List.mem_of_getElem? (i := 2) rfl)) (hty.2.1 _ (List.mem_of_getElem? (i := 3) rfl)) (hty.2.1 _ (List.mem_of_getElem? (i := 4) rfl)) (hty.2.2 _ (List.mem_of_getElem? (i := 0) rfl))
  obtain ⟨ha, hb⟩ := h
  refine And.intro (fun c1 => ?_) (fun c1 => ?_)
  · replace h := ha c1
    clear ha hb
    exact h
  · replace h := hb c1
    clear ha hb
    intro _
    obtain ⟨k1, h⟩ := h
    refine And.intro k1 ?_
    exact h
set_option maxRecDepth 20000 in
theorem g_X12_threes_52 {Q X : m_Po} {v0 v1 v2 v3 v4 : Int} {ε : m_E} {μ : m_M} (h : TY ε μ → i32 v1 → i32 v2 → i32 v3 → i32 v4 → ((3 : Int) ≤ v4 → G cd_X12_threes Q X 103 [(0, (2, v0)), (1, (0, v1)), (2, (0, v2)), (3, (0, v3)), (4, (0, v4))] [] ε μ) ∧ (v4 < (3 : Int) → kd ε v0 = 11 ∧ o_X12_across [(2, v0), (0, v2), (0, v3), (0, v4)] ε μ (fun z ε_1 μ_1 => G cd_X12_threes Q X 66 [(0, (2, v0)), (1, (0, v1)), (2, (0, v2)), (3, (0, v3)), (4, (0, v4))] [(1, z)] ε_1 μ_1) m_F)) : G cd_X12_threes Q X 52 [(0, (2, v0)), (1, (0, v1)), (2, (0, v2)), (3, (0, v3)), (4, (0, v4))] [] ε μ := by
  refine G_run (m_in [2, 14, 26, 41, 52, 66, 79, 92, 97, 103, 120, 130, 140, 154, 166, 181, 193, 240, 261, 282, 288, 293]) 55 _ _ _ _ ?_
  show m_ty [(0, (2, v0)), (1, (0, v1)), (2, (0, v2)), (3, (0, v3)), (4, (0, v4))] [] ε μ → ((3 : Int) ≤ v4 → G cd_X12_threes Q X 103 [(0, (2, v0)), (1, (0, v1)), (2, (0, v2)), (3, (0, v3)), (4, (0, v4))] [] ε μ) ∧ (v4 < (3 : Int) → (m_ty [(0, (2, v0)), (1, (0, v1)), (2, (0, v2)), (3, (0, v3)), (4, (0, v4))] [] ε μ → (kd ε v0 = 11) ∧ o_X12_across [(2, v0), (0, v2), (0, v3), (0, v4)] ε μ (fun z ε_1 μ_1 => G cd_X12_threes Q X 66 [(0, (2, v0)), (1, (0, v1)), (2, (0, v2)), (3, (0, v3)), (4, (0, v4))] [(1, z)] ε_1 μ_1) m_F))
  intro hty
  replace h := h hty.1 (hty.2.1 _ (List.mem_of_getElem? (i := 1) rfl)) (hty.2.1 _ (List.mem_of_getElem? (i := 2) rfl)) (hty.2.1 _ (List.mem_of_getElem? (i := 3) rfl)) (hty.2.1 _ (List.mem_of_getElem? (i := 4) rfl))
  obtain ⟨ha, hb⟩ := h
  refine And.intro (fun c1 => ?_) (fun c1 => ?_)
  · replace h := ha c1
    clear ha hb
    exact h
  · replace h := hb c1
    clear ha hb
    intro _
    obtain ⟨k1, h⟩ := h
    refine And.intro k1 ?_
    exact h
set_option maxRecDepth 20000 in
theorem g_X12_threes_41 {Q X : m_Po} {v0 v1 v2 v3 t : Int} {ε : m_E} {μ : m_M} (h : TY ε μ → i32 v1 → i32 v2 → i32 v3 → i64 t → (t = (0 : Int) → ∀ v4 : Int, v4 = 0 → G cd_X12_threes Q X 52 [(0, (2, v0)), (1, (0, v1)), (2, (0, v2)), (3, (0, v3)), (4, (0, v4))] [] ε μ) ∧ (t ≠ (0 : Int) → G cd_X12_threes Q X 293 [(0, (2, v0)), (1, (0, v1)), (2, (0, v2)), (3, (0, v3))] [] ε μ)) : G cd_X12_threes Q X 41 [(0, (2, v0)), (1, (0, v1)), (2, (0, v2)), (3, (0, v3))] [(1, t)] ε μ := by
  refine G_run (m_in [2, 14, 26, 41, 52, 66, 79, 92, 97, 103, 120, 130, 140, 154, 166, 181, 193, 240, 261, 282, 288, 293]) 55 _ _ _ _ ?_
  show m_ty [(0, (2, v0)), (1, (0, v1)), (2, (0, v2)), (3, (0, v3))] [(1, t)] ε μ → (t = (0 : Int) → (m_ty [(0, (2, v0)), (1, (0, v1)), (2, (0, v2)), (3, (0, v3))] [] ε μ → ∀ v4 : Int, v4 = 0 → G cd_X12_threes Q X 52 [(0, (2, v0)), (1, (0, v1)), (2, (0, v2)), (3, (0, v3)), (4, (0, v4))] [] ε μ)) ∧ (t ≠ (0 : Int) → (m_ty [(0, (2, v0)), (1, (0, v1)), (2, (0, v2)), (3, (0, v3))] [] ε μ → G cd_X12_threes Q X 293 [(0, (2, v0)), (1, (0, v1)), (2, (0, v2)), (3, (0, v3))] [] ε μ))
  intro hty
  replace h := h hty.1 (hty.2.1 _ (List.mem_of_getElem? (i := 1) rfl)) (hty.2.1 _ (List.mem_of_getElem? (i := 2) rfl)) (hty.2.1 _ (List.mem_of_getElem? (i := 3) rfl)) (hty.2.2 _ (List.mem_of_getElem? (i := 0) rfl))
  obtain ⟨ha, hb⟩ := h
  refine And.intro (fun c0 => ?_) (fun c0 => ?_)
  · replace h := ha c0
    clear ha hb
    intro _
    intro v4 e_v4
    replace h := h v4 e_v4
    exact h
  · replace h := hb c0
    clear ha hb
    intro _
    exact h
set_option maxRecDepth 20000 in
theorem g_X12_threes_26 {Q X : m_Po} {v0 v1 v2 v3 : Int} {ε : m_E} {μ : m_M} (h : TY ε μ → i32 v1 → i32 v2 → i32 v3 → kd ε v0 = 11 ∧ ((μ v0 35) ≤ v3 → ∀ v2_1 : Int, v2_1 = w32 (v2 + 1) → G cd_X12_threes Q X 14 [(0, (2, v0)), (1, (0, v1)), (2, (0, v2_1))] [] ε μ) ∧ (v3 < (μ v0 35) → o_X12_minor [(2, v0), (0, v1), (0, v2), (0, v3)] ε μ (fun z ε_1 μ_1 => G cd_X12_threes Q X 41 [(0, (2, v0)), (1, (0, v1)), (2, (0, v2)), (3, (0, v3))] [(1, z)] ε_1 μ_1) m_F)) : G cd_X12_threes Q X 26 [(0, (2, v0)), (1, (0, v1)), (2, (0, v2)), (3, (0, v3))] [] ε μ := by
  refine G_run (m_in [2, 14, 26, 41, 52, 66, 79, 92, 97, 103, 120, 130, 140, 154, 166, 181, 193, 240, 261, 282, 288, 293]) 55 _ _ _ _ ?_
  show m_ty [(0, (2, v0)), (1, (0, v1)), (2, (0, v2)), (3, (0, v3))] [] ε μ → (kd ε v0 = 11) ∧ ((μ v0 35) ≤ v3 → (m_ty [(0, (2, v0)), (1, (0, v1)), (2, (0, v2))] [] ε μ → ∀ v2_1 : Int, v2_1 = w32 (v2 + 1) → G cd_X12_threes Q X 14 [(0, (2, v0)), (1, (0, v1)), (2, (0, v2_1))] [] ε μ)) ∧ (v3 < (μ v0 35) → (m_ty [(0, (2, v0)), (1, (0, v1)), (2, (0, v2)), (3, (0, v3))] [] ε μ → (kd ε v0 = 11) ∧ o_X12_minor [(2, v0), (0, v1), (0, v2), (0, v3)] ε μ (fun z ε_1 μ_1 => G cd_X12_threes Q X 41 [(0, (2, v0)), (1, (0, v1)), (2, (0, v2)), (3, (0, v3))] [(1, z)] ε_1 μ_1) m_F))
  intro hty
  replace h := h hty.1 (hty.2.1 _ (List.mem_of_getElem? (i := 1) rfl)) (hty.2.1 _ (List.mem_of_getElem? (i := 2) rfl)) (hty.2.1 _ (List.mem_of_getElem? (i := 3) rfl))
  obtain ⟨k1, h⟩ := h
  refine And.intro k1 ?_
  obtain ⟨ha, hb⟩ := h
  refine And.intro (fun c1 => ?_) (fun c1 => ?_)
  · replace h := ha c1
    clear ha hb
    intro _
    intro v2_1 e_v2_1
    replace h := h v2_1 e_v2_1
    exact h
  · replace h := hb c1
    clear ha hb
    intro _
    refine And.intro k1 ?_
    exact h
set_option maxRecDepth 20000 in
theorem g_X12_threes_14 {Q X : m_Po} {v0 v1 v2 : Int} {ε : m_E} {μ : m_M} (h : TY ε μ → i32 v1 → i32 v2 → kd ε v0 = 11 ∧ ((μ v0 35) ≤ v2 → ∀ v1_1 : Int, v1_1 = w32 (v1 + 1) → G cd_X12_threes Q X 2 [(0, (2, v0)), (1, (0, v1_1))] [] ε μ) ∧ (v2 < (μ v0 35) → ∀ v3 : Int, v3 = w32 (v2 + 1) → G cd_X12_threes Q X 26 [(0, (2, v0)), (1, (0, v1)), (2, (0, v2)), (3, (0, v3))] [] ε μ)) : G cd_X12_threes Q X 14 [(0, (2, v0)), (1, (0, v1)), (2, (0, v2))] [] ε μ := by
  refine G_run (m_in [2, 14, 26, 41, 52, 66, 79, 92, 97, 103, 120, 130, 140, 154, 166, 181, 193, 240, 261, 282, 288, 293]) 55 _ _ _ _ ?_
  show m_ty [(0, (2, v0)), (1, (0, v1)), (2, (0, v2))] [] ε μ → (kd ε v0 = 11) ∧ ((μ v0 35) ≤ v2 → (m_ty [(0, (2, v0)), (1, (0, v1))] [] ε μ → ∀ v1_1 : Int, v1_1 = w32 (v1 + 1) → G cd_X12_threes Q X 2 [(0, (2, v0)), (1, (0, v1_1))] [] ε μ)) ∧ (v2 < (μ v0 35) → (m_ty [(0, (2, v0)), (1, (0, v1)), (2, (0, v2))] [] ε μ → ∀ v3 : Int, v3 = w32 (v2 + 1) → G cd_X12_threes Q X 26 [(0, (2, v0)), (1, (0, v1)), (2, (0, v2)), (3, (0, v3))] [] ε μ))
  intro hty
  replace h := h hty.1 (hty.2.1 _ (List.mem_of_getElem? (i := 1) rfl)) (hty.2.1 _ (List.mem_of_getElem? (i := 2) rfl))
  obtain ⟨k1, h⟩ := h
  refine And.intro k1 ?_
  obtain ⟨ha, hb⟩ := h
  refine And.intro (fun c1 => ?_) (fun c1 => ?_)
  · replace h := ha c1
    clear ha hb
    intro _
    intro v1_1 e_v1_1
    replace h := h v1_1 e_v1_1
    exact h
  · replace h := hb c1
    clear ha hb
    intro _
    intro v3 e_v3
    replace h := h v3 e_v3
    exact h
set_option maxRecDepth 20000 in
theorem g_X12_threes_2 {Q X : m_Po} {v0 v1 : Int} {ε : m_E} {μ : m_M} (h : TY ε μ → i32 v1 → kd ε v0 = 11 ∧ ((μ v0 35) ≤ v1 → Q 0 ε μ) ∧ (v1 < (μ v0 35) → ∀ v2 : Int, v2 = w32 (v1 + 1) → G cd_X12_threes Q X 14 [(0, (2, v0)), (1, (0, v1)), (2, (0, v2))] [] ε μ)) : G cd_X12_threes Q X 2 [(0, (2, v0)), (1, (0, v1))] [] ε μ := by
  refine G_run (m_in [2, 14, 26, 41, 52, 66, 79, 92, 97, 103, 120, 130, 140, 154, 166, 181, 193, 240, 261, 282, 288, 293]) 55 _ _ _ _ ?_
  show m_ty [(0, (2, v0)), (1, (0, v1))] [] ε μ → (kd ε v0 = 11) ∧ ((μ v0 35) ≤ v1 → (m_ty [] [] ε μ → (0 = 0 ∨ 0 = 1) ∧ Q 0 ε μ)) ∧ (v1 < (μ v0 35) → (m_ty [(0, (2, v0)), (1, (0, v1))] [] ε μ → ∀ v2 : Int, v2 = w32 (v1 + 1) → G cd_X12_threes Q X 14 [(0, (2, v0)), (1, (0, v1)), (2, (0, v2))] [] ε μ))
  intro hty
  replace h := h hty.1 (hty.2.1 _ (List.mem_of_getElem? (i := 1) rfl))
  obtain ⟨k1, h⟩ := h
  refine And.intro k1 ?_
  obtain ⟨ha, hb⟩ := h
  refine And.intro (fun c1 => ?_) (fun c1 => ?_)
  · replace h := ha c1
    clear ha hb
    intro _
    refine And.intro (Or.inl rfl) ?_
    exact h
  · replace h := hb c1
    clear ha hb
    intro _
    intro v2 e_v2
    replace h := h v2 e_v2
    exact h
set_option maxRecDepth 20000 in
theorem g_X12_threes_0 {Q X : m_Po} {v0 : Int} {ε : m_E} {μ : m_M} (h : TY ε μ → ∀ v1 : Int, v1 = 0 → G cd_X12_threes Q X 2 [(0, (2, v0)), (1, (0, v1))] [] ε μ) : G cd_X12_threes Q X 0 [(0, (2, v0))] [] ε μ := by
  refine G_run (m_in [2, 14, 26, 41, 52, 66, 79, 92, 97, 103, 120, 130, 140, 154, 166, 181, 193, 240, 261, 282, 288, 293]) 55 _ _ _ _ ?_
  show m_ty [(0, (2, v0))] [] ε μ → ∀ v1 : Int, v1 = 0 → G cd_X12_threes Q X 2 [(0, (2, v0)), (1, (0, v1))] [] ε μ
  intro hty
  replace h := h hty.1 
  intro v1 e_v1
  replace h := h v1 e_v1
  exact h
theorem e_X12_threes {Q X : m_Po} {v0 : Int} {ε : m_E} {μ : m_M} (h : TY ε μ → ∀ v1 : Int, v1 = 0 → G cd_X12_threes Q X 2 [(0, (2, v0)), (1, (0, v1))] [] ε μ) : o_X12_threes [(2, v0)] ε μ Q X := And.intro rfl (g_X12_threes_0 h)
