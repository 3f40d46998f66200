/-! java/lang/Integer.compare(II)I -/
set_option maxRecDepth 20000 in
theorem g_J_compare_19 {Q X : m_Po} {t : Int} {ε : m_E} {μ : m_M} (h : TY ε μ → i32 t → Q t ε μ) : G cd_J_compare Q X 19 [] [(0, t)] ε μ := by
  refine G_run (m_in [19]) 7 _ _ _ _ ?_
  show m_ty [] [(0, t)] ε μ → Q t ε μ
  intro hty
  replace h := h hty.1 (hty.2.2 _ (List.mem_of_getElem? (i := 0) rfl))
  exact h
set_option maxRecDepth 20000 in
theorem g_J_compare_0 {Q X : m_Po} {v0 v1 : Int} {ε : m_E} {μ : m_M} (h : TY ε μ → i32 v0 → i32 v1 → ∀ t : Int, t = (if v1 ≤ v0 then if v0 = v1 then 0 else 1 else (-1)) → Q t ε μ) : G cd_J_compare Q X 0 [(0, (0, v0)), (1, (0, v1))] [] ε μ := by
  refine G_run (m_in [19]) 7 _ _ _ _ ?_
  show m_ty [(0, (0, v0)), (1, (0, v1))] [] ε μ → (v1 ≤ v0 → (m_ty [(0, (0, v0)), (1, (0, v1))] [] ε μ → (v0 ≠ v1 → (m_ty [] [] ε μ → G cd_J_compare Q X 19 [] [(0, 1)] ε μ)) ∧ (v0 = v1 → (m_ty [] [] ε μ → G cd_J_compare Q X 19 [] [(0, 0)] ε μ)))) ∧ (v0 < v1 → (m_ty [] [] ε μ → G cd_J_compare Q X 19 [] [(0, (-1))] ε μ))
  intro hty
  replace h := h hty.1 (hty.2.1 _ (List.mem_of_getElem? (i := 0) rfl)) (hty.2.1 _ (List.mem_of_getElem? (i := 1) rfl))
  have hj := h
  refine And.intro (fun c0 => ?_) (fun c0 => ?_)
  · intro _
    refine And.intro (fun c1 => ?_) (fun c1 => ?_)
    · intro _
      exact g_J_compare_19 (fun _ _ => (hj _ (((if_pos c0).trans ((if_neg (c1)).trans rfl))).symm))
    · intro _
      exact g_J_compare_19 (fun _ _ => (hj _ (((if_pos c0).trans ((if_pos c1).trans rfl))).symm))
  · intro _
    exact g_J_compare_19 (fun _ _ => (hj _ (((if_neg (Int.not_le.mpr c0)).trans rfl)).symm))
theorem e_J_compare {Q X : m_Po} {v0 v1 : Int} {ε : m_E} {μ : m_M} (h : TY ε μ → i32 v0 → i32 v1 → ∀ t : Int, t = (if v1 ≤ v0 then if v0 = v1 then 0 else 1 else (-1)) → Q t ε μ) : o_J_compare [(0, v0), (0, v1)] ε μ Q X := And.intro rfl (g_J_compare_0 h)
/-! ArchYard$Shape.sideOf([III)I -/
set_option maxRecDepth 20000 in
theorem g_X6_sideOf_58 {Q X : m_Po} {t : Int} {ε : m_E} {μ : m_M} (h : TY ε μ → i32 t → Q t ε μ) : G cd_X6_sideOf Q X 58 [] [(0, t)] ε μ := by
  refine G_run (m_in [5, 11, 20, 27, 38, 46, 58]) 9 _ _ _ _ ?_
  show m_ty [] [(0, t)] ε μ → Q t ε μ
  intro hty
  replace h := h hty.1 (hty.2.2 _ (List.mem_of_getElem? (i := 0) rfl))
  exact h
set_option maxRecDepth 20000 in
theorem g_X6_sideOf_46 {Q X : m_Po} {v3 t t_1 t_2 : Int} {ε : m_E} {μ : m_M} (h : TY ε μ → i32 v3 → i32 t → i32 t_1 → i32 t_2 → ∀ v5 : Int, v5 = w32 (t - (w32 (t_1 * (w32 (t_2 - v3))))) → o_J_compare [(0, v5), (0, 0)] ε μ (fun z ε_1 μ_1 => G cd_X6_sideOf Q X 58 [] [(0, z)] ε_1 μ_1) m_F) : G cd_X6_sideOf Q X 46 [(3, (0, v3))] [(0, t_2), (0, t_1), (0, t)] ε μ := by
  refine G_run (m_in [5, 11, 20, 27, 38, 46, 58]) 9 _ _ _ _ ?_
  show m_ty [(3, (0, v3))] [(0, t_2), (0, t_1), (0, t)] ε μ → ∀ v5 : Int, v5 = w32 (t - (w32 (t_1 * (w32 (t_2 - v3))))) → o_J_compare [(0, v5), (0, 0)] ε μ (fun z ε_1 μ_1 => G cd_X6_sideOf Q X 58 [] [(0, z)] ε_1 μ_1) m_F
  intro hty
  replace h := h hty.1 (hty.2.1 _ (List.mem_of_getElem? (i := 0) rfl)) (hty.2.2 _ (List.mem_of_getElem? (i := 2) rfl)) (hty.2.2 _ (List.mem_of_getElem? (i := 1) rfl)) (hty.2.2 _ (List.mem_of_getElem? (i := 0) rfl))
  intro v5 e_v5
  replace h := h v5 e_v5
  exact h
set_option maxRecDepth 20000 in
theorem g_X6_sideOf_38 {Q X : m_Po} {v0 v2 v3 v4 t t_1 : Int} {ε : m_E} {μ : m_M} (h : TY ε μ → i32 v2 → i32 v3 → i32 v4 → i32 t → i32 t_1 → o_X6_xOf [(2, v0), (0, v2)] ε μ (fun z ε_1 μ_1 => G cd_X6_sideOf Q X 46 [(3, (0, v3))] [(0, z), (0, w32 (t_1 - v4)), (0, t)] ε_1 μ_1) m_F) : G cd_X6_sideOf Q X 38 [(0, (2, v0)), (2, (0, v2)), (3, (0, v3)), (4, (0, v4))] [(0, t_1), (0, t)] ε μ := by
  refine G_run (m_in [5, 11, 20, 27, 38, 46, 58]) 9 _ _ _ _ ?_
  show m_ty [(0, (2, v0)), (2, (0, v2)), (3, (0, v3)), (4, (0, v4))] [(0, t_1), (0, t)] ε μ → o_X6_xOf [(2, v0), (0, v2)] ε μ (fun z ε_1 μ_1 => G cd_X6_sideOf Q X 46 [(3, (0, v3))] [(0, z), (0, w32 (t_1 - v4)), (0, t)] ε_1 μ_1) m_F
  intro hty
  replace h := h hty.1 (hty.2.1 _ (List.mem_of_getElem? (i := 1) rfl)) (hty.2.1 _ (List.mem_of_getElem? (i := 2) rfl)) (hty.2.1 _ (List.mem_of_getElem? (i := 3) rfl)) (hty.2.2 _ (List.mem_of_getElem? (i := 1) rfl)) (hty.2.2 _ (List.mem_of_getElem? (i := 0) rfl))
  exact h
set_option maxRecDepth 20000 in
theorem g_X6_sideOf_27 {Q X : m_Po} {v0 v1 v2 v3 v4 t t_1 : Int} {ε : m_E} {μ : m_M} (h : TY ε μ → i32 v1 → i32 v2 → i32 v3 → i32 v4 → i32 t → i32 t_1 → o_X6_yOf [(2, v0), (0, w32 (v1 + 1))] ε μ (fun z ε_1 μ_1 => G cd_X6_sideOf Q X 38 [(0, (2, v0)), (2, (0, v2)), (3, (0, v3)), (4, (0, v4))] [(0, z), (0, w32 (t * (w32 (t_1 - v4))))] ε_1 μ_1) m_F) : G cd_X6_sideOf Q X 27 [(0, (2, v0)), (1, (0, v1)), (2, (0, v2)), (3, (0, v3)), (4, (0, v4))] [(0, t_1), (0, t)] ε μ := by
  refine G_run (m_in [5, 11, 20, 27, 38, 46, 58]) 9 _ _ _ _ ?_
  show m_ty [(0, (2, v0)), (1, (0, v1)), (2, (0, v2)), (3, (0, v3)), (4, (0, v4))] [(0, t_1), (0, t)] ε μ → o_X6_yOf [(2, v0), (0, w32 (v1 + 1))] ε μ (fun z ε_1 μ_1 => G cd_X6_sideOf Q X 38 [(0, (2, v0)), (2, (0, v2)), (3, (0, v3)), (4, (0, v4))] [(0, z), (0, w32 (t * (w32 (t_1 - v4))))] ε_1 μ_1) m_F
  intro hty
  replace h := h hty.1 (hty.2.1 _ (List.mem_of_getElem? (i := 1) rfl)) (hty.2.1 _ (List.mem_of_getElem? (i := 2) rfl)) (hty.2.1 _ (List.mem_of_getElem? (i := 3) rfl)) (hty.2.1 _ (List.mem_of_getElem? (i := 4) rfl)) (hty.2.2 _ (List.mem_of_getElem? (i := 1) rfl)) (hty.2.2 _ (List.mem_of_getElem? (i := 0) rfl))
  exact h
set_option maxRecDepth 20000 in
theorem g_X6_sideOf_20 {Q X : m_Po} {v0 v1 v2 v3 v4 t : Int} {ε : m_E} {μ : m_M} (h : TY ε μ → i32 v1 → i32 v2 → i32 v3 → i32 v4 → i32 t → o_X6_yOf [(2, v0), (0, v2)] ε μ (fun z ε_1 μ_1 => G cd_X6_sideOf Q X 27 [(0, (2, v0)), (1, (0, v1)), (2, (0, v2)), (3, (0, v3)), (4, (0, v4))] [(0, z), (0, w32 (t - v3))] ε_1 μ_1) m_F) : G cd_X6_sideOf Q X 20 [(0, (2, v0)), (1, (0, v1)), (2, (0, v2)), (3, (0, v3)), (4, (0, v4))] [(0, t)] ε μ := by
  refine G_run (m_in [5, 11, 20, 27, 38, 46, 58]) 9 _ _ _ _ ?_
  show m_ty [(0, (2, v0)), (1, (0, v1)), (2, (0, v2)), (3, (0, v3)), (4, (0, v4))] [(0, t)] ε μ → o_X6_yOf [(2, v0), (0, v2)] ε μ (fun z ε_1 μ_1 => G cd_X6_sideOf Q X 27 [(0, (2, v0)), (1, (0, v1)), (2, (0, v2)), (3, (0, v3)), (4, (0, v4))] [(0, z), (0, w32 (t - v3))] ε_1 μ_1) m_F
  intro hty
  replace h := h hty.1 (hty.2.1 _ (List.mem_of_getElem? (i := 1) rfl)) (hty.2.1 _ (List.mem_of_getElem? (i := 2) rfl)) (hty.2.1 _ (List.mem_of_getElem? (i := 3) rfl)) (hty.2.1 _ (List.mem_of_getElem? (i := 4) rfl)) (hty.2.2 _ (List.mem_of_getElem? (i := 0) rfl))
  exact h
set_option maxRecDepth 20000 in
theorem g_X6_sideOf_11 {Q X : m_Po} {v0 v1 v2 v3 t : Int} {ε : m_E} {μ : m_M} (h : TY ε μ → i32 v1 → i32 v2 → i32 v3 → i32 t → ∀ v4 : Int, v4 = t → o_X6_xOf [(2, v0), (0, w32 (v1 + 1))] ε μ (fun z ε_1 μ_1 => G cd_X6_sideOf Q X 20 [(0, (2, v0)), (1, (0, v1)), (2, (0, v2)), (3, (0, v3)), (4, (0, v4))] [(0, z)] ε_1 μ_1) m_F) : G cd_X6_sideOf Q X 11 [(0, (2, v0)), (1, (0, v1)), (2, (0, v2)), (3, (0, v3))] [(0, t)] ε μ := by
  refine G_run (m_in [5, 11, 20, 27, 38, 46, 58]) 9 _ _ _ _ ?_
  show m_ty [(0, (2, v0)), (1, (0, v1)), (2, (0, v2)), (3, (0, v3))] [(0, t)] ε μ → ∀ v4 : Int, v4 = t → o_X6_xOf [(2, v0), (0, w32 (v1 + 1))] ε μ (fun z ε_1 μ_1 => G cd_X6_sideOf Q X 20 [(0, (2, v0)), (1, (0, v1)), (2, (0, v2)), (3, (0, v3)), (4, (0, v4))] [(0, z)] ε_1 μ_1) m_F
  intro hty
  replace h := h hty.1 (hty.2.1 _ (List.mem_of_getElem? (i := 1) rfl)) (hty.2.1 _ (List.mem_of_getElem? (i := 2) rfl)) (hty.2.1 _ (List.mem_of_getElem? (i := 3) rfl)) (hty.2.2 _ (List.mem_of_getElem? (i := 0) rfl))
  intro v4 e_v4
  replace h := h v4 e_v4
  exact h
set_option maxRecDepth 20000 in
theorem g_X6_sideOf_5 {Q X : m_Po} {v0 v1 v2 t : Int} {ε : m_E} {μ : m_M} (h : TY ε μ → i32 v1 → i32 v2 → i32 t → ∀ v3 : Int, v3 = t → o_X6_yOf [(2, v0), (0, v1)] ε μ (fun z ε_1 μ_1 => G cd_X6_sideOf Q X 11 [(0, (2, v0)), (1, (0, v1)), (2, (0, v2)), (3, (0, v3))] [(0, z)] ε_1 μ_1) m_F) : G cd_X6_sideOf Q X 5 [(0, (2, v0)), (1, (0, v1)), (2, (0, v2))] [(0, t)] ε μ := by
  refine G_run (m_in [5, 11, 20, 27, 38, 46, 58]) 9 _ _ _ _ ?_
  show m_ty [(0, (2, v0)), (1, (0, v1)), (2, (0, v2))] [(0, t)] ε μ → ∀ v3 : Int, v3 = t → o_X6_yOf [(2, v0), (0, v1)] ε μ (fun z ε_1 μ_1 => G cd_X6_sideOf Q X 11 [(0, (2, v0)), (1, (0, v1)), (2, (0, v2)), (3, (0, v3))] [(0, z)] ε_1 μ_1) m_F
  intro hty
  replace h := h hty.1 (hty.2.1 _ (List.mem_of_getElem? (i := 1) rfl)) (hty.2.1 _ (List.mem_of_getElem? (i := 2) rfl)) (hty.2.2 _ (List.mem_of_getElem? (i := 0) rfl))
  intro v3 e_v3
  replace h := h v3 e_v3
  exact h
set_option maxRecDepth 20000 in
theorem g_X6_sideOf_0 {Q X : m_Po} {v0 v1 v2 : Int} {ε : m_E} {μ : m_M} (h : TY ε μ → i32 v1 → i32 v2 → o_X6_xOf [(2, v0), (0, v1)] ε μ (fun z ε_1 μ_1 => G cd_X6_sideOf Q X 5 [(0, (2, v0)), (1, (0, v1)), (2, (0, v2))] [(0, z)] ε_1 μ_1) m_F) : G cd_X6_sideOf Q X 0 [(0, (2, v0)), (1, (0, v1)), (2, (0, v2))] [] ε μ := by
  refine G_run (m_in [5, 11, 20, 27, 38, 46, 58]) 9 _ _ _ _ ?_
  show m_ty [(0, (2, v0)), (1, (0, v1)), (2, (0, v2))] [] ε μ → o_X6_xOf [(2, v0), (0, v1)] ε μ (fun z ε_1 μ_1 => G cd_X6_sideOf Q X 5 [(0, (2, v0)), (1, (0, v1)), (2, (0, v2))] [(0, z)] ε_1 μ_1) m_F
  intro hty
  replace h := h hty.1 (hty.2.1 _ (List.mem_of_getElem? (i := 1) rfl)) (hty.2.1 _ (List.mem_of_getElem? (i := 2) rfl))
  exact h
theorem e_X6_sideOf {Q X : m_Po} {v0 v1 v2 : Int} {ε : m_E} {μ : m_M} (h : TY ε μ → i32 v1 → i32 v2 → o_X6_xOf [(2, v0), (0, v1)] ε μ (fun z ε_1 μ_1 => G cd_X6_sideOf Q X 5 [(0, (2, v0)), (1, (0, v1)), (2, (0, v2))] [(0, z)] ε_1 μ_1) m_F) : o_X6_sideOf [(2, v0), (0, v1), (0, v2)] ε μ Q X := And.intro rfl (g_X6_sideOf_0 h)
/-! ArchYard$Shape.isBetween(III)Z -/
set_option maxRecDepth 20000 in
theorem g_X6_isBetween_23 {Q X : m_Po} {t : Int} {ε : m_E} {μ : m_M} (h : TY ε μ → i32 t → (t = 0 ∨ t = 1) ∧ Q t ε μ) : G cd_X6_isBetween Q X 23 [] [(0, t)] ε μ := by
  refine G_run (m_in [23]) 6 _ _ _ _ ?_
  show m_ty [] [(0, t)] ε μ → (t = 0 ∨ t = 1) ∧ Q t ε μ
  intro hty
  replace h := h hty.1 (hty.2.2 _ (List.mem_of_getElem? (i := 0) rfl))
  obtain ⟨k1, h⟩ := h
  refine And.intro k1 ?_
  exact h
set_option maxRecDepth 20000 in
theorem g_X6_isBetween_0 {Q X : m_Po} {v0 v1 v2 : Int} {ε : m_E} {μ : m_M} (h : TY ε μ → i32 v0 → i32 v1 → i32 v2 → ∀ t : Int, t = (if v0 < (if v2 < v1 then v2 else v1) then 0 else if (if v1 < v2 then v2 else v1) < v0 then 0 else 1) → Q t ε μ) : G cd_X6_isBetween Q X 0 [(0, (0, v0)), (1, (0, v1)), (2, (0, v2))] [] ε μ := by
  refine G_run (m_in [23]) 6 _ _ _ _ ?_
  show m_ty [(0, (0, v0)), (1, (0, v1)), (2, (0, v2))] [] ε μ → (v0 < (if v2 < v1 then v2 else v1) → (m_ty [] [] ε μ → G cd_X6_isBetween Q X 23 [] [(0, 0)] ε μ)) ∧ ((if v2 < v1 then v2 else v1) ≤ v0 → (m_ty [(0, (0, v0)), (1, (0, v1)), (2, (0, v2))] [] ε μ → ((if v1 < v2 then v2 else v1) < v0 → (m_ty [] [] ε μ → G cd_X6_isBetween Q X 23 [] [(0, 0)] ε μ)) ∧ (v0 ≤ (if v1 < v2 then v2 else v1) → (m_ty [] [] ε μ → G cd_X6_isBetween Q X 23 [] [(0, 1)] ε μ))))
  intro hty
  replace h := h hty.1 (hty.2.1 _ (List.mem_of_getElem? (i := 0) rfl)) (hty.2.1 _ (List.mem_of_getElem? (i := 1) rfl)) (hty.2.1 _ (List.mem_of_getElem? (i := 2) rfl))
  have hj := h
  refine And.intro (fun c0 => ?_) (fun c0 => ?_)
  · intro _
    exact g_X6_isBetween_23 (fun _ _ => (And.intro (Or.inl rfl) (hj _ (((if_pos c0).trans rfl)).symm)))
  · intro _
    refine And.intro (fun c1 => ?_) (fun c1 => ?_)
    · intro _
      exact g_X6_isBetween_23 (fun _ _ => (And.intro (Or.inl rfl) (hj _ (((if_neg (Int.not_lt.mpr c0)).trans ((if_pos c1).trans rfl))).symm)))
    · intro _
      exact g_X6_isBetween_23 (fun _ _ => (And.intro (Or.inr rfl) (hj _ (((if_neg (Int.not_lt.mpr c0)).trans ((if_neg (Int.not_lt.mpr c1)).trans rfl))).symm)))
theorem e_X6_isBetween {Q X : m_Po} {v0 v1 v2 : Int} {ε : m_E} {μ : m_M} (h : TY ε μ → i32 v0 → i32 v1 → i32 v2 → ∀ t : Int, t = (if v0 < (if v2 < v1 then v2 else v1) then 0 else if (if v1 < v2 then v2 else v1) < v0 then 0 else 1) → Q t ε μ) : o_X6_isBetween [(0, v0), (0, v1), (0, v2)] ε μ Q X := And.intro rfl (g_X6_isBetween_0 h)
/-! ArchYard$Shape.isBeside([III)Z -/
set_option maxRecDepth 20000 in
theorem g_X6_isBeside_50 {Q X : m_Po} {ε : m_E} {μ : m_M} (h : TY ε μ → Q 0 ε μ) : G cd_X6_isBeside Q X 50 [] [] ε μ := by
  refine G_run (m_in [5, 10, 17, 20, 28, 33, 40, 43, 50]) 14 _ _ _ _ ?_
  show m_ty [] [] ε μ → (m_ty [] [(0, 0)] ε μ → (0 = 0 ∨ 0 = 1) ∧ Q 0 ε μ)
  intro hty
  replace h := h hty.1 
  intro _
  refine And.intro (Or.inl rfl) ?_
  exact h
set_option maxRecDepth 20000 in
theorem g_X6_isBeside_43 {Q X : m_Po} {t : Int} {ε : m_E} {μ : m_M} (h : TY ε μ → i32 t → (t = 0 → G cd_X6_isBeside Q X 50 [] [] ε μ) ∧ (t ≠ 0 → Q 1 ε μ)) : G cd_X6_isBeside Q X 43 [] [(0, t)] ε μ := by
  refine G_run (m_in [5, 10, 17, 20, 28, 33, 40, 43, 50]) 14 _ _ _ _ ?_
  show m_ty [] [(0, t)] ε μ → (t = 0 → G cd_X6_isBeside Q X 50 [] [] ε μ) ∧ (t ≠ 0 → (m_ty [] [] ε μ → (m_ty [] [(0, 1)] ε μ → (1 = 0 ∨ 1 = 1) ∧ Q 1 ε μ)))
  intro hty
  replace h := h hty.1 (hty.2.2 _ (List.mem_of_getElem? (i := 0) rfl))
  obtain ⟨ha, hb⟩ := h
  refine And.intro (fun c0 => ?_) (fun c0 => ?_)
  · replace h := ha c0
    clear ha hb
    exact h
  · replace h := hb c0
    clear ha hb
    intro _
    intro _
    refine And.intro (Or.inr rfl) ?_
    exact h
set_option maxRecDepth 20000 in
theorem g_X6_isBeside_40 {Q X : m_Po} {t t_1 t_2 : Int} {ε : m_E} {μ : m_M} (h : TY ε μ → i32 t → i32 t_1 → i32 t_2 → o_X6_isBetween [(0, t), (0, t_1), (0, t_2)] ε μ (fun z ε_1 μ_1 => G cd_X6_isBeside Q X 43 [] [(0, z)] ε_1 μ_1) m_F) : G cd_X6_isBeside Q X 40 [] [(0, t_2), (0, t_1), (0, t)] ε μ := by
  refine G_run (m_in [5, 10, 17, 20, 28, 33, 40, 43, 50]) 14 _ _ _ _ ?_
  show m_ty [] [(0, t_2), (0, t_1), (0, t)] ε μ → o_X6_isBetween [(0, t), (0, t_1), (0, t_2)] ε μ (fun z ε_1 μ_1 => G cd_X6_isBeside Q X 43 [] [(0, z)] ε_1 μ_1) m_F
  intro hty
  replace h := h hty.1 (hty.2.2 _ (List.mem_of_getElem? (i := 2) rfl)) (hty.2.2 _ (List.mem_of_getElem? (i := 1) rfl)) (hty.2.2 _ (List.mem_of_getElem? (i := 0) rfl))
  exact h
set_option maxRecDepth 20000 in
theorem g_X6_isBeside_33 {Q X : m_Po} {v0 v1 t t_1 : Int} {ε : m_E} {μ : m_M} (h : TY ε μ → i32 v1 → i32 t → i32 t_1 → o_X6_yOf [(2, v0), (0, w32 (v1 + 1))] ε μ (fun z ε_1 μ_1 => G cd_X6_isBeside Q X 40 [] [(0, z), (0, t_1), (0, t)] ε_1 μ_1) m_F) : G cd_X6_isBeside Q X 33 [(0, (2, v0)), (1, (0, v1))] [(0, t_1), (0, t)] ε μ := by
  refine G_run (m_in [5, 10, 17, 20, 28, 33, 40, 43, 50]) 14 _ _ _ _ ?_
  show m_ty [(0, (2, v0)), (1, (0, v1))] [(0, t_1), (0, t)] ε μ → o_X6_yOf [(2, v0), (0, w32 (v1 + 1))] ε μ (fun z ε_1 μ_1 => G cd_X6_isBeside Q X 40 [] [(0, z), (0, t_1), (0, t)] ε_1 μ_1) m_F
  intro hty
  replace h := h hty.1 (hty.2.1 _ (List.mem_of_getElem? (i := 1) rfl)) (hty.2.2 _ (List.mem_of_getElem? (i := 1) rfl)) (hty.2.2 _ (List.mem_of_getElem? (i := 0) rfl))
  exact h
set_option maxRecDepth 20000 in
theorem g_X6_isBeside_28 {Q X : m_Po} {v0 v1 t : Int} {ε : m_E} {μ : m_M} (h : TY ε μ → i32 v1 → i32 t → o_X6_yOf [(2, v0), (0, v1)] ε μ (fun z ε_1 μ_1 => G cd_X6_isBeside Q X 33 [(0, (2, v0)), (1, (0, v1))] [(0, z), (0, t)] ε_1 μ_1) m_F) : G cd_X6_isBeside Q X 28 [(0, (2, v0)), (1, (0, v1))] [(0, t)] ε μ := by
  refine G_run (m_in [5, 10, 17, 20, 28, 33, 40, 43, 50]) 14 _ _ _ _ ?_
  show m_ty [(0, (2, v0)), (1, (0, v1))] [(0, t)] ε μ → o_X6_yOf [(2, v0), (0, v1)] ε μ (fun z ε_1 μ_1 => G cd_X6_isBeside Q X 33 [(0, (2, v0)), (1, (0, v1))] [(0, z), (0, t)] ε_1 μ_1) m_F
  intro hty
  replace h := h hty.1 (hty.2.1 _ (List.mem_of_getElem? (i := 1) rfl)) (hty.2.2 _ (List.mem_of_getElem? (i := 0) rfl))
  exact h
set_option maxRecDepth 20000 in
theorem g_X6_isBeside_20 {Q X : m_Po} {v0 v1 v2 t : Int} {ε : m_E} {μ : m_M} (h : TY ε μ → i32 v1 → i32 v2 → i32 t → (t = 0 → G cd_X6_isBeside Q X 50 [] [] ε μ) ∧ (t ≠ 0 → o_X6_yOf [(2, v0), (0, v2)] ε μ (fun z ε_1 μ_1 => G cd_X6_isBeside Q X 28 [(0, (2, v0)), (1, (0, v1))] [(0, z)] ε_1 μ_1) m_F)) : G cd_X6_isBeside Q X 20 [(0, (2, v0)), (1, (0, v1)), (2, (0, v2))] [(0, t)] ε μ := by
  refine G_run (m_in [5, 10, 17, 20, 28, 33, 40, 43, 50]) 14 _ _ _ _ ?_
  show m_ty [(0, (2, v0)), (1, (0, v1)), (2, (0, v2))] [(0, t)] ε μ → (t = 0 → G cd_X6_isBeside Q X 50 [] [] ε μ) ∧ (t ≠ 0 → (m_ty [(0, (2, v0)), (1, (0, v1)), (2, (0, v2))] [] ε μ → o_X6_yOf [(2, v0), (0, v2)] ε μ (fun z ε_1 μ_1 => G cd_X6_isBeside Q X 28 [(0, (2, v0)), (1, (0, v1))] [(0, z)] ε_1 μ_1) m_F))
  intro hty
  replace h := h hty.1 (hty.2.1 _ (List.mem_of_getElem? (i := 1) rfl)) (hty.2.1 _ (List.mem_of_getElem? (i := 2) rfl)) (hty.2.2 _ (List.mem_of_getElem? (i := 0) rfl))
  obtain ⟨ha, hb⟩ := h
  refine And.intro (fun c0 => ?_) (fun c0 => ?_)
  · replace h := ha c0
    clear ha hb
    exact h
  · replace h := hb c0
    clear ha hb
    intro _
    exact h
set_option maxRecDepth 20000 in
theorem g_X6_isBeside_17 {Q X : m_Po} {v0 v1 v2 t t_1 t_2 : Int} {ε : m_E} {μ : m_M} (h : TY ε μ → i32 v1 → i32 v2 → i32 t → i32 t_1 → i32 t_2 → o_X6_isBetween [(0, t), (0, t_1), (0, t_2)] ε μ (fun z ε_1 μ_1 => G cd_X6_isBeside Q X 20 [(0, (2, v0)), (1, (0, v1)), (2, (0, v2))] [(0, z)] ε_1 μ_1) m_F) : G cd_X6_isBeside Q X 17 [(0, (2, v0)), (1, (0, v1)), (2, (0, v2))] [(0, t_2), (0, t_1), (0, t)] ε μ := by
  refine G_run (m_in [5, 10, 17, 20, 28, 33, 40, 43, 50]) 14 _ _ _ _ ?_
  show m_ty [(0, (2, v0)), (1, (0, v1)), (2, (0, v2))] [(0, t_2), (0, t_1), (0, t)] ε μ → o_X6_isBetween [(0, t), (0, t_1), (0, t_2)] ε μ (fun z ε_1 μ_1 => G cd_X6_isBeside Q X 20 [(0, (2, v0)), (1, (0, v1)), (2, (0, v2))] [(0, z)] ε_1 μ_1) m_F
  intro hty
  replace h := h hty.1 (hty.2.1 _ (List.mem_of_getElem? (i := 1) rfl)) (hty.2.1 _ (List.mem_of_getElem? (i := 2) rfl)) (hty.2.2 _ (List.mem_of_getElem? (i := 2) rfl)) (hty.2.2 _ (List.mem_of_getElem? (i := 1) rfl)) (hty.2.2 _ (List.mem_of_getElem? (i := 0) rfl))
  exact h
set_option maxRecDepth 20000 in
theorem g_X6_isBeside_10 {Q X : m_Po} {v0 v1 v2 t t_1 : Int} {ε : m_E} {μ : m_M} (h : TY ε μ → i32 v1 → i32 v2 → i32 t → i32 t_1 → o_X6_xOf [(2, v0), (0, w32 (v1 + 1))] ε μ (fun z ε_1 μ_1 => G cd_X6_isBeside Q X 17 [(0, (2, v0)), (1, (0, v1)), (2, (0, v2))] [(0, z), (0, t_1), (0, t)] ε_1 μ_1) m_F) : G cd_X6_isBeside Q X 10 [(0, (2, v0)), (1, (0, v1)), (2, (0, v2))] [(0, t_1), (0, t)] ε μ := by
  refine G_run (m_in [5, 10, 17, 20, 28, 33, 40, 43, 50]) 14 _ _ _ _ ?_
  show m_ty [(0, (2, v0)), (1, (0, v1)), (2, (0, v2))] [(0, t_1), (0, t)] ε μ → o_X6_xOf [(2, v0), (0, w32 (v1 + 1))] ε μ (fun z ε_1 μ_1 => G cd_X6_isBeside Q X 17 [(0, (2, v0)), (1, (0, v1)), (2, (0, v2))] [(0, z), (0, t_1), (0, t)] ε_1 μ_1) m_F
  intro hty
  replace h := h hty.1 (hty.2.1 _ (List.mem_of_getElem? (i := 1) rfl)) (hty.2.1 _ (List.mem_of_getElem? (i := 2) rfl)) (hty.2.2 _ (List.mem_of_getElem? (i := 1) rfl)) (hty.2.2 _ (List.mem_of_getElem? (i := 0) rfl))
  exact h
set_option maxRecDepth 20000 in
theorem g_X6_isBeside_5 {Q X : m_Po} {v0 v1 v2 t : Int} {ε : m_E} {μ : m_M} (h : TY ε μ → i32 v1 → i32 v2 → i32 t → o_X6_xOf [(2, v0), (0, v1)] ε μ (fun z ε_1 μ_1 => G cd_X6_isBeside Q X 10 [(0, (2, v0)), (1, (0, v1)), (2, (0, v2))] [(0, z), (0, t)] ε_1 μ_1) m_F) : G cd_X6_isBeside Q X 5 [(0, (2, v0)), (1, (0, v1)), (2, (0, v2))] [(0, t)] ε μ := by
  refine G_run (m_in [5, 10, 17, 20, 28, 33, 40, 43, 50]) 14 _ _ _ _ ?_
  show m_ty [(0, (2, v0)), (1, (0, v1)), (2, (0, v2))] [(0, t)] ε μ → o_X6_xOf [(2, v0), (0, v1)] ε μ (fun z ε_1 μ_1 => G cd_X6_isBeside Q X 10 [(0, (2, v0)), (1, (0, v1)), (2, (0, v2))] [(0, z), (0, t)] ε_1 μ_1) m_F
  intro hty
  replace h := h hty.1 (hty.2.1 _ (List.mem_of_getElem? (i := 1) rfl)) (hty.2.1 _ (List.mem_of_getElem? (i := 2) rfl)) (hty.2.2 _ (List.mem_of_getElem? (i := 0) rfl))
  exact h
set_option maxRecDepth 20000 in
theorem g_X6_isBeside_0 {Q X : m_Po} {v0 v1 v2 : Int} {ε : m_E} {μ : m_M} (h : TY ε μ → i32 v1 → i32 v2 → o_X6_xOf [(2, v0), (0, v2)] ε μ (fun z ε_1 μ_1 => G cd_X6_isBeside Q X 5 [(0, (2, v0)), (1, (0, v1)), (2, (0, v2))] [(0, z)] ε_1 μ_1) m_F) : G cd_X6_isBeside Q X 0 [(0, (2, v0)), (1, (0, v1)), (2, (0, v2))] [] ε μ := by
  refine G_run (m_in [5, 10, 17, 20, 28, 33, 40, 43, 50]) 14 _ _ _ _ ?_
  show m_ty [(0, (2, v0)), (1, (0, v1)), (2, (0, v2))] [] ε μ → o_X6_xOf [(2, v0), (0, v2)] ε μ (fun z ε_1 μ_1 => G cd_X6_isBeside Q X 5 [(0, (2, v0)), (1, (0, v1)), (2, (0, v2))] [(0, z)] ε_1 μ_1) m_F
  intro hty
  replace h := h hty.1 (hty.2.1 _ (List.mem_of_getElem? (i := 1) rfl)) (hty.2.1 _ (List.mem_of_getElem? (i := 2) rfl))
  exact h
theorem e_X6_isBeside {Q X : m_Po} {v0 v1 v2 : Int} {ε : m_E} {μ : m_M} (h : TY ε μ → i32 v1 → i32 v2 → o_X6_xOf [(2, v0), (0, v2)] ε μ (fun z ε_1 μ_1 => G cd_X6_isBeside Q X 5 [(0, (2, v0)), (1, (0, v1)), (2, (0, v2))] [(0, z)] ε_1 μ_1) m_F) : o_X6_isBeside [(2, v0), (0, v1), (0, v2)] ε μ Q X := And.intro rfl (g_X6_isBeside_0 h)
/-! ArchYard$Shape.meet([III)Z -/
set_option maxRecDepth 20000 in
theorem g_X6_meet_115 {Q X : m_Po} {ε : m_E} {μ : m_M} (h : TY ε μ → Q 0 ε μ) : G cd_X6_meet Q X 115 [] [] ε μ := by
  refine G_run (m_in [6, 15, 23, 33, 52, 62, 65, 78, 81, 92, 95, 108, 111, 115]) 23 _ _ _ _ ?_
  show m_ty [] [] ε μ → (m_ty [] [(0, 0)] ε μ → (0 = 0 ∨ 0 = 1) ∧ Q 0 ε μ)
  intro hty
  replace h := h hty.1 
  intro _
  refine And.intro (Or.inl rfl) ?_
  exact h
set_option maxRecDepth 20000 in
theorem g_X6_meet_111 {Q X : m_Po} {ε : m_E} {μ : m_M} (h : TY ε μ → Q 1 ε μ) : G cd_X6_meet Q X 111 [] [] ε μ := by
  refine G_run (m_in [6, 15, 23, 33, 52, 62, 65, 78, 81, 92, 95, 108, 111, 115]) 23 _ _ _ _ ?_
  show m_ty [] [] ε μ → (m_ty [] [(0, 1)] ε μ → (1 = 0 ∨ 1 = 1) ∧ Q 1 ε μ)
  intro hty
  replace h := h hty.1 
  intro _
  refine And.intro (Or.inr rfl) ?_
  exact h
set_option maxRecDepth 20000 in
theorem g_X6_meet_108 {Q X : m_Po} {t : Int} {ε : m_E} {μ : m_M} (h : TY ε μ → i32 t → (t = 0 → G cd_X6_meet Q X 115 [] [] ε μ) ∧ (t ≠ 0 → G cd_X6_meet Q X 111 [] [] ε μ)) : G cd_X6_meet Q X 108 [] [(0, t)] ε μ := by
  refine G_run (m_in [6, 15, 23, 33, 52, 62, 65, 78, 81, 92, 95, 108, 111, 115]) 23 _ _ _ _ ?_
  show m_ty [] [(0, t)] ε μ → (t = 0 → G cd_X6_meet Q X 115 [] [] ε μ) ∧ (t ≠ 0 → G cd_X6_meet Q X 111 [] [] ε μ)
  intro hty
  replace h := h hty.1 (hty.2.2 _ (List.mem_of_getElem? (i := 0) rfl))
  obtain ⟨ha, hb⟩ := h
  refine And.intro (fun c0 => ?_) (fun c0 => ?_)
  · replace h := ha c0
    clear ha hb
    exact h
  · replace h := hb c0
    clear ha hb
    exact h
set_option maxRecDepth 20000 in
theorem g_X6_meet_95 {Q X : m_Po} {v0 v1 v2 v6 : Int} {ε : m_E} {μ : m_M} (h : TY ε μ → i32 v1 → i32 v2 → i32 v6 → (v6 ≠ 0 → G cd_X6_meet Q X 115 [] [] ε μ) ∧ (v6 = 0 → o_X6_isBeside [(2, v0), (0, v2), (0, w32 (v1 + 1))] ε μ (fun z ε_1 μ_1 => G cd_X6_meet Q X 108 [] [(0, z)] ε_1 μ_1) m_F)) : G cd_X6_meet Q X 95 [(0, (2, v0)), (1, (0, v1)), (2, (0, v2)), (6, (0, v6))] [] ε μ := by
  refine G_run (m_in [6, 15, 23, 33, 52, 62, 65, 78, 81, 92, 95, 108, 111, 115]) 23 _ _ _ _ ?_
  show m_ty [(0, (2, v0)), (1, (0, v1)), (2, (0, v2)), (6, (0, v6))] [] ε μ → (v6 ≠ 0 → G cd_X6_meet Q X 115 [] [] ε μ) ∧ (v6 = 0 → (m_ty [(0, (2, v0)), (1, (0, v1)), (2, (0, v2))] [] ε μ → o_X6_isBeside [(2, v0), (0, v2), (0, w32 (v1 + 1))] ε μ (fun z ε_1 μ_1 => G cd_X6_meet Q X 108 [] [(0, z)] ε_1 μ_1) m_F))
  intro hty
  replace h := h hty.1 (hty.2.1 _ (List.mem_of_getElem? (i := 1) rfl)) (hty.2.1 _ (List.mem_of_getElem? (i := 2) rfl)) (hty.2.1 _ (List.mem_of_getElem? (i := 3) rfl))
  obtain ⟨ha, hb⟩ := h
  refine And.intro (fun c0 => ?_) (fun c0 => ?_)
  · replace h := ha c0
    clear ha hb
    exact h
  · replace h := hb c0
    clear ha hb
    intro _
    exact h
set_option maxRecDepth 20000 in
theorem g_X6_meet_92 {Q X : m_Po} {v0 v1 v2 v6 t : Int} {ε : m_E} {μ : m_M} (h : TY ε μ → i32 v1 → i32 v2 → i32 v6 → i32 t → (t ≠ 0 → G cd_X6_meet Q X 111 [] [] ε μ) ∧ (t = 0 → G cd_X6_meet Q X 95 [(0, (2, v0)), (1, (0, v1)), (2, (0, v2)), (6, (0, v6))] [] ε μ)) : G cd_X6_meet Q X 92 [(0, (2, v0)), (1, (0, v1)), (2, (0, v2)), (6, (0, v6))] [(0, t)] ε μ := by
  refine G_run (m_in [6, 15, 23, 33, 52, 62, 65, 78, 81, 92, 95, 108, 111, 115]) 23 _ _ _ _ ?_
  show m_ty [(0, (2, v0)), (1, (0, v1)), (2, (0, v2)), (6, (0, v6))] [(0, t)] ε μ → (t ≠ 0 → G cd_X6_meet Q X 111 [] [] ε μ) ∧ (t = 0 → G cd_X6_meet Q X 95 [(0, (2, v0)), (1, (0, v1)), (2, (0, v2)), (6, (0, v6))] [] ε μ)
  intro hty
  replace h := h hty.1 (hty.2.1 _ (List.mem_of_getElem? (i := 1) rfl)) (hty.2.1 _ (List.mem_of_getElem? (i := 2) rfl)) (hty.2.1 _ (List.mem_of_getElem? (i := 3) rfl)) (hty.2.2 _ (List.mem_of_getElem? (i := 0) rfl))
  obtain ⟨ha, hb⟩ := h
  refine And.intro (fun c0 => ?_) (fun c0 => ?_)
  · replace h := ha c0
    clear ha hb
    exact h
  · replace h := hb c0
    clear ha hb
    exact h
set_option maxRecDepth 20000 in
theorem g_X6_meet_81 {Q X : m_Po} {v0 v1 v2 v5 v6 : Int} {ε : m_E} {μ : m_M} (h : TY ε μ → i32 v1 → i32 v2 → i32 v5 → i32 v6 → (v5 ≠ 0 → G cd_X6_meet Q X 95 [(0, (2, v0)), (1, (0, v1)), (2, (0, v2)), (6, (0, v6))] [] ε μ) ∧ (v5 = 0 → o_X6_isBeside [(2, v0), (0, v2), (0, v1)] ε μ (fun z ε_1 μ_1 => G cd_X6_meet Q X 92 [(0, (2, v0)), (1, (0, v1)), (2, (0, v2)), (6, (0, v6))] [(0, z)] ε_1 μ_1) m_F)) : G cd_X6_meet Q X 81 [(0, (2, v0)), (1, (0, v1)), (2, (0, v2)), (5, (0, v5)), (6, (0, v6))] [] ε μ := by
  refine G_run (m_in [6, 15, 23, 33, 52, 62, 65, 78, 81, 92, 95, 108, 111, 115]) 23 _ _ _ _ ?_
  show m_ty [(0, (2, v0)), (1, (0, v1)), (2, (0, v2)), (5, (0, v5)), (6, (0, v6))] [] ε μ → (v5 ≠ 0 → G cd_X6_meet Q X 95 [(0, (2, v0)), (1, (0, v1)), (2, (0, v2)), (6, (0, v6))] [] ε μ) ∧ (v5 = 0 → (m_ty [(0, (2, v0)), (1, (0, v1)), (2, (0, v2)), (6, (0, v6))] [] ε μ → o_X6_isBeside [(2, v0), (0, v2), (0, v1)] ε μ (fun z ε_1 μ_1 => G cd_X6_meet Q X 92 [(0, (2, v0)), (1, (0, v1)), (2, (0, v2)), (6, (0, v6))] [(0, z)] ε_1 μ_1) m_F))
  intro hty
  replace h := h hty.1 (hty.2.1 _ (List.mem_of_getElem? (i := 1) rfl)) (hty.2.1 _ (List.mem_of_getElem? (i := 2) rfl)) (hty.2.1 _ (List.mem_of_getElem? (i := 3) rfl)) (hty.2.1 _ (List.mem_of_getElem? (i := 4) rfl))
  obtain ⟨ha, hb⟩ := h
  refine And.intro (fun c0 => ?_) (fun c0 => ?_)
  · replace h := ha c0
    clear ha hb
    exact h
  · replace h := hb c0
    clear ha hb
    intro _
    exact h
set_option maxRecDepth 20000 in
theorem g_X6_meet_78 {Q X : m_Po} {v0 v1 v2 v5 v6 t : Int} {ε : m_E} {μ : m_M} (h : TY ε μ → i32 v1 → i32 v2 → i32 v5 → i32 v6 → i32 t → (t ≠ 0 → G cd_X6_meet Q X 111 [] [] ε μ) ∧ (t = 0 → G cd_X6_meet Q X 81 [(0, (2, v0)), (1, (0, v1)), (2, (0, v2)), (5, (0, v5)), (6, (0, v6))] [] ε μ)) : G cd_X6_meet Q X 78 [(0, (2, v0)), (1, (0, v1)), (2, (0, v2)), (5, (0, v5)), (6, (0, v6))] [(0, t)] ε μ := by
  refine G_run (m_in [6, 15, 23, 33, 52, 62, 65, 78, 81, 92, 95, 108, 111, 115]) 23 _ _ _ _ ?_
  show m_ty [(0, (2, v0)), (1, (0, v1)), (2, (0, v2)), (5, (0, v5)), (6, (0, v6))] [(0, t)] ε μ → (t ≠ 0 → G cd_X6_meet Q X 111 [] [] ε μ) ∧ (t = 0 → G cd_X6_meet Q X 81 [(0, (2, v0)), (1, (0, v1)), (2, (0, v2)), (5, (0, v5)), (6, (0, v6))] [] ε μ)
  intro hty
  replace h := h hty.1 (hty.2.1 _ (List.mem_of_getElem? (i := 1) rfl)) (hty.2.1 _ (List.mem_of_getElem? (i := 2) rfl)) (hty.2.1 _ (List.mem_of_getElem? (i := 3) rfl)) (hty.2.1 _ (List.mem_of_getElem? (i := 4) rfl)) (hty.2.2 _ (List.mem_of_getElem? (i := 0) rfl))
  obtain ⟨ha, hb⟩ := h
  refine And.intro (fun c0 => ?_) (fun c0 => ?_)
  · replace h := ha c0
    clear ha hb
    exact h
  · replace h := hb c0
    clear ha hb
    exact h
set_option maxRecDepth 20000 in
theorem g_X6_meet_65 {Q X : m_Po} {v0 v1 v2 v4 v5 v6 : Int} {ε : m_E} {μ : m_M} (h : TY ε μ → i32 v1 → i32 v2 → i32 v4 → i32 v5 → i32 v6 → (v4 ≠ 0 → G cd_X6_meet Q X 81 [(0, (2, v0)), (1, (0, v1)), (2, (0, v2)), (5, (0, v5)), (6, (0, v6))] [] ε μ) ∧ (v4 = 0 → o_X6_isBeside [(2, v0), (0, v1), (0, w32 (v2 + 1))] ε μ (fun z ε_1 μ_1 => G cd_X6_meet Q X 78 [(0, (2, v0)), (1, (0, v1)), (2, (0, v2)), (5, (0, v5)), (6, (0, v6))] [(0, z)] ε_1 μ_1) m_F)) : G cd_X6_meet Q X 65 [(0, (2, v0)), (1, (0, v1)), (2, (0, v2)), (4, (0, v4)), (5, (0, v5)), (6, (0, v6))] [] ε μ := by
  refine G_run (m_in [6, 15, 23, 33, 52, 62, 65, 78, 81, 92, 95, 108, 111, 115]) 23 _ _ _ _ ?_
  show m_ty [(0, (2, v0)), (1, (0, v1)), (2, (0, v2)), (4, (0, v4)), (5, (0, v5)), (6, (0, v6))] [] ε μ → (v4 ≠ 0 → G cd_X6_meet Q X 81 [(0, (2, v0)), (1, (0, v1)), (2, (0, v2)), (5, (0, v5)), (6, (0, v6))] [] ε μ) ∧ (v4 = 0 → (m_ty [(0, (2, v0)), (1, (0, v1)), (2, (0, v2)), (5, (0, v5)), (6, (0, v6))] [] ε μ → o_X6_isBeside [(2, v0), (0, v1), (0, w32 (v2 + 1))] ε μ (fun z ε_1 μ_1 => G cd_X6_meet Q X 78 [(0, (2, v0)), (1, (0, v1)), (2, (0, v2)), (5, (0, v5)), (6, (0, v6))] [(0, z)] ε_1 μ_1) m_F))
  intro hty
  replace h := h hty.1 (hty.2.1 _ (List.mem_of_getElem? (i := 1) rfl)) (hty.2.1 _ (List.mem_of_getElem? (i := 2) rfl)) (hty.2.1 _ (List.mem_of_getElem? (i := 3) rfl)) (hty.2.1 _ (List.mem_of_getElem? (i := 4) rfl)) (hty.2.1 _ (List.mem_of_getElem? (i := 5) rfl))
  obtain ⟨ha, hb⟩ := h
  refine And.intro (fun c0 => ?_) (fun c0 => ?_)
  · replace h := ha c0
    clear ha hb
    exact h
  · replace h := hb c0
    clear ha hb
    intro _
    exact h
set_option maxRecDepth 20000 in
theorem g_X6_meet_62 {Q X : m_Po} {v0 v1 v2 v4 v5 v6 t : Int} {ε : m_E} {μ : m_M} (h : TY ε μ → i32 v1 → i32 v2 → i32 v4 → i32 v5 → i32 v6 → i32 t → (t ≠ 0 → G cd_X6_meet Q X 111 [] [] ε μ) ∧ (t = 0 → G cd_X6_meet Q X 65 [(0, (2, v0)), (1, (0, v1)), (2, (0, v2)), (4, (0, v4)), (5, (0, v5)), (6, (0, v6))] [] ε μ)) : G cd_X6_meet Q X 62 [(0, (2, v0)), (1, (0, v1)), (2, (0, v2)), (4, (0, v4)), (5, (0, v5)), (6, (0, v6))] [(0, t)] ε μ := by
  refine G_run (m_in [6, 15, 23, 33, 52, 62, 65, 78, 81, 92, 95, 108, 111, 115]) 23 _ _ _ _ ?_
  show m_ty [(0, (2, v0)), (1, (0, v1)), (2, (0, v2)), (4, (0, v4)), (5, (0, v5)), (6, (0, v6))] [(0, t)] ε μ → (t ≠ 0 → G cd_X6_meet Q X 111 [] [] ε μ) ∧ (t = 0 → G cd_X6_meet Q X 65 [(0, (2, v0)), (1, (0, v1)), (2, (0, v2)), (4, (0, v4)), (5, (0, v5)), (6, (0, v6))] [] ε μ)
  intro hty
  replace h := h hty.1 (hty.2.1 _ (List.mem_of_getElem? (i := 1) rfl)) (hty.2.1 _ (List.mem_of_getElem? (i := 2) rfl)) (hty.2.1 _ (List.mem_of_getElem? (i := 3) rfl)) (hty.2.1 _ (List.mem_of_getElem? (i := 4) rfl)) (hty.2.1 _ (List.mem_of_getElem? (i := 5) rfl)) (hty.2.2 _ (List.mem_of_getElem? (i := 0) rfl))
  obtain ⟨ha, hb⟩ := h
  refine And.intro (fun c0 => ?_) (fun c0 => ?_)
  · replace h := ha c0
    clear ha hb
    exact h
  · replace h := hb c0
    clear ha hb
    exact h
set_option maxRecDepth 20000 in
theorem g_X6_meet_52 {Q X : m_Po} {v0 v1 v2 v3 v4 v5 v6 : Int} {ε : m_E} {μ : m_M} (h : TY ε μ → i32 v1 → i32 v2 → i32 v3 → i32 v4 → i32 v5 → i32 v6 → (v3 ≠ 0 → G cd_X6_meet Q X 65 [(0, (2, v0)), (1, (0, v1)), (2, (0, v2)), (4, (0, v4)), (5, (0, v5)), (6, (0, v6))] [] ε μ) ∧ (v3 = 0 → o_X6_isBeside [(2, v0), (0, v1), (0, v2)] ε μ (fun z ε_1 μ_1 => G cd_X6_meet Q X 62 [(0, (2, v0)), (1, (0, v1)), (2, (0, v2)), (4, (0, v4)), (5, (0, v5)), (6, (0, v6))] [(0, z)] ε_1 μ_1) m_F)) : G cd_X6_meet Q X 52 [(0, (2, v0)), (1, (0, v1)), (2, (0, v2)), (3, (0, v3)), (4, (0, v4)), (5, (0, v5)), (6, (0, v6))] [] ε μ := by
  refine G_run (m_in [6, 15, 23, 33, 52, 62, 65, 78, 81, 92, 95, 108, 111, 115]) 23 _ _ _ _ ?_
  show m_ty [(0, (2, v0)), (1, (0, v1)), (2, (0, v2)), (3, (0, v3)), (4, (0, v4)), (5, (0, v5)), (6, (0, v6))] [] ε μ → (v3 ≠ 0 → G cd_X6_meet Q X 65 [(0, (2, v0)), (1, (0, v1)), (2, (0, v2)), (4, (0, v4)), (5, (0, v5)), (6, (0, v6))] [] ε μ) ∧ (v3 = 0 → (m_ty [(0, (2, v0)), (1, (0, v1)), (2, (0, v2)), (4, (0, v4)), (5, (0, v5)), (6, (0, v6))] [] ε μ → o_X6_isBeside [(2, v0), (0, v1), (0, v2)] ε μ (fun z ε_1 μ_1 => G cd_X6_meet Q X 62 [(0, (2, v0)), (1, (0, v1)), (2, (0, v2)), (4, (0, v4)), (5, (0, v5)), (6, (0, v6))] [(0, z)] ε_1 μ_1) m_F))
  intro hty
  replace h := h hty.1 (hty.2.1 _ (List.mem_of_getElem? (i := 1) rfl)) (hty.2.1 _ (List.mem_of_getElem? (i := 2) rfl)) (hty.2.1 _ (List.mem_of_getElem? (i := 3) rfl)) (hty.2.1 _ (List.mem_of_getElem? (i := 4) rfl)) (hty.2.1 _ (List.mem_of_getElem? (i := 5) rfl)) (hty.2.1 _ (List.mem_of_getElem? (i := 6) rfl))
  obtain ⟨ha, hb⟩ := h
  refine And.intro (fun c0 => ?_) (fun c0 => ?_)
  · replace h := ha c0
    clear ha hb
    exact h
  · replace h := hb c0
    clear ha hb
    intro _
    exact h
set_option maxRecDepth 20000 in
theorem g_X6_meet_33 {Q X : m_Po} {v0 v1 v2 v3 v4 v5 t : Int} {ε : m_E} {μ : m_M} (h : TY ε μ → i32 v1 → i32 v2 → i32 v3 → i32 v4 → i32 v5 → i32 t → ∀ v6 : Int, v6 = t → (0 ≤ (w32 (v3 * v4)) → G cd_X6_meet Q X 52 [(0, (2, v0)), (1, (0, v1)), (2, (0, v2)), (3, (0, v3)), (4, (0, v4)), (5, (0, v5)), (6, (0, v6))] [] ε μ) ∧ ((w32 (v3 * v4)) < 0 → (0 ≤ (w32 (v5 * v6)) → G cd_X6_meet Q X 52 [(0, (2, v0)), (1, (0, v1)), (2, (0, v2)), (3, (0, v3)), (4, (0, v4)), (5, (0, v5)), (6, (0, v6))] [] ε μ) ∧ ((w32 (v5 * v6)) < 0 → Q 1 ε μ))) : G cd_X6_meet Q X 33 [(0, (2, v0)), (1, (0, v1)), (2, (0, v2)), (3, (0, v3)), (4, (0, v4)), (5, (0, v5))] [(0, t)] ε μ := by
  refine G_run (m_in [6, 15, 23, 33, 52, 62, 65, 78, 81, 92, 95, 108, 111, 115]) 23 _ _ _ _ ?_
  show m_ty [(0, (2, v0)), (1, (0, v1)), (2, (0, v2)), (3, (0, v3)), (4, (0, v4)), (5, (0, v5))] [(0, t)] ε μ → ∀ v6 : Int, v6 = t → (0 ≤ (w32 (v3 * v4)) → G cd_X6_meet Q X 52 [(0, (2, v0)), (1, (0, v1)), (2, (0, v2)), (3, (0, v3)), (4, (0, v4)), (5, (0, v5)), (6, (0, v6))] [] ε μ) ∧ ((w32 (v3 * v4)) < 0 → (m_ty [(0, (2, v0)), (1, (0, v1)), (2, (0, v2)), (3, (0, v3)), (4, (0, v4)), (5, (0, v5)), (6, (0, v6))] [] ε μ → (0 ≤ (w32 (v5 * v6)) → G cd_X6_meet Q X 52 [(0, (2, v0)), (1, (0, v1)), (2, (0, v2)), (3, (0, v3)), (4, (0, v4)), (5, (0, v5)), (6, (0, v6))] [] ε μ) ∧ ((w32 (v5 * v6)) < 0 → (m_ty [] [] ε μ → (1 = 0 ∨ 1 = 1) ∧ Q 1 ε μ))))
  intro hty
  replace h := h hty.1 (hty.2.1 _ (List.mem_of_getElem? (i := 1) rfl)) (hty.2.1 _ (List.mem_of_getElem? (i := 2) rfl)) (hty.2.1 _ (List.mem_of_getElem? (i := 3) rfl)) (hty.2.1 _ (List.mem_of_getElem? (i := 4) rfl)) (hty.2.1 _ (List.mem_of_getElem? (i := 5) rfl)) (hty.2.2 _ (List.mem_of_getElem? (i := 0) rfl))
  intro v6 e_v6
  replace h := h v6 e_v6
  obtain ⟨ha, hb⟩ := h
  refine And.intro (fun c1 => ?_) (fun c1 => ?_)
  · replace h := ha c1
    clear ha hb
    exact h
  · replace h := hb c1
    clear ha hb
    intro _
    obtain ⟨ha, hb⟩ := h
    refine And.intro (fun c0 => ?_) (fun c0 => ?_)
    · replace h := ha c0
      clear ha hb
      exact h
    · replace h := hb c0
      clear ha hb
      intro _
      refine And.intro (Or.inr rfl) ?_
      exact h
set_option maxRecDepth 20000 in
theorem g_X6_meet_23 {Q X : m_Po} {v0 v1 v2 v3 v4 t : Int} {ε : m_E} {μ : m_M} (h : TY ε μ → i32 v1 → i32 v2 → i32 v3 → i32 v4 → i32 t → ∀ v5 : Int, v5 = t → o_X6_sideOf [(2, v0), (0, v2), (0, w32 (v1 + 1))] ε μ (fun z ε_1 μ_1 => G cd_X6_meet Q X 33 [(0, (2, v0)), (1, (0, v1)), (2, (0, v2)), (3, (0, v3)), (4, (0, v4)), (5, (0, v5))] [(0, z)] ε_1 μ_1) m_F) : G cd_X6_meet Q X 23 [(0, (2, v0)), (1, (0, v1)), (2, (0, v2)), (3, (0, v3)), (4, (0, v4))] [(0, t)] ε μ := by
  refine G_run (m_in [6, 15, 23, 33, 52, 62, 65, 78, 81, 92, 95, 108, 111, 115]) 23 _ _ _ _ ?_
  show m_ty [(0, (2, v0)), (1, (0, v1)), (2, (0, v2)), (3, (0, v3)), (4, (0, v4))] [(0, t)] ε μ → ∀ v5 : Int, v5 = t → o_X6_sideOf [(2, v0), (0, v2), (0, w32 (v1 + 1))] ε μ (fun z ε_1 μ_1 => G cd_X6_meet Q X 33 [(0, (2, v0)), (1, (0, v1)), (2, (0, v2)), (3, (0, v3)), (4, (0, v4)), (5, (0, v5))] [(0, z)] ε_1 μ_1) m_F
  intro hty
  replace h := h hty.1 (hty.2.1 _ (List.mem_of_getElem? (i := 1) rfl)) (hty.2.1 _ (List.mem_of_getElem? (i := 2) rfl)) (hty.2.1 _ (List.mem_of_getElem? (i := 3) rfl)) (hty.2.1 _ (List.mem_of_getElem? (i := 4) rfl)) (hty.2.2 _ (List.mem_of_getElem? (i := 0) rfl))
  intro v5 e_v5
  replace h := h v5 e_v5
  exact h
set_option maxRecDepth 20000 in
theorem g_X6_meet_15 {Q X : m_Po} {v0 v1 v2 v3 t : Int} {ε : m_E} {μ : m_M} (h : TY ε μ → i32 v1 → i32 v2 → i32 v3 → i32 t → ∀ v4 : Int, v4 = t → o_X6_sideOf [(2, v0), (0, v2), (0, v1)] ε μ (fun z ε_1 μ_1 => G cd_X6_meet Q X 23 [(0, (2, v0)), (1, (0, v1)), (2, (0, v2)), (3, (0, v3)), (4, (0, v4))] [(0, z)] ε_1 μ_1) m_F) : G cd_X6_meet Q X 15 [(0, (2, v0)), (1, (0, v1)), (2, (0, v2)), (3, (0, v3))] [(0, t)] ε μ := by
  refine G_run (m_in [6, 15, 23, 33, 52, 62, 65, 78, 81, 92, 95, 108, 111, 115]) 23 _ _ _ _ ?_
  show m_ty [(0, (2, v0)), (1, (0, v1)), (2, (0, v2)), (3, (0, v3))] [(0, t)] ε μ → ∀ v4 : Int, v4 = t → o_X6_sideOf [(2, v0), (0, v2), (0, v1)] ε μ (fun z ε_1 μ_1 => G cd_X6_meet Q X 23 [(0, (2, v0)), (1, (0, v1)), (2, (0, v2)), (3, (0, v3)), (4, (0, v4))] [(0, z)] ε_1 μ_1) m_F
  intro hty
  replace h := h hty.1 (hty.2.1 _ (List.mem_of_getElem? (i := 1) rfl)) (hty.2.1 _ (List.mem_of_getElem? (i := 2) rfl)) (hty.2.1 _ (List.mem_of_getElem? (i := 3) rfl)) (hty.2.2 _ (List.mem_of_getElem? (i := 0) rfl))
  intro v4 e_v4
  replace h := h v4 e_v4
  exact h
set_option maxRecDepth 20000 in
theorem g_X6_meet_6 {Q X : m_Po} {v0 v1 v2 t : Int} {ε : m_E} {μ : m_M} (h : TY ε μ → i32 v1 → i32 v2 → i32 t → ∀ v3 : Int, v3 = t → o_X6_sideOf [(2, v0), (0, v1), (0, w32 (v2 + 1))] ε μ (fun z ε_1 μ_1 => G cd_X6_meet Q X 15 [(0, (2, v0)), (1, (0, v1)), (2, (0, v2)), (3, (0, v3))] [(0, z)] ε_1 μ_1) m_F) : G cd_X6_meet Q X 6 [(0, (2, v0)), (1, (0, v1)), (2, (0, v2))] [(0, t)] ε μ := by
  refine G_run (m_in [6, 15, 23, 33, 52, 62, 65, 78, 81, 92, 95, 108, 111, 115]) 23 _ _ _ _ ?_
  show m_ty [(0, (2, v0)), (1, (0, v1)), (2, (0, v2))] [(0, t)] ε μ → ∀ v3 : Int, v3 = t → o_X6_sideOf [(2, v0), (0, v1), (0, w32 (v2 + 1))] ε μ (fun z ε_1 μ_1 => G cd_X6_meet Q X 15 [(0, (2, v0)), (1, (0, v1)), (2, (0, v2)), (3, (0, v3))] [(0, z)] ε_1 μ_1) m_F
  intro hty
  replace h := h hty.1 (hty.2.1 _ (List.mem_of_getElem? (i := 1) rfl)) (hty.2.1 _ (List.mem_of_getElem? (i := 2) rfl)) (hty.2.2 _ (List.mem_of_getElem? (i := 0) rfl))
  intro v3 e_v3
  replace h := h v3 e_v3
  exact h
set_option maxRecDepth 20000 in
theorem g_X6_meet_0 {Q X : m_Po} {v0 v1 v2 : Int} {ε : m_E} {μ : m_M} (h : TY ε μ → i32 v1 → i32 v2 → o_X6_sideOf [(2, v0), (0, v1), (0, v2)] ε μ (fun z ε_1 μ_1 => G cd_X6_meet Q X 6 [(0, (2, v0)), (1, (0, v1)), (2, (0, v2))] [(0, z)] ε_1 μ_1) m_F) : G cd_X6_meet Q X 0 [(0, (2, v0)), (1, (0, v1)), (2, (0, v2))] [] ε μ := by
  refine G_run (m_in [6, 15, 23, 33, 52, 62, 65, 78, 81, 92, 95, 108, 111, 115]) 23 _ _ _ _ ?_
  show m_ty [(0, (2, v0)), (1, (0, v1)), (2, (0, v2))] [] ε μ → o_X6_sideOf [(2, v0), (0, v1), (0, v2)] ε μ (fun z ε_1 μ_1 => G cd_X6_meet Q X 6 [(0, (2, v0)), (1, (0, v1)), (2, (0, v2))] [(0, z)] ε_1 μ_1) m_F
  intro hty
  replace h := h hty.1 (hty.2.1 _ (List.mem_of_getElem? (i := 1) rfl)) (hty.2.1 _ (List.mem_of_getElem? (i := 2) rfl))
  exact h
theorem e_X6_meet {Q X : m_Po} {v0 v1 v2 : Int} {ε : m_E} {μ : m_M} (h : TY ε μ → i32 v1 → i32 v2 → o_X6_sideOf [(2, v0), (0, v1), (0, v2)] ε μ (fun z ε_1 μ_1 => G cd_X6_meet Q X 6 [(0, (2, v0)), (1, (0, v1)), (2, (0, v2))] [(0, z)] ε_1 μ_1) m_F) : o_X6_meet [(2, v0), (0, v1), (0, v2)] ε μ Q X := And.intro rfl (g_X6_meet_0 h)
/-! ArchYard$Shape.turnAt([II)I -/
set_option maxRecDepth 20000 in
theorem g_X6_turnAt_25 {Q X : m_Po} {t t_1 t_2 : Int} {ε : m_E} {μ : m_M} (h : TY ε μ → i32 t → i32 t_1 → i32 t_2 → Q (w32 (t - (w32 (t_1 * t_2)))) ε μ) : G cd_X6_turnAt Q X 25 [] [(0, t_2), (0, t_1), (0, t)] ε μ := by
  refine G_run (m_in [5, 12, 20, 25]) 6 _ _ _ _ ?_
  show m_ty [] [(0, t_2), (0, t_1), (0, t)] ε μ → Q (w32 (t - (w32 (t_1 * t_2)))) ε μ
  intro hty
  replace h := h hty.1 (hty.2.2 _ (List.mem_of_getElem? (i := 2) rfl)) (hty.2.2 _ (List.mem_of_getElem? (i := 1) rfl)) (hty.2.2 _ (List.mem_of_getElem? (i := 0) rfl))
  exact h
set_option maxRecDepth 20000 in
theorem g_X6_turnAt_20 {Q X : m_Po} {v0 v1 t t_1 : Int} {ε : m_E} {μ : m_M} (h : TY ε μ → i32 v1 → i32 t → i32 t_1 → o_X6_yOf [(2, v0), (0, v1)] ε μ (fun z ε_1 μ_1 => G cd_X6_turnAt Q X 25 [] [(0, z), (0, t_1), (0, t)] ε_1 μ_1) m_F) : G cd_X6_turnAt Q X 20 [(0, (2, v0)), (1, (0, v1))] [(0, t_1), (0, t)] ε μ := by
  refine G_run (m_in [5, 12, 20, 25]) 6 _ _ _ _ ?_
  show m_ty [(0, (2, v0)), (1, (0, v1))] [(0, t_1), (0, t)] ε μ → o_X6_yOf [(2, v0), (0, v1)] ε μ (fun z ε_1 μ_1 => G cd_X6_turnAt Q X 25 [] [(0, z), (0, t_1), (0, t)] ε_1 μ_1) m_F
  intro hty
  replace h := h hty.1 (hty.2.1 _ (List.mem_of_getElem? (i := 1) rfl)) (hty.2.2 _ (List.mem_of_getElem? (i := 1) rfl)) (hty.2.2 _ (List.mem_of_getElem? (i := 0) rfl))
  exact h
set_option maxRecDepth 20000 in
theorem g_X6_turnAt_12 {Q X : m_Po} {v0 v1 t t_1 : Int} {ε : m_E} {μ : m_M} (h : TY ε μ → i32 v1 → i32 t → i32 t_1 → o_X6_xOf [(2, v0), (0, w32 (v1 + 1))] ε μ (fun z ε_1 μ_1 => G cd_X6_turnAt Q X 20 [(0, (2, v0)), (1, (0, v1))] [(0, z), (0, w32 (t * t_1))] ε_1 μ_1) m_F) : G cd_X6_turnAt Q X 12 [(0, (2, v0)), (1, (0, v1))] [(0, t_1), (0, t)] ε μ := by
  refine G_run (m_in [5, 12, 20, 25]) 6 _ _ _ _ ?_
  show m_ty [(0, (2, v0)), (1, (0, v1))] [(0, t_1), (0, t)] ε μ → o_X6_xOf [(2, v0), (0, w32 (v1 + 1))] ε μ (fun z ε_1 μ_1 => G cd_X6_turnAt Q X 20 [(0, (2, v0)), (1, (0, v1))] [(0, z), (0, w32 (t * t_1))] ε_1 μ_1) m_F
  intro hty
  replace h := h hty.1 (hty.2.1 _ (List.mem_of_getElem? (i := 1) rfl)) (hty.2.2 _ (List.mem_of_getElem? (i := 1) rfl)) (hty.2.2 _ (List.mem_of_getElem? (i := 0) rfl))
  exact h
set_option maxRecDepth 20000 in
theorem g_X6_turnAt_5 {Q X : m_Po} {v0 v1 t : Int} {ε : m_E} {μ : m_M} (h : TY ε μ → i32 v1 → i32 t → o_X6_yOf [(2, v0), (0, w32 (v1 + 1))] ε μ (fun z ε_1 μ_1 => G cd_X6_turnAt Q X 12 [(0, (2, v0)), (1, (0, v1))] [(0, z), (0, t)] ε_1 μ_1) m_F) : G cd_X6_turnAt Q X 5 [(0, (2, v0)), (1, (0, v1))] [(0, t)] ε μ := by
  refine G_run (m_in [5, 12, 20, 25]) 6 _ _ _ _ ?_
  show m_ty [(0, (2, v0)), (1, (0, v1))] [(0, t)] ε μ → o_X6_yOf [(2, v0), (0, w32 (v1 + 1))] ε μ (fun z ε_1 μ_1 => G cd_X6_turnAt Q X 12 [(0, (2, v0)), (1, (0, v1))] [(0, z), (0, t)] ε_1 μ_1) m_F
  intro hty
  replace h := h hty.1 (hty.2.1 _ (List.mem_of_getElem? (i := 1) rfl)) (hty.2.2 _ (List.mem_of_getElem? (i := 0) rfl))
  exact h
set_option maxRecDepth 20000 in
theorem g_X6_turnAt_0 {Q X : m_Po} {v0 v1 : Int} {ε : m_E} {μ : m_M} (h : TY ε μ → i32 v1 → o_X6_xOf [(2, v0), (0, v1)] ε μ (fun z ε_1 μ_1 => G cd_X6_turnAt Q X 5 [(0, (2, v0)), (1, (0, v1))] [(0, z)] ε_1 μ_1) m_F) : G cd_X6_turnAt Q X 0 [(0, (2, v0)), (1, (0, v1))] [] ε μ := by
  refine G_run (m_in [5, 12, 20, 25]) 6 _ _ _ _ ?_
  show m_ty [(0, (2, v0)), (1, (0, v1))] [] ε μ → o_X6_xOf [(2, v0), (0, v1)] ε μ (fun z ε_1 μ_1 => G cd_X6_turnAt Q X 5 [(0, (2, v0)), (1, (0, v1))] [(0, z)] ε_1 μ_1) m_F
  intro hty
  replace h := h hty.1 (hty.2.1 _ (List.mem_of_getElem? (i := 1) rfl))
  exact h
theorem e_X6_turnAt {Q X : m_Po} {v0 v1 : Int} {ε : m_E} {μ : m_M} (h : TY ε μ → i32 v1 → o_X6_xOf [(2, v0), (0, v1)] ε μ (fun z ε_1 μ_1 => G cd_X6_turnAt Q X 5 [(0, (2, v0)), (1, (0, v1))] [(0, z)] ε_1 μ_1) m_F) : o_X6_turnAt [(2, v0), (0, v1)] ε μ Q X := And.intro rfl (g_X6_turnAt_0 h)
/-! ArchYard$Shape.twiceArea([I)I -/
set_option maxRecDepth 20000 in
theorem g_X6_twiceArea_23 {Q X : m_Po} {v0 v1 v2 : Int} {ε : m_E} {μ : m_M} (h : TY ε μ → i32 v1 → i32 v2 → G cd_X6_twiceArea Q X 4 [(0, (2, v0)), (1, (0, v1)), (2, (0, v2))] [] ε μ) : G cd_X6_twiceArea Q X 23 [(0, (2, v0)), (1, (0, v1)), (2, (0, v2))] [] ε μ := by
  refine G_run (m_in [4, 9, 18, 23]) 8 _ _ _ _ ?_
  show m_ty [(0, (2, v0)), (1, (0, v1)), (2, (0, v2))] [] ε μ → G cd_X6_twiceArea Q X 4 [(0, (2, v0)), (1, (0, v1)), (2, (0, v2))] [] ε μ
  intro hty
  replace h := h hty.1 (hty.2.1 _ (List.mem_of_getElem? (i := 1) rfl)) (hty.2.1 _ (List.mem_of_getElem? (i := 2) rfl))
  exact h
set_option maxRecDepth 20000 in
theorem g_X6_twiceArea_18 {Q X : m_Po} {v0 v2 t t_1 : Int} {ε : m_E} {μ : m_M} (h : TY ε μ → i32 v2 → i32 t → i32 t_1 → ∀ v1 : Int, v1 = w32 (t + t_1) → ∀ v2_1 : Int, v2_1 = w32 (v2 + 1) → G cd_X6_twiceArea Q X 4 [(0, (2, v0)), (1, (0, v1)), (2, (0, v2_1))] [] ε μ) : G cd_X6_twiceArea Q X 18 [(0, (2, v0)), (2, (0, v2))] [(0, t_1), (0, t)] ε μ := by
  refine G_run (m_in [4, 9, 18, 23]) 8 _ _ _ _ ?_
  show m_ty [(0, (2, v0)), (2, (0, v2))] [(0, t_1), (0, t)] ε μ → ∀ v1 : Int, v1 = w32 (t + t_1) → ∀ v2_1 : Int, v2_1 = w32 (v2 + 1) → G cd_X6_twiceArea Q X 23 [(0, (2, v0)), (1, (0, v1)), (2, (0, v2_1))] [] ε μ
  intro hty
  replace h := h hty.1 (hty.2.1 _ (List.mem_of_getElem? (i := 1) rfl)) (hty.2.2 _ (List.mem_of_getElem? (i := 1) rfl)) (hty.2.2 _ (List.mem_of_getElem? (i := 0) rfl))
  intro v1 e_v1
  replace h := h v1 e_v1
  intro v2_1 e_v2_1
  replace h := h v2_1 e_v2_1
  exact g_X6_twiceArea_23 (fun _ _ _ => h)
set_option maxRecDepth 20000 in
theorem g_X6_twiceArea_9 {Q X : m_Po} {v0 v1 v2 t t_1 : Int} {ε : m_E} {μ : m_M} (h : TY ε μ → i32 v1 → i32 v2 → i32 t → i32 t_1 → (t_1 ≤ t → Q v1 ε μ) ∧ (t < t_1 → o_X6_turnAt [(2, v0), (0, v2)] ε μ (fun z ε_1 μ_1 => G cd_X6_twiceArea Q X 18 [(0, (2, v0)), (2, (0, v2))] [(0, z), (0, v1)] ε_1 μ_1) m_F)) : G cd_X6_twiceArea Q X 9 [(0, (2, v0)), (1, (0, v1)), (2, (0, v2))] [(0, t_1), (0, t)] ε μ := by
  refine G_run (m_in [4, 9, 18, 23]) 8 _ _ _ _ ?_
  show m_ty [(0, (2, v0)), (1, (0, v1)), (2, (0, v2))] [(0, t_1), (0, t)] ε μ → (t_1 ≤ t → (m_ty [(1, (0, v1))] [] ε μ → Q v1 ε μ)) ∧ (t < t_1 → (m_ty [(0, (2, v0)), (1, (0, v1)), (2, (0, v2))] [] ε μ → o_X6_turnAt [(2, v0), (0, v2)] ε μ (fun z ε_1 μ_1 => G cd_X6_twiceArea Q X 18 [(0, (2, v0)), (2, (0, v2))] [(0, z), (0, v1)] ε_1 μ_1) m_F))
  intro hty
  replace h := h hty.1 (hty.2.1 _ (List.mem_of_getElem? (i := 1) rfl)) (hty.2.1 _ (List.mem_of_getElem? (i := 2) rfl)) (hty.2.2 _ (List.mem_of_getElem? (i := 1) rfl)) (hty.2.2 _ (List.mem_of_getElem? (i := 0) rfl))
  obtain ⟨ha, hb⟩ := h
  refine And.intro (fun c0 => ?_) (fun c0 => ?_)
  · replace h := ha c0
    clear ha hb
    intro _
    exact h
  · replace h := hb c0
    clear ha hb
    intro _
    exact h
set_option maxRecDepth 20000 in
theorem g_X6_twiceArea_4 {Q X : m_Po} {v0 v1 v2 : Int} {ε : m_E} {μ : m_M} (h : TY ε μ → i32 v1 → i32 v2 → o_X6_pointsOf [(2, v0)] ε μ (fun z ε_1 μ_1 => G cd_X6_twiceArea Q X 9 [(0, (2, v0)), (1, (0, v1)), (2, (0, v2))] [(0, z), (0, v2)] ε_1 μ_1) m_F) : G cd_X6_twiceArea Q X 4 [(0, (2, v0)), (1, (0, v1)), (2, (0, v2))] [] ε μ := by
  refine G_run (m_in [4, 9, 18, 23]) 8 _ _ _ _ ?_
  show m_ty [(0, (2, v0)), (1, (0, v1)), (2, (0, v2))] [] ε μ → o_X6_pointsOf [(2, v0)] ε μ (fun z ε_1 μ_1 => G cd_X6_twiceArea Q X 9 [(0, (2, v0)), (1, (0, v1)), (2, (0, v2))] [(0, z), (0, v2)] ε_1 μ_1) m_F
  intro hty
  replace h := h hty.1 (hty.2.1 _ (List.mem_of_getElem? (i := 1) rfl)) (hty.2.1 _ (List.mem_of_getElem? (i := 2) rfl))
  exact h
set_option maxRecDepth 20000 in
theorem g_X6_twiceArea_0 {Q X : m_Po} {v0 : Int} {ε : m_E} {μ : m_M} (h : TY ε μ → ∀ v1 : Int, v1 = 0 → ∀ v2 : Int, v2 = 0 → G cd_X6_twiceArea Q X 4 [(0, (2, v0)), (1, (0, v1)), (2, (0, v2))] [] ε μ) : G cd_X6_twiceArea Q X 0 [(0, (2, v0))] [] ε μ := by
  refine G_run (m_in [4, 9, 18, 23]) 8 _ _ _ _ ?_
  show m_ty [(0, (2, v0))] [] ε μ → ∀ v1 : Int, v1 = 0 → ∀ v2 : Int, v2 = 0 → G cd_X6_twiceArea Q X 4 [(0, (2, v0)), (1, (0, v1)), (2, (0, v2))] [] ε μ
  intro hty
  replace h := h hty.1 
  intro v1 e_v1
  replace h := h v1 e_v1
  intro v2 e_v2
  replace h := h v2 e_v2
  exact h
theorem e_X6_twiceArea {Q X : m_Po} {v0 : Int} {ε : m_E} {μ : m_M} (h : TY ε μ → ∀ v1 : Int, v1 = 0 → ∀ v2 : Int, v2 = 0 → G cd_X6_twiceArea Q X 4 [(0, (2, v0)), (1, (0, v1)), (2, (0, v2))] [] ε μ) : o_X6_twiceArea [(2, v0)] ε μ Q X := And.intro rfl (g_X6_twiceArea_0 h)
/-! ArchYard$Shape.isSound([I)Z -/
set_option maxRecDepth 20000 in
theorem g_X6_isSound_97 {Q X : m_Po} {t : Int} {ε : m_E} {μ : m_M} (h : TY ε μ → i32 t → (t = 0 ∨ t = 1) ∧ Q t ε μ) : G cd_X6_isSound Q X 97 [] [(0, t)] ε μ := by
  refine G_run (m_in [4, 7, 17, 25, 34, 55, 68, 73, 89, 97]) 26 _ _ _ _ ?_
  show m_ty [] [(0, t)] ε μ → (t = 0 ∨ t = 1) ∧ Q t ε μ
  intro hty
  replace h := h hty.1 (hty.2.2 _ (List.mem_of_getElem? (i := 0) rfl))
  obtain ⟨k1, h⟩ := h
  refine And.intro k1 ?_
  exact h
set_option maxRecDepth 20000 in
theorem g_X6_isSound_89 {Q X : m_Po} {t : Int} {ε : m_E} {μ : m_M} (h : TY ε μ → i32 t → ∀ t_1 : Int, t_1 = (if t ≤ 0 then 0 else 1) → Q t_1 ε μ) : G cd_X6_isSound Q X 89 [] [(0, t)] ε μ := by
  refine G_run (m_in [4, 7, 17, 25, 34, 55, 68, 73, 89, 97]) 26 _ _ _ _ ?_
  show m_ty [] [(0, t)] ε μ → (t ≤ 0 → (m_ty [] [] ε μ → G cd_X6_isSound Q X 97 [] [(0, 0)] ε μ)) ∧ (0 < t → (m_ty [] [] ε μ → G cd_X6_isSound Q X 97 [] [(0, 1)] ε μ))
  intro hty
  replace h := h hty.1 (hty.2.2 _ (List.mem_of_getElem? (i := 0) rfl))
  have hj := h
  refine And.intro (fun c0 => ?_) (fun c0 => ?_)
  · intro _
    exact g_X6_isSound_97 (fun _ _ => (And.intro (Or.inl rfl) (hj _ (((if_pos c0).trans rfl)).symm)))
  · intro _
    exact g_X6_isSound_97 (fun _ _ => (And.intro (Or.inr rfl) (hj _ (((if_neg (Int.not_le.mpr c0)).trans rfl)).symm)))
set_option maxRecDepth 20000 in
theorem g_X6_isSound_73 {Q X : m_Po} {v0 v1 v2 v3 : Int} {ε : m_E} {μ : m_M} (h : TY ε μ → i32 v1 → i32 v2 → i32 v3 → ∀ v3_1 : Int, v3_1 = w32 (v3 + 1) → G cd_X6_isSound Q X 34 [(0, (2, v0)), (1, (0, v1)), (2, (0, v2)), (3, (0, v3_1))] [] ε μ) : G cd_X6_isSound Q X 73 [(0, (2, v0)), (1, (0, v1)), (2, (0, v2)), (3, (0, v3))] [] ε μ := by
  refine G_run (m_in [4, 7, 17, 25, 34, 55, 68, 73, 89, 97]) 26 _ _ _ _ ?_
  show m_ty [(0, (2, v0)), (1, (0, v1)), (2, (0, v2)), (3, (0, v3))] [] ε μ → ∀ v3_1 : Int, v3_1 = w32 (v3 + 1) → G cd_X6_isSound Q X 34 [(0, (2, v0)), (1, (0, v1)), (2, (0, v2)), (3, (0, v3_1))] [] ε μ
  intro hty
  replace h := h hty.1 (hty.2.1 _ (List.mem_of_getElem? (i := 1) rfl)) (hty.2.1 _ (List.mem_of_getElem? (i := 2) rfl)) (hty.2.1 _ (List.mem_of_getElem? (i := 3) rfl))
  intro v3_1 e_v3_1
  replace h := h v3_1 e_v3_1
  exact h
set_option maxRecDepth 20000 in
theorem g_X6_isSound_68 {Q X : m_Po} {v0 v1 v2 v3 t : Int} {ε : m_E} {μ : m_M} (h : TY ε μ → i32 v1 → i32 v2 → i32 v3 → i32 t → (t = 0 → G cd_X6_isSound Q X 73 [(0, (2, v0)), (1, (0, v1)), (2, (0, v2)), (3, (0, v3))] [] ε μ) ∧ (t ≠ 0 → Q 0 ε μ)) : G cd_X6_isSound Q X 68 [(0, (2, v0)), (1, (0, v1)), (2, (0, v2)), (3, (0, v3))] [(0, t)] ε μ := by
  refine G_run (m_in [4, 7, 17, 25, 34, 55, 68, 73, 89, 97]) 26 _ _ _ _ ?_
  show m_ty [(0, (2, v0)), (1, (0, v1)), (2, (0, v2)), (3, (0, v3))] [(0, t)] ε μ → (t = 0 → G cd_X6_isSound Q X 73 [(0, (2, v0)), (1, (0, v1)), (2, (0, v2)), (3, (0, v3))] [] ε μ) ∧ (t ≠ 0 → (m_ty [] [] ε μ → (0 = 0 ∨ 0 = 1) ∧ Q 0 ε μ))
  intro hty
  replace h := h hty.1 (hty.2.1 _ (List.mem_of_getElem? (i := 1) rfl)) (hty.2.1 _ (List.mem_of_getElem? (i := 2) rfl)) (hty.2.1 _ (List.mem_of_getElem? (i := 3) rfl)) (hty.2.2 _ (List.mem_of_getElem? (i := 0) rfl))
  obtain ⟨ha, hb⟩ := h
  refine And.intro (fun c0 => ?_) (fun c0 => ?_)
  · replace h := ha c0
    clear ha hb
    exact h
  · replace h := hb c0
    clear ha hb
    intro _
    refine And.intro (Or.inl rfl) ?_
    exact h
set_option maxRecDepth 20000 in
theorem g_X6_isSound_55 {Q X : m_Po} {v0 v1 v2 v3 t : Int} {ε : m_E} {μ : m_M} (h : TY ε μ → i32 v1 → i32 v2 → i32 v3 → i32 t → ∀ v4 : Int, v4 = t → (v4 ≠ 0 → G cd_X6_isSound Q X 73 [(0, (2, v0)), (1, (0, v1)), (2, (0, v2)), (3, (0, v3))] [] ε μ) ∧ (v4 = 0 → o_X6_meet [(2, v0), (0, v2), (0, v3)] ε μ (fun z ε_1 μ_1 => G cd_X6_isSound Q X 68 [(0, (2, v0)), (1, (0, v1)), (2, (0, v2)), (3, (0, v3))] [(0, z)] ε_1 μ_1) m_F)) : G cd_X6_isSound Q X 55 [(0, (2, v0)), (1, (0, v1)), (2, (0, v2)), (3, (0, v3))] [(0, t)] ε μ := by
  refine G_run (m_in [4, 7, 17, 25, 34, 55, 68, 73, 89, 97]) 26 _ _ _ _ ?_
  show m_ty [(0, (2, v0)), (1, (0, v1)), (2, (0, v2)), (3, (0, v3))] [(0, t)] ε μ → ∀ v4 : Int, v4 = t → (v4 ≠ 0 → G cd_X6_isSound Q X 73 [(0, (2, v0)), (1, (0, v1)), (2, (0, v2)), (3, (0, v3))] [] ε μ) ∧ (v4 = 0 → (m_ty [(0, (2, v0)), (1, (0, v1)), (2, (0, v2)), (3, (0, v3))] [] ε μ → o_X6_meet [(2, v0), (0, v2), (0, v3)] ε μ (fun z ε_1 μ_1 => G cd_X6_isSound Q X 68 [(0, (2, v0)), (1, (0, v1)), (2, (0, v2)), (3, (0, v3))] [(0, z)] ε_1 μ_1) m_F))
  intro hty
  replace h := h hty.1 (hty.2.1 _ (List.mem_of_getElem? (i := 1) rfl)) (hty.2.1 _ (List.mem_of_getElem? (i := 2) rfl)) (hty.2.1 _ (List.mem_of_getElem? (i := 3) rfl)) (hty.2.2 _ (List.mem_of_getElem? (i := 0) rfl))
  intro v4 e_v4
  replace h := h v4 e_v4
  obtain ⟨ha, hb⟩ := h
  refine And.intro (fun c0 => ?_) (fun c0 => ?_)
  · replace h := ha c0
    clear ha hb
    exact h
  · replace h := hb c0
    clear ha hb
    intro _
    exact h
set_option maxRecDepth 20000 in
theorem g_X6_isSound_34 {Q X : m_Po} {v0 v1 v2 v3 : Int} {ε : m_E} {μ : m_M} (h : TY ε μ → i32 v1 → i32 v2 → i32 v3 → (v1 ≤ v3 → ∀ v2_1 : Int, v2_1 = w32 (v2 + 1) → G cd_X6_isSound Q X 7 [(0, (2, v0)), (1, (0, v1)), (2, (0, v2_1))] [] ε μ) ∧ (v3 < v1 → ∀ t : Int, t = (if v2 = 0 then if v3 = (w32 (v1 - 1)) then 1 else 0 else 0) → ∀ v4 : Int, v4 = t → (v4 ≠ 0 → G cd_X6_isSound Q X 73 [(0, (2, v0)), (1, (0, v1)), (2, (0, v2)), (3, (0, v3))] [] ε μ) ∧ (v4 = 0 → o_X6_meet [(2, v0), (0, v2), (0, v3)] ε μ (fun z ε_1 μ_1 => G cd_X6_isSound Q X 68 [(0, (2, v0)), (1, (0, v1)), (2, (0, v2)), (3, (0, v3))] [(0, z)] ε_1 μ_1) m_F))) : G cd_X6_isSound Q X 34 [(0, (2, v0)), (1, (0, v1)), (2, (0, v2)), (3, (0, v3))] [] ε μ := by
  refine G_run (m_in [4, 7, 17, 25, 34, 55, 68, 73, 89, 97]) 26 _ _ _ _ ?_
  show m_ty [(0, (2, v0)), (1, (0, v1)), (2, (0, v2)), (3, (0, v3))] [] ε μ → (v1 ≤ v3 → (m_ty [(0, (2, v0)), (1, (0, v1)), (2, (0, v2))] [] ε μ → ∀ v2_1 : Int, v2_1 = w32 (v2 + 1) → G cd_X6_isSound Q X 7 [(0, (2, v0)), (1, (0, v1)), (2, (0, v2_1))] [] ε μ)) ∧ (v3 < v1 → (m_ty [(0, (2, v0)), (1, (0, v1)), (2, (0, v2)), (3, (0, v3))] [] ε μ → (v2 ≠ 0 → (m_ty [(0, (2, v0)), (1, (0, v1)), (2, (0, v2)), (3, (0, v3))] [] ε μ → G cd_X6_isSound Q X 55 [(0, (2, v0)), (1, (0, v1)), (2, (0, v2)), (3, (0, v3))] [(0, 0)] ε μ)) ∧ (v2 = 0 → (m_ty [(0, (2, v0)), (1, (0, v1)), (2, (0, v2)), (3, (0, v3))] [] ε μ → (v3 ≠ (w32 (v1 - 1)) → (m_ty [(0, (2, v0)), (1, (0, v1)), (2, (0, v2)), (3, (0, v3))] [] ε μ → G cd_X6_isSound Q X 55 [(0, (2, v0)), (1, (0, v1)), (2, (0, v2)), (3, (0, v3))] [(0, 0)] ε μ)) ∧ (v3 = (w32 (v1 - 1)) → (m_ty [(0, (2, v0)), (1, (0, v1)), (2, (0, v2)), (3, (0, v3))] [] ε μ → G cd_X6_isSound Q X 55 [(0, (2, v0)), (1, (0, v1)), (2, (0, v2)), (3, (0, v3))] [(0, 1)] ε μ))))))
  intro hty
  replace h := h hty.1 (hty.2.1 _ (List.mem_of_getElem? (i := 1) rfl)) (hty.2.1 _ (List.mem_of_getElem? (i := 2) rfl)) (hty.2.1 _ (List.mem_of_getElem? (i := 3) rfl))
  obtain ⟨ha, hb⟩ := h
  refine And.intro (fun c3 => ?_) (fun c3 => ?_)
  · replace h := ha c3
    clear ha hb
    intro _
    intro v2_1 e_v2_1
    replace h := h v2_1 e_v2_1
    exact h
  · replace h := hb c3
    clear ha hb
    intro _
    have hj := h
    refine And.intro (fun c0 => ?_) (fun c0 => ?_)
    · intro _
      exact g_X6_isSound_55 (fun _ _ _ _ _ => (hj _ (((if_neg (c0)).trans rfl)).symm))
    · intro _
      refine And.intro (fun c1 => ?_) (fun c1 => ?_)
      · intro _
        exact g_X6_isSound_55 (fun _ _ _ _ _ => (hj _ (((if_pos c0).trans ((if_neg (c1)).trans rfl))).symm))
      · intro _
        exact g_X6_isSound_55 (fun _ _ _ _ _ => (hj _ (((if_pos c0).trans ((if_pos c1).trans rfl))).symm))
set_option maxRecDepth 20000 in
theorem g_X6_isSound_25 {Q X : m_Po} {v0 v1 v2 t : Int} {ε : m_E} {μ : m_M} (h : TY ε μ → i32 v1 → i32 v2 → i32 t → (t = 0 → ∀ v3 : Int, v3 = w32 (v2 + 2) → G cd_X6_isSound Q X 34 [(0, (2, v0)), (1, (0, v1)), (2, (0, v2)), (3, (0, v3))] [] ε μ) ∧ (t ≠ 0 → Q 0 ε μ)) : G cd_X6_isSound Q X 25 [(0, (2, v0)), (1, (0, v1)), (2, (0, v2))] [(0, t)] ε μ := by
  refine G_run (m_in [4, 7, 17, 25, 34, 55, 68, 73, 89, 97]) 26 _ _ _ _ ?_
  show m_ty [(0, (2, v0)), (1, (0, v1)), (2, (0, v2))] [(0, t)] ε μ → (t = 0 → (m_ty [(0, (2, v0)), (1, (0, v1)), (2, (0, v2))] [] ε μ → ∀ v3 : Int, v3 = w32 (v2 + 2) → G cd_X6_isSound Q X 34 [(0, (2, v0)), (1, (0, v1)), (2, (0, v2)), (3, (0, v3))] [] ε μ)) ∧ (t ≠ 0 → (m_ty [] [] ε μ → (0 = 0 ∨ 0 = 1) ∧ Q 0 ε μ))
  intro hty
  replace h := h hty.1 (hty.2.1 _ (List.mem_of_getElem? (i := 1) rfl)) (hty.2.1 _ (List.mem_of_getElem? (i := 2) rfl)) (hty.2.2 _ (List.mem_of_getElem? (i := 0) rfl))
  obtain ⟨ha, hb⟩ := h
  refine And.intro (fun c0 => ?_) (fun c0 => ?_)
  · replace h := ha c0
    clear ha hb
    intro _
    intro v3 e_v3
    replace h := h v3 e_v3
    exact h
  · replace h := hb c0
    clear ha hb
    intro _
    refine And.intro (Or.inl rfl) ?_
    exact h
set_option maxRecDepth 20000 in
theorem g_X6_isSound_17 {Q X : m_Po} {v0 v1 v2 t : Int} {ε : m_E} {μ : m_M} (h : TY ε μ → i32 v1 → i32 v2 → i32 t → (t ≠ 0 → Q 0 ε μ) ∧ (t = 0 → o_X6_foldsBack [(2, v0), (0, v2)] ε μ (fun z ε_1 μ_1 => G cd_X6_isSound Q X 25 [(0, (2, v0)), (1, (0, v1)), (2, (0, v2))] [(0, z)] ε_1 μ_1) m_F)) : G cd_X6_isSound Q X 17 [(0, (2, v0)), (1, (0, v1)), (2, (0, v2))] [(0, t)] ε μ := by
  refine G_run (m_in [4, 7, 17, 25, 34, 55, 68, 73, 89, 97]) 26 _ _ _ _ ?_
  show m_ty [(0, (2, v0)), (1, (0, v1)), (2, (0, v2))] [(0, t)] ε μ → (t ≠ 0 → (m_ty [] [] ε μ → (0 = 0 ∨ 0 = 1) ∧ Q 0 ε μ)) ∧ (t = 0 → (m_ty [(0, (2, v0)), (1, (0, v1)), (2, (0, v2))] [] ε μ → o_X6_foldsBack [(2, v0), (0, v2)] ε μ (fun z ε_1 μ_1 => G cd_X6_isSound Q X 25 [(0, (2, v0)), (1, (0, v1)), (2, (0, v2))] [(0, z)] ε_1 μ_1) m_F))
  intro hty
  replace h := h hty.1 (hty.2.1 _ (List.mem_of_getElem? (i := 1) rfl)) (hty.2.1 _ (List.mem_of_getElem? (i := 2) rfl)) (hty.2.2 _ (List.mem_of_getElem? (i := 0) rfl))
  obtain ⟨ha, hb⟩ := h
  refine And.intro (fun c0 => ?_) (fun c0 => ?_)
  · replace h := ha c0
    clear ha hb
    intro _
    refine And.intro (Or.inl rfl) ?_
    exact h
  · replace h := hb c0
    clear ha hb
    intro _
    exact h
set_option maxRecDepth 20000 in
theorem g_X6_isSound_7 {Q X : m_Po} {v0 v1 v2 : Int} {ε : m_E} {μ : m_M} (h : TY ε μ → i32 v1 → i32 v2 → (v1 ≤ v2 → o_X6_twiceArea [(2, v0)] ε μ (fun z ε_1 μ_1 => G cd_X6_isSound Q X 89 [] [(0, z)] ε_1 μ_1) m_F) ∧ (v2 < v1 → o_X6_hasNoLength [(2, v0), (0, v2)] ε μ (fun z_1 ε_2 μ_2 => G cd_X6_isSound Q X 17 [(0, (2, v0)), (1, (0, v1)), (2, (0, v2))] [(0, z_1)] ε_2 μ_2) m_F)) : G cd_X6_isSound Q X 7 [(0, (2, v0)), (1, (0, v1)), (2, (0, v2))] [] ε μ := by
  refine G_run (m_in [4, 7, 17, 25, 34, 55, 68, 73, 89, 97]) 26 _ _ _ _ ?_
  show m_ty [(0, (2, v0)), (1, (0, v1)), (2, (0, v2))] [] ε μ → (v1 ≤ v2 → (m_ty [(0, (2, v0))] [] ε μ → o_X6_twiceArea [(2, v0)] ε μ (fun z ε_1 μ_1 => G cd_X6_isSound Q X 89 [] [(0, z)] ε_1 μ_1) m_F)) ∧ (v2 < v1 → (m_ty [(0, (2, v0)), (1, (0, v1)), (2, (0, v2))] [] ε μ → o_X6_hasNoLength [(2, v0), (0, v2)] ε μ (fun z_1 ε_2 μ_2 => G cd_X6_isSound Q X 17 [(0, (2, v0)), (1, (0, v1)), (2, (0, v2))] [(0, z_1)] ε_2 μ_2) m_F))
  intro hty
  replace h := h hty.1 (hty.2.1 _ (List.mem_of_getElem? (i := 1) rfl)) (hty.2.1 _ (List.mem_of_getElem? (i := 2) rfl))
  obtain ⟨ha, hb⟩ := h
  refine And.intro (fun c0 => ?_) (fun c0 => ?_)
  · replace h := ha c0
    clear ha hb
    intro _
    exact h
  · replace h := hb c0
    clear ha hb
    intro _
    exact h
set_option maxRecDepth 20000 in
theorem g_X6_isSound_4 {Q X : m_Po} {v0 t : Int} {ε : m_E} {μ : m_M} (h : TY ε μ → i32 t → ∀ v1 : Int, v1 = t → ∀ v2 : Int, v2 = 0 → G cd_X6_isSound Q X 7 [(0, (2, v0)), (1, (0, v1)), (2, (0, v2))] [] ε μ) : G cd_X6_isSound Q X 4 [(0, (2, v0))] [(0, t)] ε μ := by
  refine G_run (m_in [4, 7, 17, 25, 34, 55, 68, 73, 89, 97]) 26 _ _ _ _ ?_
  show m_ty [(0, (2, v0))] [(0, t)] ε μ → ∀ v1 : Int, v1 = t → ∀ v2 : Int, v2 = 0 → G cd_X6_isSound Q X 7 [(0, (2, v0)), (1, (0, v1)), (2, (0, v2))] [] ε μ
  intro hty
  replace h := h hty.1 (hty.2.2 _ (List.mem_of_getElem? (i := 0) rfl))
  intro v1 e_v1
  replace h := h v1 e_v1
  intro v2 e_v2
  replace h := h v2 e_v2
  exact h
set_option maxRecDepth 20000 in
theorem g_X6_isSound_0 {Q X : m_Po} {v0 : Int} {ε : m_E} {μ : m_M} (h : TY ε μ → o_X6_pointsOf [(2, v0)] ε μ (fun z ε_1 μ_1 => G cd_X6_isSound Q X 4 [(0, (2, v0))] [(0, z)] ε_1 μ_1) m_F) : G cd_X6_isSound Q X 0 [(0, (2, v0))] [] ε μ := by
  refine G_run (m_in [4, 7, 17, 25, 34, 55, 68, 73, 89, 97]) 26 _ _ _ _ ?_
  show m_ty [(0, (2, v0))] [] ε μ → o_X6_pointsOf [(2, v0)] ε μ (fun z ε_1 μ_1 => G cd_X6_isSound Q X 4 [(0, (2, v0))] [(0, z)] ε_1 μ_1) m_F
  intro hty
  replace h := h hty.1 
  exact h
theorem e_X6_isSound {Q X : m_Po} {v0 : Int} {ε : m_E} {μ : m_M} (h : TY ε μ → o_X6_pointsOf [(2, v0)] ε μ (fun z ε_1 μ_1 => G cd_X6_isSound Q X 4 [(0, (2, v0))] [(0, z)] ε_1 μ_1) m_F) : o_X6_isSound [(2, v0)] ε μ Q X := And.intro rfl (g_X6_isSound_0 h)
/-! ArchYard$Shape.momentOfX([I)I -/
set_option maxRecDepth 20000 in
theorem g_X6_momentOfX_37 {Q X : m_Po} {v0 v1 v2 : Int} {ε : m_E} {μ : m_M} (h : TY ε μ → i32 v1 → i32 v2 → G cd_X6_momentOfX Q X 4 [(0, (2, v0)), (1, (0, v1)), (2, (0, v2))] [] ε μ) : G cd_X6_momentOfX Q X 37 [(0, (2, v0)), (1, (0, v1)), (2, (0, v2))] [] ε μ := by
  refine G_run (m_in [4, 9, 18, 25, 31, 37]) 10 _ _ _ _ ?_
  show m_ty [(0, (2, v0)), (1, (0, v1)), (2, (0, v2))] [] ε μ → G cd_X6_momentOfX Q X 4 [(0, (2, v0)), (1, (0, v1)), (2, (0, v2))] [] ε μ
  intro hty
  replace h := h hty.1 (hty.2.1 _ (List.mem_of_getElem? (i := 1) rfl)) (hty.2.1 _ (List.mem_of_getElem? (i := 2) rfl))
  exact h
set_option maxRecDepth 20000 in
theorem g_X6_momentOfX_31 {Q X : m_Po} {v0 v2 t t_1 t_2 : Int} {ε : m_E} {μ : m_M} (h : TY ε μ → i32 v2 → i32 t → i32 t_1 → i32 t_2 → ∀ v1 : Int, v1 = w32 (t + (w32 (t_1 * t_2))) → ∀ v2_1 : Int, v2_1 = w32 (v2 + 1) → G cd_X6_momentOfX Q X 4 [(0, (2, v0)), (1, (0, v1)), (2, (0, v2_1))] [] ε μ) : G cd_X6_momentOfX Q X 31 [(0, (2, v0)), (2, (0, v2))] [(0, t_2), (0, t_1), (0, t)] ε μ := by
  refine G_run (m_in [4, 9, 18, 25, 31, 37]) 10 _ _ _ _ ?_
  show m_ty [(0, (2, v0)), (2, (0, v2))] [(0, t_2), (0, t_1), (0, t)] ε μ → ∀ v1 : Int, v1 = w32 (t + (w32 (t_1 * t_2))) → ∀ v2_1 : Int, v2_1 = w32 (v2 + 1) → G cd_X6_momentOfX Q X 37 [(0, (2, v0)), (1, (0, v1)), (2, (0, v2_1))] [] ε μ
  intro hty
  replace h := h hty.1 (hty.2.1 _ (List.mem_of_getElem? (i := 1) rfl)) (hty.2.2 _ (List.mem_of_getElem? (i := 2) rfl)) (hty.2.2 _ (List.mem_of_getElem? (i := 1) rfl)) (hty.2.2 _ (List.mem_of_getElem? (i := 0) rfl))
  intro v1 e_v1
  replace h := h v1 e_v1
  intro v2_1 e_v2_1
  replace h := h v2_1 e_v2_1
  exact g_X6_momentOfX_37 (fun _ _ _ => h)
set_option maxRecDepth 20000 in
theorem g_X6_momentOfX_25 {Q X : m_Po} {v0 v2 t t_1 t_2 : Int} {ε : m_E} {μ : m_M} (h : TY ε μ → i32 v2 → i32 t → i32 t_1 → i32 t_2 → o_X6_turnAt [(2, v0), (0, v2)] ε μ (fun z ε_1 μ_1 => G cd_X6_momentOfX Q X 31 [(0, (2, v0)), (2, (0, v2))] [(0, z), (0, w32 (t_1 + t_2)), (0, t)] ε_1 μ_1) m_F) : G cd_X6_momentOfX Q X 25 [(0, (2, v0)), (2, (0, v2))] [(0, t_2), (0, t_1), (0, t)] ε μ := by
  refine G_run (m_in [4, 9, 18, 25, 31, 37]) 10 _ _ _ _ ?_
  show m_ty [(0, (2, v0)), (2, (0, v2))] [(0, t_2), (0, t_1), (0, t)] ε μ → o_X6_turnAt [(2, v0), (0, v2)] ε μ (fun z ε_1 μ_1 => G cd_X6_momentOfX Q X 31 [(0, (2, v0)), (2, (0, v2))] [(0, z), (0, w32 (t_1 + t_2)), (0, t)] ε_1 μ_1) m_F
  intro hty
  replace h := h hty.1 (hty.2.1 _ (List.mem_of_getElem? (i := 1) rfl)) (hty.2.2 _ (List.mem_of_getElem? (i := 2) rfl)) (hty.2.2 _ (List.mem_of_getElem? (i := 1) rfl)) (hty.2.2 _ (List.mem_of_getElem? (i := 0) rfl))
  exact h
set_option maxRecDepth 20000 in
theorem g_X6_momentOfX_18 {Q X : m_Po} {v0 v2 t t_1 : Int} {ε : m_E} {μ : m_M} (h : TY ε μ → i32 v2 → i32 t → i32 t_1 → o_X6_xOf [(2, v0), (0, w32 (v2 + 1))] ε μ (fun z ε_1 μ_1 => G cd_X6_momentOfX Q X 25 [(0, (2, v0)), (2, (0, v2))] [(0, z), (0, t_1), (0, t)] ε_1 μ_1) m_F) : G cd_X6_momentOfX Q X 18 [(0, (2, v0)), (2, (0, v2))] [(0, t_1), (0, t)] ε μ := by
  refine G_run (m_in [4, 9, 18, 25, 31, 37]) 10 _ _ _ _ ?_
  show m_ty [(0, (2, v0)), (2, (0, v2))] [(0, t_1), (0, t)] ε μ → o_X6_xOf [(2, v0), (0, w32 (v2 + 1))] ε μ (fun z ε_1 μ_1 => G cd_X6_momentOfX Q X 25 [(0, (2, v0)), (2, (0, v2))] [(0, z), (0, t_1), (0, t)] ε_1 μ_1) m_F
  intro hty
  replace h := h hty.1 (hty.2.1 _ (List.mem_of_getElem? (i := 1) rfl)) (hty.2.2 _ (List.mem_of_getElem? (i := 1) rfl)) (hty.2.2 _ (List.mem_of_getElem? (i := 0) rfl))
  exact h
set_option maxRecDepth 20000 in
theorem g_X6_momentOfX_9 {Q X : m_Po} {v0 v1 v2 t t_1 : Int} {ε : m_E} {μ : m_M} (h : TY ε μ → i32 v1 → i32 v2 → i32 t → i32 t_1 → (t_1 ≤ t → Q v1 ε μ) ∧ (t < t_1 → o_X6_xOf [(2, v0), (0, v2)] ε μ (fun z ε_1 μ_1 => G cd_X6_momentOfX Q X 18 [(0, (2, v0)), (2, (0, v2))] [(0, z), (0, v1)] ε_1 μ_1) m_F)) : G cd_X6_momentOfX Q X 9 [(0, (2, v0)), (1, (0, v1)), (2, (0, v2))] [(0, t_1), (0, t)] ε μ := by
  refine G_run (m_in [4, 9, 18, 25, 31, 37]) 10 _ _ _ _ ?_
  show m_ty [(0, (2, v0)), (1, (0, v1)), (2, (0, v2))] [(0, t_1), (0, t)] ε μ → (t_1 ≤ t → (m_ty [(1, (0, v1))] [] ε μ → Q v1 ε μ)) ∧ (t < t_1 → (m_ty [(0, (2, v0)), (1, (0, v1)), (2, (0, v2))] [] ε μ → o_X6_xOf [(2, v0), (0, v2)] ε μ (fun z ε_1 μ_1 => G cd_X6_momentOfX Q X 18 [(0, (2, v0)), (2, (0, v2))] [(0, z), (0, v1)] ε_1 μ_1) m_F))
  intro hty
  replace h := h hty.1 (hty.2.1 _ (List.mem_of_getElem? (i := 1) rfl)) (hty.2.1 _ (List.mem_of_getElem? (i := 2) rfl)) (hty.2.2 _ (List.mem_of_getElem? (i := 1) rfl)) (hty.2.2 _ (List.mem_of_getElem? (i := 0) rfl))
  obtain ⟨ha, hb⟩ := h
  refine And.intro (fun c0 => ?_) (fun c0 => ?_)
  · replace h := ha c0
    clear ha hb
    intro _
    exact h
  · replace h := hb c0
    clear ha hb
    intro _
    exact h
set_option maxRecDepth 20000 in
theorem g_X6_momentOfX_4 {Q X : m_Po} {v0 v1 v2 : Int} {ε : m_E} {μ : m_M} (h : TY ε μ → i32 v1 → i32 v2 → o_X6_pointsOf [(2, v0)] ε μ (fun z ε_1 μ_1 => G cd_X6_momentOfX Q X 9 [(0, (2, v0)), (1, (0, v1)), (2, (0, v2))] [(0, z), (0, v2)] ε_1 μ_1) m_F) : G cd_X6_momentOfX Q X 4 [(0, (2, v0)), (1, (0, v1)), (2, (0, v2))] [] ε μ := by
  refine G_run (m_in [4, 9, 18, 25, 31, 37]) 10 _ _ _ _ ?_
  show m_ty [(0, (2, v0)), (1, (0, v1)), (2, (0, v2))] [] ε μ → o_X6_pointsOf [(2, v0)] ε μ (fun z ε_1 μ_1 => G cd_X6_momentOfX Q X 9 [(0, (2, v0)), (1, (0, v1)), (2, (0, v2))] [(0, z), (0, v2)] ε_1 μ_1) m_F
  intro hty
  replace h := h hty.1 (hty.2.1 _ (List.mem_of_getElem? (i := 1) rfl)) (hty.2.1 _ (List.mem_of_getElem? (i := 2) rfl))
  exact h
set_option maxRecDepth 20000 in
theorem g_X6_momentOfX_0 {Q X : m_Po} {v0 : Int} {ε : m_E} {μ : m_M} (h : TY ε μ → ∀ v1 : Int, v1 = 0 → ∀ v2 : Int, v2 = 0 → G cd_X6_momentOfX Q X 4 [(0, (2, v0)), (1, (0, v1)), (2, (0, v2))] [] ε μ) : G cd_X6_momentOfX Q X 0 [(0, (2, v0))] [] ε μ := by
  refine G_run (m_in [4, 9, 18, 25, 31, 37]) 10 _ _ _ _ ?_
  show m_ty [(0, (2, v0))] [] ε μ → ∀ v1 : Int, v1 = 0 → ∀ v2 : Int, v2 = 0 → G cd_X6_momentOfX Q X 4 [(0, (2, v0)), (1, (0, v1)), (2, (0, v2))] [] ε μ
  intro hty
  replace h := h hty.1 
  intro v1 e_v1
  replace h := h v1 e_v1
  intro v2 e_v2
  replace h := h v2 e_v2
  exact h
theorem e_X6_momentOfX {Q X : m_Po} {v0 : Int} {ε : m_E} {μ : m_M} (h : TY ε μ → ∀ v1 : Int, v1 = 0 → ∀ v2 : Int, v2 = 0 → G cd_X6_momentOfX Q X 4 [(0, (2, v0)), (1, (0, v1)), (2, (0, v2))] [] ε μ) : o_X6_momentOfX [(2, v0)] ε μ Q X := And.intro rfl (g_X6_momentOfX_0 h)
/-! ArchYard$Shape.momentOfY([I)I -/
set_option maxRecDepth 20000 in
theorem g_X6_momentOfY_37 {Q X : m_Po} {v0 v1 v2 : Int} {ε : m_E} {μ : m_M} (h : TY ε μ → i32 v1 → i32 v2 → G cd_X6_momentOfY Q X 4 [(0, (2, v0)), (1, (0, v1)), (2, (0, v2))] [] ε μ) : G cd_X6_momentOfY Q X 37 [(0, (2, v0)), (1, (0, v1)), (2, (0, v2))] [] ε μ := by
  refine G_run (m_in [4, 9, 18, 25, 31, 37]) 10 _ _ _ _ ?_
  show m_ty [(0, (2, v0)), (1, (0, v1)), (2, (0, v2))] [] ε μ → G cd_X6_momentOfY Q X 4 [(0, (2, v0)), (1, (0, v1)), (2, (0, v2))] [] ε μ
  intro hty
  replace h := h hty.1 (hty.2.1 _ (List.mem_of_getElem? (i := 1) rfl)) (hty.2.1 _ (List.mem_of_getElem? (i := 2) rfl))
  exact h
set_option maxRecDepth 20000 in
theorem g_X6_momentOfY_31 {Q X : m_Po} {v0 v2 t t_1 t_2 : Int} {ε : m_E} {μ : m_M} (h : TY ε μ → i32 v2 → i32 t → i32 t_1 → i32 t_2 → ∀ v1 : Int, v1 = w32 (t + (w32 (t_1 * t_2))) → ∀ v2_1 : Int, v2_1 = w32 (v2 + 1) → G cd_X6_momentOfY Q X 4 [(0, (2, v0)), (1, (0, v1)), (2, (0, v2_1))] [] ε μ) : G cd_X6_momentOfY Q X 31 [(0, (2, v0)), (2, (0, v2))] [(0, t_2), (0, t_1), (0, t)] ε μ := by
  refine G_run (m_in [4, 9, 18, 25, 31, 37]) 10 _ _ _ _ ?_
  show m_ty [(0, (2, v0)), (2, (0, v2))] [(0, t_2), (0, t_1), (0, t)] ε μ → ∀ v1 : Int, v1 = w32 (t + (w32 (t_1 * t_2))) → ∀ v2_1 : Int, v2_1 = w32 (v2 + 1) → G cd_X6_momentOfY Q X 37 [(0, (2, v0)), (1, (0, v1)), (2, (0, v2_1))] [] ε μ
  intro hty
  replace h := h hty.1 (hty.2.1 _ (List.mem_of_getElem? (i := 1) rfl)) (hty.2.2 _ (List.mem_of_getElem? (i := 2) rfl)) (hty.2.2 _ (List.mem_of_getElem? (i := 1) rfl)) (hty.2.2 _ (List.mem_of_getElem? (i := 0) rfl))
  intro v1 e_v1
  replace h := h v1 e_v1
  intro v2_1 e_v2_1
  replace h := h v2_1 e_v2_1
  exact g_X6_momentOfY_37 (fun _ _ _ => h)
set_option maxRecDepth 20000 in
theorem g_X6_momentOfY_25 {Q X : m_Po} {v0 v2 t t_1 t_2 : Int} {ε : m_E} {μ : m_M} (h : TY ε μ → i32 v2 → i32 t → i32 t_1 → i32 t_2 → o_X6_turnAt [(2, v0), (0, v2)] ε μ (fun z ε_1 μ_1 => G cd_X6_momentOfY Q X 31 [(0, (2, v0)), (2, (0, v2))] [(0, z), (0, w32 (t_1 + t_2)), (0, t)] ε_1 μ_1) m_F) : G cd_X6_momentOfY Q X 25 [(0, (2, v0)), (2, (0, v2))] [(0, t_2), (0, t_1), (0, t)] ε μ := by
  refine G_run (m_in [4, 9, 18, 25, 31, 37]) 10 _ _ _ _ ?_
  show m_ty [(0, (2, v0)), (2, (0, v2))] [(0, t_2), (0, t_1), (0, t)] ε μ → o_X6_turnAt [(2, v0), (0, v2)] ε μ (fun z ε_1 μ_1 => G cd_X6_momentOfY Q X 31 [(0, (2, v0)), (2, (0, v2))] [(0, z), (0, w32 (t_1 + t_2)), (0, t)] ε_1 μ_1) m_F
  intro hty
  replace h := h hty.1 (hty.2.1 _ (List.mem_of_getElem? (i := 1) rfl)) (hty.2.2 _ (List.mem_of_getElem? (i := 2) rfl)) (hty.2.2 _ (List.mem_of_getElem? (i := 1) rfl)) (hty.2.2 _ (List.mem_of_getElem? (i := 0) rfl))
  exact h
set_option maxRecDepth 20000 in
theorem g_X6_momentOfY_18 {Q X : m_Po} {v0 v2 t t_1 : Int} {ε : m_E} {μ : m_M} (h : TY ε μ → i32 v2 → i32 t → i32 t_1 → o_X6_yOf [(2, v0), (0, w32 (v2 + 1))] ε μ (fun z ε_1 μ_1 => G cd_X6_momentOfY Q X 25 [(0, (2, v0)), (2, (0, v2))] [(0, z), (0, t_1), (0, t)] ε_1 μ_1) m_F) : G cd_X6_momentOfY Q X 18 [(0, (2, v0)), (2, (0, v2))] [(0, t_1), (0, t)] ε μ := by
  refine G_run (m_in [4, 9, 18, 25, 31, 37]) 10 _ _ _ _ ?_
  show m_ty [(0, (2, v0)), (2, (0, v2))] [(0, t_1), (0, t)] ε μ → o_X6_yOf [(2, v0), (0, w32 (v2 + 1))] ε μ (fun z ε_1 μ_1 => G cd_X6_momentOfY Q X 25 [(0, (2, v0)), (2, (0, v2))] [(0, z), (0, t_1), (0, t)] ε_1 μ_1) m_F
  intro hty
  replace h := h hty.1 (hty.2.1 _ (List.mem_of_getElem? (i := 1) rfl)) (hty.2.2 _ (List.mem_of_getElem? (i := 1) rfl)) (hty.2.2 _ (List.mem_of_getElem? (i := 0) rfl))
  exact h
set_option maxRecDepth 20000 in
theorem g_X6_momentOfY_9 {Q X : m_Po} {v0 v1 v2 t t_1 : Int} {ε : m_E} {μ : m_M} (h : TY ε μ → i32 v1 → i32 v2 → i32 t → i32 t_1 → (t_1 ≤ t → Q v1 ε μ) ∧ (t < t_1 → o_X6_yOf [(2, v0), (0, v2)] ε μ (fun z ε_1 μ_1 => G cd_X6_momentOfY Q X 18 [(0, (2, v0)), (2, (0, v2))] [(0, z), (0, v1)] ε_1 μ_1) m_F)) : G cd_X6_momentOfY Q X 9 [(0, (2, v0)), (1, (0, v1)), (2, (0, v2))] [(0, t_1), (0, t)] ε μ := by
  refine G_run (m_in [4, 9, 18, 25, 31, 37]) 10 _ _ _ _ ?_
  show m_ty [(0, (2, v0)), (1, (0, v1)), (2, (0, v2))] [(0, t_1), (0, t)] ε μ → (t_1 ≤ t → (m_ty [(1, (0, v1))] [] ε μ → Q v1 ε μ)) ∧ (t < t_1 → (m_ty [(0, (2, v0)), (1, (0, v1)), (2, (0, v2))] [] ε μ → o_X6_yOf [(2, v0), (0, v2)] ε μ (fun z ε_1 μ_1 => G cd_X6_momentOfY Q X 18 [(0, (2, v0)), (2, (0, v2))] [(0, z), (0, v1)] ε_1 μ_1) m_F))
  intro hty
  replace h := h hty.1 (hty.2.1 _ (List.mem_of_getElem? (i := 1) rfl)) (hty.2.1 _ (List.mem_of_getElem? (i := 2) rfl)) (hty.2.2 _ (List.mem_of_getElem? (i := 1) rfl)) (hty.2.2 _ (List.mem_of_getElem? (i := 0) rfl))
  obtain ⟨ha, hb⟩ := h
  refine And.intro (fun c0 => ?_) (fun c0 => ?_)
  · replace h := ha c0
    clear ha hb
    intro _
    exact h
  · replace h := hb c0
    clear ha hb
    intro _
    exact h
set_option maxRecDepth 20000 in
theorem g_X6_momentOfY_4 {Q X : m_Po} {v0 v1 v2 : Int} {ε : m_E} {μ : m_M} (h : TY ε μ → i32 v1 → i32 v2 → o_X6_pointsOf [(2, v0)] ε μ (fun z ε_1 μ_1 => G cd_X6_momentOfY Q X 9 [(0, (2, v0)), (1, (0, v1)), (2, (0, v2))] [(0, z), (0, v2)] ε_1 μ_1) m_F) : G cd_X6_momentOfY Q X 4 [(0, (2, v0)), (1, (0, v1)), (2, (0, v2))] [] ε μ := by
  refine G_run (m_in [4, 9, 18, 25, 31, 37]) 10 _ _ _ _ ?_
  show m_ty [(0, (2, v0)), (1, (0, v1)), (2, (0, v2))] [] ε μ → o_X6_pointsOf [(2, v0)] ε μ (fun z ε_1 μ_1 => G cd_X6_momentOfY Q X 9 [(0, (2, v0)), (1, (0, v1)), (2, (0, v2))] [(0, z), (0, v2)] ε_1 μ_1) m_F
  intro hty
  replace h := h hty.1 (hty.2.1 _ (List.mem_of_getElem? (i := 1) rfl)) (hty.2.1 _ (List.mem_of_getElem? (i := 2) rfl))
  exact h
set_option maxRecDepth 20000 in
theorem g_X6_momentOfY_0 {Q X : m_Po} {v0 : Int} {ε : m_E} {μ : m_M} (h : TY ε μ → ∀ v1 : Int, v1 = 0 → ∀ v2 : Int, v2 = 0 → G cd_X6_momentOfY Q X 4 [(0, (2, v0)), (1, (0, v1)), (2, (0, v2))] [] ε μ) : G cd_X6_momentOfY Q X 0 [(0, (2, v0))] [] ε μ := by
  refine G_run (m_in [4, 9, 18, 25, 31, 37]) 10 _ _ _ _ ?_
  show m_ty [(0, (2, v0))] [] ε μ → ∀ v1 : Int, v1 = 0 → ∀ v2 : Int, v2 = 0 → G cd_X6_momentOfY Q X 4 [(0, (2, v0)), (1, (0, v1)), (2, (0, v2))] [] ε μ
  intro hty
  replace h := h hty.1 
  intro v1 e_v1
  replace h := h v1 e_v1
  intro v2 e_v2
  replace h := h v2 e_v2
  exact h
theorem e_X6_momentOfY {Q X : m_Po} {v0 : Int} {ε : m_E} {μ : m_M} (h : TY ε μ → ∀ v1 : Int, v1 = 0 → ∀ v2 : Int, v2 = 0 → G cd_X6_momentOfY Q X 4 [(0, (2, v0)), (1, (0, v1)), (2, (0, v2))] [] ε μ) : o_X6_momentOfY [(2, v0)] ε μ Q X := And.intro rfl (g_X6_momentOfY_0 h)
/-! ArchYard$Stone.densityOf(I)F -/
set_option maxRecDepth 20000 in
theorem g_X7_densityOf_0 {Q X : m_Po} {v0 : Int} {ε : m_E} {μ : m_M} (h : TY ε μ → i32 v0 → (v0 = 1 → Q 1076887552 ε μ) ∧ (v0 = 2 → Q 1075838976 ε μ) ∧ (v0 = 3 → Q 1070596096 ε μ) ∧ (v0 = 4 → Q 1070596096 ε μ) ∧ (v0 < 1 ∨ 4 < v0 → Q 1075838976 ε μ)) : G cd_X7_densityOf Q X 0 [(0, (0, v0))] [] ε μ := by
  refine G_run (m_in []) 5 _ _ _ _ ?_
  show m_ty [(0, (0, v0))] [] ε μ → ((v0 = 1 → (m_ty [] [] ε μ → Q 1076887552 ε μ)) ∧ (v0 = 2 → (m_ty [] [] ε μ → Q 1075838976 ε μ)) ∧ (v0 = 3 → (m_ty [] [] ε μ → Q 1070596096 ε μ)) ∧ (v0 = 4 → (m_ty [] [] ε μ → Q 1070596096 ε μ)) ∧ True) ∧ (v0 < 1 ∨ 4 < v0 → (m_ty [] [] ε μ → Q 1075838976 ε μ))
  intro hty
  replace h := h hty.1 (hty.2.1 _ (List.mem_of_getElem? (i := 0) rfl))
  obtain ⟨h0, h1, h2, h3, h4⟩ := h
  refine And.intro (And.intro (fun c0 => ?_) (And.intro (fun c1 => ?_) (And.intro (fun c2 => ?_) (And.intro (fun c3 => ?_) trivial)))) (fun c4 => ?_)
  · replace h := h0 c0
    intro _
    exact h
  · replace h := h1 c1
    intro _
    exact h
  · replace h := h2 c2
    intro _
    exact h
  · replace h := h3 c3
    intro _
    exact h
  · replace h := h4 c4
    intro _
    exact h
theorem e_X7_densityOf {Q X : m_Po} {v0 : Int} {ε : m_E} {μ : m_M} (h : TY ε μ → i32 v0 → (v0 = 1 → Q 1076887552 ε μ) ∧ (v0 = 2 → Q 1075838976 ε μ) ∧ (v0 = 3 → Q 1070596096 ε μ) ∧ (v0 = 4 → Q 1070596096 ε μ) ∧ (v0 < 1 ∨ 4 < v0 → Q 1075838976 ε μ)) : o_X7_densityOf [(0, v0)] ε μ Q X := And.intro rfl (g_X7_densityOf_0 h)
/-! ArchYard$Stone.weightOf(III)I -/
set_option maxRecDepth 20000 in
theorem g_X7_weightOf_6 {Q X : m_Po} {v1 t t_1 : Int} {ε : m_E} {μ : m_M} (h : TY ε μ → i32 v1 → vf_n32 (FP.fmul (UInt32.ofNat (Int.toNat t)) (UInt32.ofNat (Int.toNat t_1))) ∧ ∀ v3 : Int, v3 = o_f2i (o_fmul t t_1) → Q (w32 (v3 - (w32 (Int.tdiv (w32 (v3 * v1)) 100)))) ε μ) : G cd_X7_weightOf Q X 6 [(1, (0, v1))] [(3, t_1), (3, t)] ε μ := by
  refine G_run (m_in [6]) 3 _ _ _ _ ?_
  show m_ty [(1, (0, v1))] [(3, t_1), (3, t)] ε μ → (vf_n32 (FP.fmul (UInt32.ofNat (Int.toNat t)) (UInt32.ofNat (Int.toNat t_1)))) ∧ ∀ v3 : Int, v3 = o_f2i (o_fmul t t_1) → (100 : Int) ≠ 0 ∧ Q (w32 (v3 - (w32 (Int.tdiv (w32 (v3 * v1)) 100)))) ε μ
  intro hty
  replace h := h hty.1 (hty.2.1 _ (List.mem_of_getElem? (i := 0) rfl))
  obtain ⟨k1, h⟩ := h
  refine And.intro k1 ?_
  intro v3 e_v3
  replace h := h v3 e_v3
  refine And.intro (by decide) ?_
  exact h
set_option maxRecDepth 20000 in
theorem g_X7_weightOf_0 {Q X : m_Po} {v0 v1 v2 : Int} {ε : m_E} {μ : m_M} (h : TY ε μ → i32 v0 → i32 v1 → i32 v2 → o_X7_densityOf [(0, v0)] ε μ (fun z ε_1 μ_1 => G cd_X7_weightOf Q X 6 [(1, (0, v1))] [(3, z), (3, o_i2f v2)] ε_1 μ_1) m_F) : G cd_X7_weightOf Q X 0 [(0, (0, v0)), (1, (0, v1)), (2, (0, v2))] [] ε μ := by
  refine G_run (m_in [6]) 3 _ _ _ _ ?_
  show m_ty [(0, (0, v0)), (1, (0, v1)), (2, (0, v2))] [] ε μ → o_X7_densityOf [(0, v0)] ε μ (fun z ε_1 μ_1 => G cd_X7_weightOf Q X 6 [(1, (0, v1))] [(3, z), (3, o_i2f v2)] ε_1 μ_1) m_F
  intro hty
  replace h := h hty.1 (hty.2.1 _ (List.mem_of_getElem? (i := 0) rfl)) (hty.2.1 _ (List.mem_of_getElem? (i := 1) rfl)) (hty.2.1 _ (List.mem_of_getElem? (i := 2) rfl))
  exact h
theorem e_X7_weightOf {Q X : m_Po} {v0 v1 v2 : Int} {ε : m_E} {μ : m_M} (h : TY ε μ → i32 v0 → i32 v1 → i32 v2 → o_X7_densityOf [(0, v0)] ε μ (fun z ε_1 μ_1 => G cd_X7_weightOf Q X 6 [(1, (0, v1))] [(3, z), (3, o_i2f v2)] ε_1 μ_1) m_F) : o_X7_weightOf [(0, v0), (0, v1), (0, v2)] ε μ Q X := And.intro rfl (g_X7_weightOf_0 h)
/-! ArchYard$Stone.<init>(II[I)V -/
set_option maxRecDepth 20000 in
theorem g_X7_init_181 {Q X : m_Po} {t t_1 : Int} {ε : m_E} {μ : m_M} (h : TY ε μ → i32 t_1 → kd ε t = 6 ∧ ∀ ε_1 : m_E, ε_1 = efin ε t 4 t_1 → Q 0 ε_1 μ) : G cd_X7_init Q X 181 [] [(0, t_1), (2, t)] ε μ := by
  refine G_run (m_in [20, 36, 43, 49, 59, 68, 80, 99, 118, 137, 156, 181]) 24 _ _ _ _ ?_
  show m_ty [] [(0, t_1), (2, t)] ε μ → (kd ε t = 6) ∧ ∀ ε_1 : m_E, ε_1 = efin ε t 4 t_1 → Q 0 ε_1 μ
  intro hty
  replace h := h hty.1 (hty.2.2 _ (List.mem_of_getElem? (i := 0) rfl))
  obtain ⟨k1, h⟩ := h
  refine And.intro k1 ?_
  intro ε_1 e_ε_1
  replace h := h ε_1 e_ε_1
  exact h
set_option maxRecDepth 20000 in
theorem g_X7_init_156 {Q X : m_Po} {v0 v4 v6 t t_1 : Int} {ε : m_E} {μ : m_M} (h : TY ε μ → i32 v4 → i32 v6 → i32 t_1 → kd ε t = 6 ∧ ∀ ε_1 : m_E, ε_1 = efin ε t 8 t_1 → ((v6 ≠ 0 → v6 ≠ 0)) ∧ ∀ t_2 : Int, t_2 = (if v6 = 0 then 0 else w32 (w64 (Int.tdiv (w64 (10 * v4)) v6))) → kd ε_1 v0 = 6 ∧ ∀ ε_2 : m_E, ε_2 = efin ε_1 v0 4 t_2 → Q 0 ε_2 μ) : G cd_X7_init Q X 156 [(0, (2, v0)), (4, (0, v4)), (6, (0, v6))] [(0, t_1), (2, t)] ε μ := by
  refine G_run (m_in [20, 36, 43, 49, 59, 68, 80, 99, 118, 137, 156, 181]) 24 _ _ _ _ ?_
  show m_ty [(0, (2, v0)), (4, (0, v4)), (6, (0, v6))] [(0, t_1), (2, t)] ε μ → (kd ε t = 6) ∧ ∀ ε_1 : m_E, ε_1 = efin ε t 8 t_1 → (v6 ≠ 0 → (m_ty [(4, (0, v4)), (6, (0, v6))] [(2, v0)] ε_1 μ → (v6 ≠ 0) ∧ G cd_X7_init Q X 181 [] [(0, w32 (w64 (Int.tdiv (w64 (10 * v4)) v6))), (2, v0)] ε_1 μ)) ∧ (v6 = 0 → (m_ty [] [(2, v0)] ε_1 μ → G cd_X7_init Q X 181 [] [(0, 0), (2, v0)] ε_1 μ))
  intro hty
  replace h := h hty.1 (hty.2.1 _ (List.mem_of_getElem? (i := 1) rfl)) (hty.2.1 _ (List.mem_of_getElem? (i := 2) rfl)) (hty.2.2 _ (List.mem_of_getElem? (i := 0) rfl))
  obtain ⟨k1, h⟩ := h
  refine And.intro k1 ?_
  intro ε_1 e_ε_1
  replace h := h ε_1 e_ε_1
  obtain ⟨hc, hj⟩ := h
  refine And.intro (fun c1 => ?_) (fun c1 => ?_)
  · replace hc := hc c1
    intro _
    have k3 := hc
    refine And.intro k3 ?_
    exact g_X7_init_181 (fun _ _ => (hj _ (((if_neg (c1)).trans rfl)).symm))
  · intro _
    exact g_X7_init_181 (fun _ _ => (hj _ (((if_pos c1).trans rfl)).symm))
set_option maxRecDepth 20000 in
theorem g_X7_init_137 {Q X : m_Po} {v0 v4 v6 v8 t t_1 : Int} {ε : m_E} {μ : m_M} (h : TY ε μ → i32 v4 → i32 v6 → i32 v8 → i32 t_1 → kd ε t = 6 ∧ ∀ ε_1 : m_E, ε_1 = efin ε t 7 t_1 → ((v8 ≠ 0 → v8 ≠ 0)) ∧ ∀ t_2 : Int, t_2 = (if v8 = 0 then v6 else w32 (Int.tdiv v6 v8)) → kd ε_1 v0 = 6 ∧ ∀ ε_2 : m_E, ε_2 = efin ε_1 v0 8 t_2 → ((v6 ≠ 0 → v6 ≠ 0)) ∧ ∀ t_3 : Int, t_3 = (if v6 = 0 then 0 else w32 (w64 (Int.tdiv (w64 (10 * v4)) v6))) → kd ε_2 v0 = 6 ∧ ∀ ε_3 : m_E, ε_3 = efin ε_2 v0 4 t_3 → Q 0 ε_3 μ) : G cd_X7_init Q X 137 [(0, (2, v0)), (4, (0, v4)), (6, (0, v6)), (8, (0, v8))] [(0, t_1), (2, t)] ε μ := by
  refine G_run (m_in [20, 36, 43, 49, 59, 68, 80, 99, 118, 137, 156, 181]) 24 _ _ _ _ ?_
  show m_ty [(0, (2, v0)), (4, (0, v4)), (6, (0, v6)), (8, (0, v8))] [(0, t_1), (2, t)] ε μ → (kd ε t = 6) ∧ ∀ ε_1 : m_E, ε_1 = efin ε t 7 t_1 → (v8 ≠ 0 → (m_ty [(0, (2, v0)), (4, (0, v4)), (6, (0, v6)), (8, (0, v8))] [(2, v0)] ε_1 μ → (v8 ≠ 0) ∧ G cd_X7_init Q X 156 [(0, (2, v0)), (4, (0, v4)), (6, (0, v6))] [(0, w32 (Int.tdiv v6 v8)), (2, v0)] ε_1 μ)) ∧ (v8 = 0 → (m_ty [(0, (2, v0)), (4, (0, v4)), (6, (0, v6))] [(2, v0)] ε_1 μ → G cd_X7_init Q X 156 [(0, (2, v0)), (4, (0, v4)), (6, (0, v6))] [(0, v6), (2, v0)] ε_1 μ))
  intro hty
  replace h := h hty.1 (hty.2.1 _ (List.mem_of_getElem? (i := 1) rfl)) (hty.2.1 _ (List.mem_of_getElem? (i := 2) rfl)) (hty.2.1 _ (List.mem_of_getElem? (i := 3) rfl)) (hty.2.2 _ (List.mem_of_getElem? (i := 0) rfl))
  obtain ⟨k1, h⟩ := h
  refine And.intro k1 ?_
  intro ε_1 e_ε_1
  replace h := h ε_1 e_ε_1
  obtain ⟨hc, hj⟩ := h
  refine And.intro (fun c1 => ?_) (fun c1 => ?_)
  · replace hc := hc c1
    intro _
    have k3 := hc
    refine And.intro k3 ?_
    exact g_X7_init_156 (fun _ _ _ _ => (hj _ (((if_neg (c1)).trans rfl)).symm))
  · intro _
    exact g_X7_init_156 (fun _ _ _ _ => (hj _ (((if_pos c1).trans rfl)).symm))
set_option maxRecDepth 20000 in
theorem g_X7_init_118 {Q X : m_Po} {v0 v4 v5 v6 v8 t t_1 : Int} {ε : m_E} {μ : m_M} (h : TY ε μ → i32 v4 → i32 v5 → i32 v6 → i32 v8 → i32 t_1 → kd ε t = 6 ∧ ∀ ε_1 : m_E, ε_1 = efin ε t 6 t_1 → ((v8 ≠ 0 → v8 ≠ 0)) ∧ ∀ t_2 : Int, t_2 = (if v8 = 0 then v5 else w32 (Int.tdiv v5 v8)) → kd ε_1 v0 = 6 ∧ ∀ ε_2 : m_E, ε_2 = efin ε_1 v0 7 t_2 → ((v8 ≠ 0 → v8 ≠ 0)) ∧ ∀ t_3 : Int, t_3 = (if v8 = 0 then v6 else w32 (Int.tdiv v6 v8)) → kd ε_2 v0 = 6 ∧ ∀ ε_3 : m_E, ε_3 = efin ε_2 v0 8 t_3 → ((v6 ≠ 0 → v6 ≠ 0)) ∧ ∀ t_4 : Int, t_4 = (if v6 = 0 then 0 else w32 (w64 (Int.tdiv (w64 (10 * v4)) v6))) → kd ε_3 v0 = 6 ∧ ∀ ε_4 : m_E, ε_4 = efin ε_3 v0 4 t_4 → Q 0 ε_4 μ) : G cd_X7_init Q X 118 [(0, (2, v0)), (4, (0, v4)), (5, (0, v5)), (6, (0, v6)), (8, (0, v8))] [(0, t_1), (2, t)] ε μ := by
  refine G_run (m_in [20, 36, 43, 49, 59, 68, 80, 99, 118, 137, 156, 181]) 24 _ _ _ _ ?_
  show m_ty [(0, (2, v0)), (4, (0, v4)), (5, (0, v5)), (6, (0, v6)), (8, (0, v8))] [(0, t_1), (2, t)] ε μ → (kd ε t = 6) ∧ ∀ ε_1 : m_E, ε_1 = efin ε t 6 t_1 → (v8 ≠ 0 → (m_ty [(0, (2, v0)), (4, (0, v4)), (5, (0, v5)), (6, (0, v6)), (8, (0, v8))] [(2, v0)] ε_1 μ → (v8 ≠ 0) ∧ G cd_X7_init Q X 137 [(0, (2, v0)), (4, (0, v4)), (6, (0, v6)), (8, (0, v8))] [(0, w32 (Int.tdiv v5 v8)), (2, v0)] ε_1 μ)) ∧ (v8 = 0 → (m_ty [(0, (2, v0)), (4, (0, v4)), (5, (0, v5)), (6, (0, v6)), (8, (0, v8))] [(2, v0)] ε_1 μ → G cd_X7_init Q X 137 [(0, (2, v0)), (4, (0, v4)), (6, (0, v6)), (8, (0, v8))] [(0, v5), (2, v0)] ε_1 μ))
  intro hty
  replace h := h hty.1 (hty.2.1 _ (List.mem_of_getElem? (i := 1) rfl)) (hty.2.1 _ (List.mem_of_getElem? (i := 2) rfl)) (hty.2.1 _ (List.mem_of_getElem? (i := 3) rfl)) (hty.2.1 _ (List.mem_of_getElem? (i := 4) rfl)) (hty.2.2 _ (List.mem_of_getElem? (i := 0) rfl))
  obtain ⟨k1, h⟩ := h
  refine And.intro k1 ?_
  intro ε_1 e_ε_1
  replace h := h ε_1 e_ε_1
  obtain ⟨hc, hj⟩ := h
  refine And.intro (fun c1 => ?_) (fun c1 => ?_)
  · replace hc := hc c1
    intro _
    have k3 := hc
    refine And.intro k3 ?_
    exact g_X7_init_137 (fun _ _ _ _ _ => (hj _ (((if_neg (c1)).trans rfl)).symm))
  · intro _
    exact g_X7_init_137 (fun _ _ _ _ _ => (hj _ (((if_pos c1).trans rfl)).symm))
set_option maxRecDepth 20000 in
theorem g_X7_init_99 {Q X : m_Po} {v0 v4 v5 v6 v7 v8 t t_1 : Int} {ε : m_E} {μ : m_M} (h : TY ε μ → i32 v4 → i32 v5 → i32 v6 → i32 v7 → i32 v8 → i32 t_1 → kd ε t = 6 ∧ ∀ ε_1 : m_E, ε_1 = efin ε t 5 t_1 → ((v7 ≠ 0 → v7 ≠ 0)) ∧ ∀ t_2 : Int, t_2 = (if v7 = 0 then v6 else w32 (Int.tdiv v6 v7)) → kd ε_1 v0 = 6 ∧ ∀ ε_2 : m_E, ε_2 = efin ε_1 v0 6 t_2 → ((v8 ≠ 0 → v8 ≠ 0)) ∧ ∀ t_3 : Int, t_3 = (if v8 = 0 then v5 else w32 (Int.tdiv v5 v8)) → kd ε_2 v0 = 6 ∧ ∀ ε_3 : m_E, ε_3 = efin ε_2 v0 7 t_3 → ((v8 ≠ 0 → v8 ≠ 0)) ∧ ∀ t_4 : Int, t_4 = (if v8 = 0 then v6 else w32 (Int.tdiv v6 v8)) → kd ε_3 v0 = 6 ∧ ∀ ε_4 : m_E, ε_4 = efin ε_3 v0 8 t_4 → ((v6 ≠ 0 → v6 ≠ 0)) ∧ ∀ t_5 : Int, t_5 = (if v6 = 0 then 0 else w32 (w64 (Int.tdiv (w64 (10 * v4)) v6))) → kd ε_4 v0 = 6 ∧ ∀ ε_5 : m_E, ε_5 = efin ε_4 v0 4 t_5 → Q 0 ε_5 μ) : G cd_X7_init Q X 99 [(0, (2, v0)), (4, (0, v4)), (5, (0, v5)), (6, (0, v6)), (7, (0, v7)), (8, (0, v8))] [(0, t_1), (2, t)] ε μ := by
  refine G_run (m_in [20, 36, 43, 49, 59, 68, 80, 99, 118, 137, 156, 181]) 24 _ _ _ _ ?_
  show m_ty [(0, (2, v0)), (4, (0, v4)), (5, (0, v5)), (6, (0, v6)), (7, (0, v7)), (8, (0, v8))] [(0, t_1), (2, t)] ε μ → (kd ε t = 6) ∧ ∀ ε_1 : m_E, ε_1 = efin ε t 5 t_1 → (v7 ≠ 0 → (m_ty [(0, (2, v0)), (4, (0, v4)), (5, (0, v5)), (6, (0, v6)), (7, (0, v7)), (8, (0, v8))] [(2, v0)] ε_1 μ → (v7 ≠ 0) ∧ G cd_X7_init Q X 118 [(0, (2, v0)), (4, (0, v4)), (5, (0, v5)), (6, (0, v6)), (8, (0, v8))] [(0, w32 (Int.tdiv v6 v7)), (2, v0)] ε_1 μ)) ∧ (v7 = 0 → (m_ty [(0, (2, v0)), (4, (0, v4)), (5, (0, v5)), (6, (0, v6)), (8, (0, v8))] [(2, v0)] ε_1 μ → G cd_X7_init Q X 118 [(0, (2, v0)), (4, (0, v4)), (5, (0, v5)), (6, (0, v6)), (8, (0, v8))] [(0, v6), (2, v0)] ε_1 μ))
  intro hty
  replace h := h hty.1 (hty.2.1 _ (List.mem_of_getElem? (i := 1) rfl)) (hty.2.1 _ (List.mem_of_getElem? (i := 2) rfl)) (hty.2.1 _ (List.mem_of_getElem? (i := 3) rfl)) (hty.2.1 _ (List.mem_of_getElem? (i := 4) rfl)) (hty.2.1 _ (List.mem_of_getElem? (i := 5) rfl)) (hty.2.2 _ (List.mem_of_getElem? (i := 0) rfl))
  obtain ⟨k1, h⟩ := h
  refine And.intro k1 ?_
  intro ε_1 e_ε_1
  replace h := h ε_1 e_ε_1
  obtain ⟨hc, hj⟩ := h
  refine And.intro (fun c1 => ?_) (fun c1 => ?_)
  · replace hc := hc c1
    intro _
    have k3 := hc
    refine And.intro k3 ?_
    exact g_X7_init_118 (fun _ _ _ _ _ _ => (hj _ (((if_neg (c1)).trans rfl)).symm))
  · intro _
    exact g_X7_init_118 (fun _ _ _ _ _ _ => (hj _ (((if_pos c1).trans rfl)).symm))
set_option maxRecDepth 20000 in
theorem g_X7_init_80 {Q X : m_Po} {v0 v4 v5 v6 v7 t : Int} {ε : m_E} {μ : m_M} (h : TY ε μ → i32 v4 → i32 v5 → i32 v6 → i32 v7 → i64 t → ∀ v8 : Int, v8 = w32 t → ((v7 ≠ 0 → v7 ≠ 0)) ∧ ∀ t_1 : Int, t_1 = (if v7 = 0 then v4 else w32 (Int.tdiv v4 v7)) → kd ε v0 = 6 ∧ ∀ ε_1 : m_E, ε_1 = efin ε v0 5 t_1 → ((v7 ≠ 0 → v7 ≠ 0)) ∧ ∀ t_2 : Int, t_2 = (if v7 = 0 then v6 else w32 (Int.tdiv v6 v7)) → kd ε_1 v0 = 6 ∧ ∀ ε_2 : m_E, ε_2 = efin ε_1 v0 6 t_2 → ((v8 ≠ 0 → v8 ≠ 0)) ∧ ∀ t_3 : Int, t_3 = (if v8 = 0 then v5 else w32 (Int.tdiv v5 v8)) → kd ε_2 v0 = 6 ∧ ∀ ε_3 : m_E, ε_3 = efin ε_2 v0 7 t_3 → ((v8 ≠ 0 → v8 ≠ 0)) ∧ ∀ t_4 : Int, t_4 = (if v8 = 0 then v6 else w32 (Int.tdiv v6 v8)) → kd ε_3 v0 = 6 ∧ ∀ ε_4 : m_E, ε_4 = efin ε_3 v0 8 t_4 → ((v6 ≠ 0 → v6 ≠ 0)) ∧ ∀ t_5 : Int, t_5 = (if v6 = 0 then 0 else w32 (w64 (Int.tdiv (w64 (10 * v4)) v6))) → kd ε_4 v0 = 6 ∧ ∀ ε_5 : m_E, ε_5 = efin ε_4 v0 4 t_5 → Q 0 ε_5 μ) : G cd_X7_init Q X 80 [(0, (2, v0)), (4, (0, v4)), (5, (0, v5)), (6, (0, v6)), (7, (0, v7))] [(1, t)] ε μ := by
  refine G_run (m_in [20, 36, 43, 49, 59, 68, 80, 99, 118, 137, 156, 181]) 24 _ _ _ _ ?_
  show m_ty [(0, (2, v0)), (4, (0, v4)), (5, (0, v5)), (6, (0, v6)), (7, (0, v7))] [(1, t)] ε μ → ∀ v8 : Int, v8 = w32 t → (v7 ≠ 0 → (m_ty [(0, (2, v0)), (4, (0, v4)), (5, (0, v5)), (6, (0, v6)), (7, (0, v7)), (8, (0, v8))] [(2, v0)] ε μ → (v7 ≠ 0) ∧ G cd_X7_init Q X 99 [(0, (2, v0)), (4, (0, v4)), (5, (0, v5)), (6, (0, v6)), (7, (0, v7)), (8, (0, v8))] [(0, w32 (Int.tdiv v4 v7)), (2, v0)] ε μ)) ∧ (v7 = 0 → (m_ty [(0, (2, v0)), (4, (0, v4)), (5, (0, v5)), (6, (0, v6)), (7, (0, v7)), (8, (0, v8))] [(2, v0)] ε μ → G cd_X7_init Q X 99 [(0, (2, v0)), (4, (0, v4)), (5, (0, v5)), (6, (0, v6)), (7, (0, v7)), (8, (0, v8))] [(0, v4), (2, v0)] ε μ))
  intro hty
  replace h := h hty.1 (hty.2.1 _ (List.mem_of_getElem? (i := 1) rfl)) (hty.2.1 _ (List.mem_of_getElem? (i := 2) rfl)) (hty.2.1 _ (List.mem_of_getElem? (i := 3) rfl)) (hty.2.1 _ (List.mem_of_getElem? (i := 4) rfl)) (hty.2.2 _ (List.mem_of_getElem? (i := 0) rfl))
  intro v8 e_v8
  replace h := h v8 e_v8
  obtain ⟨hc, hj⟩ := h
  refine And.intro (fun c0 => ?_) (fun c0 => ?_)
  · replace hc := hc c0
    intro _
    have k2 := hc
    refine And.intro k2 ?_
    exact g_X7_init_99 (fun _ _ _ _ _ _ _ => (hj _ (((if_neg (c0)).trans rfl)).symm))
  · intro _
    exact g_X7_init_99 (fun _ _ _ _ _ _ _ => (hj _ (((if_pos c0).trans rfl)).symm))
set_option maxRecDepth 20000 in
theorem g_X7_init_68 {Q X : m_Po} {v0 v4 v5 v6 t : Int} {ε : m_E} {μ : m_M} (h : TY ε μ → i32 v4 → i32 v5 → i32 v6 → i64 t → ∀ v7 : Int, v7 = w32 t → o_X10_commonDivisor [(1, v5), (1, v6)] ε μ (fun z ε_1 μ_1 => G cd_X7_init Q X 80 [(0, (2, v0)), (4, (0, v4)), (5, (0, v5)), (6, (0, v6)), (7, (0, v7))] [(1, z)] ε_1 μ_1) m_F) : G cd_X7_init Q X 68 [(0, (2, v0)), (4, (0, v4)), (5, (0, v5)), (6, (0, v6))] [(1, t)] ε μ := by
  refine G_run (m_in [20, 36, 43, 49, 59, 68, 80, 99, 118, 137, 156, 181]) 24 _ _ _ _ ?_
  show m_ty [(0, (2, v0)), (4, (0, v4)), (5, (0, v5)), (6, (0, v6))] [(1, t)] ε μ → ∀ v7 : Int, v7 = w32 t → o_X10_commonDivisor [(1, v5), (1, v6)] ε μ (fun z ε_1 μ_1 => G cd_X7_init Q X 80 [(0, (2, v0)), (4, (0, v4)), (5, (0, v5)), (6, (0, v6)), (7, (0, v7))] [(1, z)] ε_1 μ_1) m_F
  intro hty
  replace h := h hty.1 (hty.2.1 _ (List.mem_of_getElem? (i := 1) rfl)) (hty.2.1 _ (List.mem_of_getElem? (i := 2) rfl)) (hty.2.1 _ (List.mem_of_getElem? (i := 3) rfl)) (hty.2.2 _ (List.mem_of_getElem? (i := 0) rfl))
  intro v7 e_v7
  replace h := h v7 e_v7
  exact h
set_option maxRecDepth 20000 in
theorem g_X7_init_59 {Q X : m_Po} {v0 v4 v5 v6 : Int} {ε : m_E} {μ : m_M} (h : TY ε μ → i32 v4 → i32 v5 → i32 v6 → o_X10_commonDivisor [(1, v4), (1, v6)] ε μ (fun z ε_1 μ_1 => G cd_X7_init Q X 68 [(0, (2, v0)), (4, (0, v4)), (5, (0, v5)), (6, (0, v6))] [(1, z)] ε_1 μ_1) m_F) : G cd_X7_init Q X 59 [(0, (2, v0)), (4, (0, v4)), (5, (0, v5)), (6, (0, v6))] [] ε μ := by
  refine G_run (m_in [20, 36, 43, 49, 59, 68, 80, 99, 118, 137, 156, 181]) 24 _ _ _ _ ?_
  show m_ty [(0, (2, v0)), (4, (0, v4)), (5, (0, v5)), (6, (0, v6))] [] ε μ → o_X10_commonDivisor [(1, v4), (1, v6)] ε μ (fun z ε_1 μ_1 => G cd_X7_init Q X 68 [(0, (2, v0)), (4, (0, v4)), (5, (0, v5)), (6, (0, v6))] [(1, z)] ε_1 μ_1) m_F
  intro hty
  replace h := h hty.1 (hty.2.1 _ (List.mem_of_getElem? (i := 1) rfl)) (hty.2.1 _ (List.mem_of_getElem? (i := 2) rfl)) (hty.2.1 _ (List.mem_of_getElem? (i := 3) rfl))
  exact h
set_option maxRecDepth 20000 in
theorem g_X7_init_49 {Q X : m_Po} {v0 v4 t : Int} {ε : m_E} {μ : m_M} (h : TY ε μ → i32 v4 → i32 t → ∀ v5 : Int, v5 = t → kd ε v0 = 6 ∧ ∀ v6 : Int, v6 = w32 (3 * (fn ε v0 2)) → o_X10_commonDivisor [(1, v4), (1, v6)] ε μ (fun z ε_1 μ_1 => G cd_X7_init Q X 68 [(0, (2, v0)), (4, (0, v4)), (5, (0, v5)), (6, (0, v6))] [(1, z)] ε_1 μ_1) m_F) : G cd_X7_init Q X 49 [(0, (2, v0)), (4, (0, v4))] [(0, t)] ε μ := by
  refine G_run (m_in [20, 36, 43, 49, 59, 68, 80, 99, 118, 137, 156, 181]) 24 _ _ _ _ ?_
  show m_ty [(0, (2, v0)), (4, (0, v4))] [(0, t)] ε μ → ∀ v5 : Int, v5 = t → (kd ε v0 = 6) ∧ ∀ v6 : Int, v6 = w32 (3 * (fn ε v0 2)) → G cd_X7_init Q X 59 [(0, (2, v0)), (4, (0, v4)), (5, (0, v5)), (6, (0, v6))] [] ε μ
  intro hty
  replace h := h hty.1 (hty.2.1 _ (List.mem_of_getElem? (i := 1) rfl)) (hty.2.2 _ (List.mem_of_getElem? (i := 0) rfl))
  intro v5 e_v5
  replace h := h v5 e_v5
  obtain ⟨k1, h⟩ := h
  refine And.intro k1 ?_
  intro v6 e_v6
  replace h := h v6 e_v6
  exact g_X7_init_59 (fun _ _ _ _ => h)
set_option maxRecDepth 20000 in
theorem g_X7_init_43 {Q X : m_Po} {v0 v3 t : Int} {ε : m_E} {μ : m_M} (h : TY ε μ → i32 t → ∀ v4 : Int, v4 = t → o_X6_momentOfY [(2, v3)] ε μ (fun z ε_1 μ_1 => G cd_X7_init Q X 49 [(0, (2, v0)), (4, (0, v4))] [(0, z)] ε_1 μ_1) m_F) : G cd_X7_init Q X 43 [(0, (2, v0)), (3, (2, v3))] [(0, t)] ε μ := by
  refine G_run (m_in [20, 36, 43, 49, 59, 68, 80, 99, 118, 137, 156, 181]) 24 _ _ _ _ ?_
  show m_ty [(0, (2, v0)), (3, (2, v3))] [(0, t)] ε μ → ∀ v4 : Int, v4 = t → o_X6_momentOfY [(2, v3)] ε μ (fun z ε_1 μ_1 => G cd_X7_init Q X 49 [(0, (2, v0)), (4, (0, v4))] [(0, z)] ε_1 μ_1) m_F
  intro hty
  replace h := h hty.1 (hty.2.2 _ (List.mem_of_getElem? (i := 0) rfl))
  intro v4 e_v4
  replace h := h v4 e_v4
  exact h
set_option maxRecDepth 20000 in
theorem g_X7_init_36 {Q X : m_Po} {v0 v3 t t_1 : Int} {ε : m_E} {μ : m_M} (h : TY ε μ → i32 t_1 → kd ε t = 6 ∧ ∀ ε_1 : m_E, ε_1 = efin ε t 3 t_1 → o_X6_momentOfX [(2, v3)] ε_1 μ (fun z ε_2 μ_1 => G cd_X7_init Q X 43 [(0, (2, v0)), (3, (2, v3))] [(0, z)] ε_2 μ_1) m_F) : G cd_X7_init Q X 36 [(0, (2, v0)), (3, (2, v3))] [(0, t_1), (2, t)] ε μ := by
  refine G_run (m_in [20, 36, 43, 49, 59, 68, 80, 99, 118, 137, 156, 181]) 24 _ _ _ _ ?_
  show m_ty [(0, (2, v0)), (3, (2, v3))] [(0, t_1), (2, t)] ε μ → (kd ε t = 6) ∧ ∀ ε_1 : m_E, ε_1 = efin ε t 3 t_1 → o_X6_momentOfX [(2, v3)] ε_1 μ (fun z ε_2 μ_1 => G cd_X7_init Q X 43 [(0, (2, v0)), (3, (2, v3))] [(0, z)] ε_2 μ_1) m_F
  intro hty
  replace h := h hty.1 (hty.2.2 _ (List.mem_of_getElem? (i := 0) rfl))
  obtain ⟨k1, h⟩ := h
  refine And.intro k1 ?_
  intro ε_1 e_ε_1
  replace h := h ε_1 e_ε_1
  exact h
set_option maxRecDepth 20000 in
theorem g_X7_init_20 {Q X : m_Po} {v0 v1 v2 v3 t t_1 t_2 : Int} {ε : m_E} {μ : m_M} (h : TY ε μ → i32 v1 → i32 v2 → i32 t_1 → i32 t_2 → kd ε t = 6 ∧ ∀ ε_1 : m_E, ε_1 = efin ε t 2 (if t_1 < t_2 then t_2 else t_1) → kd ε_1 v0 = 6 ∧ o_X7_weightOf [(0, v1), (0, v2), (0, fn ε_1 v0 2)] ε_1 μ (fun z ε_2 μ_1 => G cd_X7_init Q X 36 [(0, (2, v0)), (3, (2, v3))] [(0, z), (2, v0)] ε_2 μ_1) m_F) : G cd_X7_init Q X 20 [(0, (2, v0)), (1, (0, v1)), (2, (0, v2)), (3, (2, v3))] [(0, t_2), (0, t_1), (2, t)] ε μ := by
  refine G_run (m_in [20, 36, 43, 49, 59, 68, 80, 99, 118, 137, 156, 181]) 24 _ _ _ _ ?_
  show m_ty [(0, (2, v0)), (1, (0, v1)), (2, (0, v2)), (3, (2, v3))] [(0, t_2), (0, t_1), (2, t)] ε μ → (kd ε t = 6) ∧ ∀ ε_1 : m_E, ε_1 = efin ε t 2 (if t_1 < t_2 then t_2 else t_1) → (kd ε_1 v0 = 6) ∧ o_X7_weightOf [(0, v1), (0, v2), (0, fn ε_1 v0 2)] ε_1 μ (fun z ε_2 μ_1 => G cd_X7_init Q X 36 [(0, (2, v0)), (3, (2, v3))] [(0, z), (2, v0)] ε_2 μ_1) m_F
  intro hty
  replace h := h hty.1 (hty.2.1 _ (List.mem_of_getElem? (i := 1) rfl)) (hty.2.1 _ (List.mem_of_getElem? (i := 2) rfl)) (hty.2.2 _ (List.mem_of_getElem? (i := 1) rfl)) (hty.2.2 _ (List.mem_of_getElem? (i := 0) rfl))
  obtain ⟨k1, h⟩ := h
  refine And.intro k1 ?_
  intro ε_1 e_ε_1
  replace h := h ε_1 e_ε_1
  obtain ⟨k2, h⟩ := h
  refine And.intro k2 ?_
  exact h
set_option maxRecDepth 20000 in
theorem g_X7_init_0 {Q X : m_Po} {v0 v1 v2 v3 : Int} {ε : m_E} {μ : m_M} (h : TY ε μ → i32 v1 → i32 v2 → 0 < v0 ∧ kd ε v0 = 6 ∧ ∀ ε_1 : m_E, ε_1 = efin ε v0 0 v1 → kd ε_1 v0 = 6 ∧ ∀ ε_2 : m_E, ε_2 = efin ε_1 v0 1 v3 → o_X6_twiceArea [(2, v3)] ε_2 μ (fun z ε_3 μ_1 => G cd_X7_init Q X 20 [(0, (2, v0)), (1, (0, v1)), (2, (0, v2)), (3, (2, v3))] [(0, z), (0, 1), (2, v0)] ε_3 μ_1) m_F) : G cd_X7_init Q X 0 [(0, (2, v0)), (1, (0, v1)), (2, (0, v2)), (3, (2, v3))] [] ε μ := by
  refine G_run (m_in [20, 36, 43, 49, 59, 68, 80, 99, 118, 137, 156, 181]) 24 _ _ _ _ ?_
  show m_ty [(0, (2, v0)), (1, (0, v1)), (2, (0, v2)), (3, (2, v3))] [] ε μ → (0 < v0) ∧ m_cs [] ≤ 8 ∧ (kd ε v0 = 6) ∧ ∀ ε_1 : m_E, ε_1 = efin ε v0 0 v1 → (kd ε_1 v0 = 6) ∧ ∀ ε_2 : m_E, ε_2 = efin ε_1 v0 1 v3 → o_X6_twiceArea [(2, v3)] ε_2 μ (fun z ε_3 μ_1 => G cd_X7_init Q X 20 [(0, (2, v0)), (1, (0, v1)), (2, (0, v2)), (3, (2, v3))] [(0, z), (0, 1), (2, v0)] ε_3 μ_1) m_F
  intro hty
  replace h := h hty.1 (hty.2.1 _ (List.mem_of_getElem? (i := 1) rfl)) (hty.2.1 _ (List.mem_of_getElem? (i := 2) rfl))
  obtain ⟨k1, h⟩ := h
  refine And.intro k1 ?_
  refine And.intro (Nat.le_of_ble_eq_true rfl) ?_
  obtain ⟨k2, h⟩ := h
  refine And.intro k2 ?_
  intro ε_1 e_ε_1
  replace h := h ε_1 e_ε_1
  obtain ⟨k3, h⟩ := h
  refine And.intro k3 ?_
  intro ε_2 e_ε_2
  replace h := h ε_2 e_ε_2
  exact h
theorem e_X7_init {Q X : m_Po} {v0 v1 v2 v3 : Int} {ε : m_E} {μ : m_M} (h : TY ε μ → i32 v1 → i32 v2 → 0 < v0 ∧ kd ε v0 = 6 ∧ ∀ ε_1 : m_E, ε_1 = efin ε v0 0 v1 → kd ε_1 v0 = 6 ∧ ∀ ε_2 : m_E, ε_2 = efin ε_1 v0 1 v3 → o_X6_twiceArea [(2, v3)] ε_2 μ (fun z ε_3 μ_1 => G cd_X7_init Q X 20 [(0, (2, v0)), (1, (0, v1)), (2, (0, v2)), (3, (2, v3))] [(0, z), (0, 1), (2, v0)] ε_3 μ_1) m_F) : o_X7_init [(2, v0), (0, v1), (0, v2), (2, v3)] ε μ Q X := And.intro rfl (g_X7_init_0 h)
/-! ArchYard$Stone.mayBe(II)Z -/
set_option maxRecDepth 20000 in
theorem g_X7_mayBe_43 {Q X : m_Po} {t : Int} {ε : m_E} {μ : m_M} (h : TY ε μ → i32 t → (t = 0 ∨ t = 1) ∧ Q t ε μ) : G cd_X7_mayBe Q X 43 [] [(0, t)] ε μ := by
  refine G_run (m_in [43]) 13 _ _ _ _ ?_
  show m_ty [] [(0, t)] ε μ → (t = 0 ∨ t = 1) ∧ Q t ε μ
  intro hty
  replace h := h hty.1 (hty.2.2 _ (List.mem_of_getElem? (i := 0) rfl))
  obtain ⟨k1, h⟩ := h
  refine And.intro k1 ?_
  exact h
set_option maxRecDepth 20000 in
theorem g_X7_mayBe_0 {Q X : m_Po} {v0 v1 : Int} {ε : m_E} {μ : m_M} (h : TY ε μ → i32 v0 → i32 v1 → (v0 < 0 → Q 0 ε μ) ∧ (0 ≤ v0 → (v0 ≤ (4 : Int) → ∀ t : Int, t = (if v0 = (4 : Int) then if v1 < 0 then 0 else if (99 : Int) < v1 then 0 else 1 else if v1 = 0 then 1 else 0) → Q t ε μ) ∧ ((4 : Int) < v0 → Q 0 ε μ))) : G cd_X7_mayBe Q X 0 [(0, (0, v0)), (1, (0, v1))] [] ε μ := by
  refine G_run (m_in [43]) 13 _ _ _ _ ?_
  show m_ty [(0, (0, v0)), (1, (0, v1))] [] ε μ → (v0 < 0 → (m_ty [] [] ε μ → (0 = 0 ∨ 0 = 1) ∧ Q 0 ε μ)) ∧ (0 ≤ v0 → (m_ty [(0, (0, v0)), (1, (0, v1))] [] ε μ → (v0 ≤ (4 : Int) → (m_ty [(0, (0, v0)), (1, (0, v1))] [] ε μ → (v0 ≠ (4 : Int) → (m_ty [(1, (0, v1))] [] ε μ → (v1 ≠ 0 → (m_ty [] [] ε μ → G cd_X7_mayBe Q X 43 [] [(0, 0)] ε μ)) ∧ (v1 = 0 → (m_ty [] [] ε μ → G cd_X7_mayBe Q X 43 [] [(0, 1)] ε μ)))) ∧ (v0 = (4 : Int) → (m_ty [(1, (0, v1))] [] ε μ → (v1 < 0 → (m_ty [] [] ε μ → G cd_X7_mayBe Q X 43 [] [(0, 0)] ε μ)) ∧ (0 ≤ v1 → (m_ty [(1, (0, v1))] [] ε μ → ((99 : Int) < v1 → (m_ty [] [] ε μ → G cd_X7_mayBe Q X 43 [] [(0, 0)] ε μ)) ∧ (v1 ≤ (99 : Int) → (m_ty [] [] ε μ → G cd_X7_mayBe Q X 43 [] [(0, 1)] ε μ)))))))) ∧ ((4 : Int) < v0 → (m_ty [] [] ε μ → (0 = 0 ∨ 0 = 1) ∧ Q 0 ε μ))))
  intro hty
  replace h := h hty.1 (hty.2.1 _ (List.mem_of_getElem? (i := 0) rfl)) (hty.2.1 _ (List.mem_of_getElem? (i := 1) rfl))
  obtain ⟨ha, hb⟩ := h
  refine And.intro (fun c6 => ?_) (fun c6 => ?_)
  · replace h := ha c6
    clear ha hb
    intro _
    refine And.intro (Or.inl rfl) ?_
    exact h
  · replace h := hb c6
    clear ha hb
    intro _
    obtain ⟨ha, hb⟩ := h
    refine And.intro (fun c5 => ?_) (fun c5 => ?_)
    · replace h := ha c5
      clear ha hb
      intro _
      have hj := h
      refine And.intro (fun c0 => ?_) (fun c0 => ?_)
      · intro _
        refine And.intro (fun c1 => ?_) (fun c1 => ?_)
        · intro _
          exact g_X7_mayBe_43 (fun _ _ => (And.intro (Or.inl rfl) (hj _ (((if_neg (c0)).trans ((if_neg (c1)).trans rfl))).symm)))
        · intro _
          exact g_X7_mayBe_43 (fun _ _ => (And.intro (Or.inr rfl) (hj _ (((if_neg (c0)).trans ((if_pos c1).trans rfl))).symm)))
      · intro _
        refine And.intro (fun c2 => ?_) (fun c2 => ?_)
        · intro _
          exact g_X7_mayBe_43 (fun _ _ => (And.intro (Or.inl rfl) (hj _ (((if_pos c0).trans ((if_pos c2).trans rfl))).symm)))
        · intro _
          refine And.intro (fun c3 => ?_) (fun c3 => ?_)
          · intro _
            exact g_X7_mayBe_43 (fun _ _ => (And.intro (Or.inl rfl) (hj _ (((if_pos c0).trans ((if_neg (Int.not_lt.mpr c2)).trans ((if_pos c3).trans rfl)))).symm)))
          · intro _
            exact g_X7_mayBe_43 (fun _ _ => (And.intro (Or.inr rfl) (hj _ (((if_pos c0).trans ((if_neg (Int.not_lt.mpr c2)).trans ((if_neg (Int.not_lt.mpr c3)).trans rfl)))).symm)))
    · replace h := hb c5
      clear ha hb
      intro _
      refine And.intro (Or.inl rfl) ?_
      exact h
theorem e_X7_mayBe {Q X : m_Po} {v0 v1 : Int} {ε : m_E} {μ : m_M} (h : TY ε μ → i32 v0 → i32 v1 → (v0 < 0 → Q 0 ε μ) ∧ (0 ≤ v0 → (v0 ≤ (4 : Int) → ∀ t : Int, t = (if v0 = (4 : Int) then if v1 < 0 then 0 else if (99 : Int) < v1 then 0 else 1 else if v1 = 0 then 1 else 0) → Q t ε μ) ∧ ((4 : Int) < v0 → Q 0 ε μ))) : o_X7_mayBe [(0, v0), (0, v1)] ε μ Q X := And.intro rfl (g_X7_mayBe_0 h)
/-! ArchYard$Stone.facts()I -/
set_option maxRecDepth 20000 in
theorem g_X7_facts_0 {Q X : m_Po} {v0 : Int} {ε : m_E} {μ : m_M} (h : TY ε μ → kd ε v0 = 6 ∧ kd ε (fn ε v0 1) = 100 ∧ Q (w32 (9 + (ln ε (fn ε v0 1)))) ε μ) : G cd_X7_facts Q X 0 [(0, (2, v0))] [] ε μ := by
  refine G_run (m_in []) 2 _ _ _ _ ?_
  show m_ty [(0, (2, v0))] [] ε μ → (kd ε v0 = 6) ∧ (kd ε (fn ε v0 1) = 100) ∧ Q (w32 (9 + (ln ε (fn ε v0 1)))) ε μ
  intro hty
  replace h := h hty.1 
  obtain ⟨k1, h⟩ := h
  refine And.intro k1 ?_
  obtain ⟨k2, h⟩ := h
  refine And.intro k2 ?_
  exact h
theorem e_X7_facts {Q X : m_Po} {v0 : Int} {ε : m_E} {μ : m_M} (h : TY ε μ → kd ε v0 = 6 ∧ kd ε (fn ε v0 1) = 100 ∧ Q (w32 (9 + (ln ε (fn ε v0 1)))) ε μ) : o_X7_facts [(2, v0)] ε μ Q X := And.intro rfl (g_X7_facts_0 h)
/-! ArchYard$Stone.cornerNumber(I)I -/
set_option maxRecDepth 20000 in
theorem g_X7_cornerNumber_23 {Q X : m_Po} {t : Int} {ε : m_E} {μ : m_M} (h : TY ε μ → i32 t → Q t ε μ) : G cd_X7_cornerNumber Q X 23 [] [(0, t)] ε μ := by
  refine G_run (m_in [23]) 6 _ _ _ _ ?_
  show m_ty [] [(0, t)] ε μ → Q t ε μ
  intro hty
  replace h := h hty.1 (hty.2.2 _ (List.mem_of_getElem? (i := 0) rfl))
  exact h
set_option maxRecDepth 20000 in
theorem g_X7_cornerNumber_0 {Q X : m_Po} {v0 v1 : Int} {ε : m_E} {μ : m_M} (h : TY ε μ → i32 v1 → ((0 ≤ v1 → kd ε v0 = 6 ∧ kd ε (fn ε v0 1) = 100 ∧ (v1 < (ln ε (fn ε v0 1)) → (0 : Int) ≤ v1 ∧ v1 < ln ε (fn ε v0 1)))) ∧ ∀ t : Int, t = (if v1 < 0 then 0 else if (ln ε (fn ε v0 1)) ≤ v1 then 0 else μ (fn ε v0 1) v1) → Q t ε μ) : G cd_X7_cornerNumber Q X 0 [(0, (2, v0)), (1, (0, v1))] [] ε μ := by
  refine G_run (m_in [23]) 6 _ _ _ _ ?_
  show m_ty [(0, (2, v0)), (1, (0, v1))] [] ε μ → (v1 < 0 → (m_ty [] [] ε μ → G cd_X7_cornerNumber Q X 23 [] [(0, 0)] ε μ)) ∧ (0 ≤ v1 → (m_ty [(0, (2, v0)), (1, (0, v1))] [] ε μ → (kd ε v0 = 6) ∧ (kd ε (fn ε v0 1) = 100) ∧ ((ln ε (fn ε v0 1)) ≤ v1 → (m_ty [] [] ε μ → G cd_X7_cornerNumber Q X 23 [] [(0, 0)] ε μ)) ∧ (v1 < (ln ε (fn ε v0 1)) → (m_ty [(0, (2, v0)), (1, (0, v1))] [] ε μ → (kd ε v0 = 6) ∧ (kd ε (fn ε v0 1) = 100) ∧ ((0 : Int) ≤ v1 ∧ v1 < ln ε (fn ε v0 1)) ∧ G cd_X7_cornerNumber Q X 23 [] [(0, μ (fn ε v0 1) v1)] ε μ))))
  intro hty
  replace h := h hty.1 (hty.2.1 _ (List.mem_of_getElem? (i := 1) rfl))
  obtain ⟨hc, hj⟩ := h
  refine And.intro (fun c0 => ?_) (fun c0 => ?_)
  · intro _
    exact g_X7_cornerNumber_23 (fun _ _ => (hj _ (((if_pos c0).trans rfl)).symm))
  · replace hc := hc c0
    intro _
    obtain ⟨k2, k3, k7⟩ := hc
    refine And.intro k2 ?_
    refine And.intro k3 ?_
    refine And.intro (fun c3 => ?_) (fun c3 => ?_)
    · intro _
      exact g_X7_cornerNumber_23 (fun _ _ => (hj _ (((if_neg (Int.not_lt.mpr c0)).trans ((if_pos c3).trans rfl))).symm))
    · replace k7 := k7 c3
      intro _
      obtain ⟨k5, k6⟩ := k7
      refine And.intro k2 ?_
      refine And.intro k3 ?_
      refine And.intro (And.intro k5 k6) ?_
      exact g_X7_cornerNumber_23 (fun _ _ => (hj _ (((if_neg (Int.not_lt.mpr c0)).trans ((if_neg (Int.not_le.mpr c3)).trans rfl))).symm))
theorem e_X7_cornerNumber {Q X : m_Po} {v0 v1 : Int} {ε : m_E} {μ : m_M} (h : TY ε μ → i32 v1 → ((0 ≤ v1 → kd ε v0 = 6 ∧ kd ε (fn ε v0 1) = 100 ∧ (v1 < (ln ε (fn ε v0 1)) → (0 : Int) ≤ v1 ∧ v1 < ln ε (fn ε v0 1)))) ∧ ∀ t : Int, t = (if v1 < 0 then 0 else if (ln ε (fn ε v0 1)) ≤ v1 then 0 else μ (fn ε v0 1) v1) → Q t ε μ) : o_X7_cornerNumber [(2, v0), (0, v1)] ε μ Q X := And.intro rfl (g_X7_cornerNumber_0 h)
/-! ArchYard$Stone.fact(I)I -/
set_option maxRecDepth 20000 in
theorem g_X7_fact_108 {Q X : m_Po} {t : Int} {ε : m_E} {μ : m_M} (h : TY ε μ → i32 t → Q t ε μ) : G cd_X7_fact Q X 108 [] [(0, t)] ε μ := by
  refine G_run (m_in [108]) 13 _ _ _ _ ?_
  show m_ty [] [(0, t)] ε μ → Q t ε μ
  intro hty
  replace h := h hty.1 (hty.2.2 _ (List.mem_of_getElem? (i := 0) rfl))
  exact h
set_option maxRecDepth 20000 in
theorem g_X7_fact_0 {Q X : m_Po} {v0 v1 : Int} {ε : m_E} {μ : m_M} (h : TY ε μ → i32 v1 → (v1 = 0 → kd ε v0 = 6 ∧ Q (fn ε v0 0) ε μ) ∧ (v1 = 1 → kd ε v0 = 6 ∧ kd ε (fn ε v0 1) = 100 ∧ Q (w32 (Int.tdiv (ln ε (fn ε v0 1)) 2)) ε μ) ∧ (v1 = 2 → kd ε v0 = 6 ∧ Q (fn ε v0 2) ε μ) ∧ (v1 = 3 → kd ε v0 = 6 ∧ Q (fn ε v0 3) ε μ) ∧ (v1 = 4 → kd ε v0 = 6 ∧ Q (fn ε v0 4) ε μ) ∧ (v1 = 5 → kd ε v0 = 6 ∧ Q (fn ε v0 5) ε μ) ∧ (v1 = 6 → kd ε v0 = 6 ∧ Q (fn ε v0 6) ε μ) ∧ (v1 = 7 → kd ε v0 = 6 ∧ Q (fn ε v0 7) ε μ) ∧ (v1 = 8 → kd ε v0 = 6 ∧ Q (fn ε v0 8) ε μ) ∧ (v1 < 0 ∨ 8 < v1 → kd ε v0 = 6 ∧ o_X7_cornerNumber [(2, v0), (0, w32 (v1 - 9))] ε μ (fun z ε_1 μ_1 => G cd_X7_fact Q X 108 [] [(0, z)] ε_1 μ_1) m_F)) : G cd_X7_fact Q X 0 [(0, (2, v0)), (1, (0, v1))] [] ε μ := by
  refine G_run (m_in [108]) 13 _ _ _ _ ?_
  show m_ty [(0, (2, v0)), (1, (0, v1))] [] ε μ → ((v1 = 0 → (m_ty [(0, (2, v0))] [] ε μ → (kd ε v0 = 6) ∧ Q (fn ε v0 0) ε μ)) ∧ (v1 = 1 → (m_ty [(0, (2, v0))] [] ε μ → (kd ε v0 = 6) ∧ (kd ε (fn ε v0 1) = 100) ∧ (2 : Int) ≠ 0 ∧ Q (w32 (Int.tdiv (ln ε (fn ε v0 1)) 2)) ε μ)) ∧ (v1 = 2 → (m_ty [(0, (2, v0))] [] ε μ → (kd ε v0 = 6) ∧ Q (fn ε v0 2) ε μ)) ∧ (v1 = 3 → (m_ty [(0, (2, v0))] [] ε μ → (kd ε v0 = 6) ∧ Q (fn ε v0 3) ε μ)) ∧ (v1 = 4 → (m_ty [(0, (2, v0))] [] ε μ → (kd ε v0 = 6) ∧ Q (fn ε v0 4) ε μ)) ∧ (v1 = 5 → (m_ty [(0, (2, v0))] [] ε μ → (kd ε v0 = 6) ∧ Q (fn ε v0 5) ε μ)) ∧ (v1 = 6 → (m_ty [(0, (2, v0))] [] ε μ → (kd ε v0 = 6) ∧ Q (fn ε v0 6) ε μ)) ∧ (v1 = 7 → (m_ty [(0, (2, v0))] [] ε μ → (kd ε v0 = 6) ∧ Q (fn ε v0 7) ε μ)) ∧ (v1 = 8 → (m_ty [(0, (2, v0))] [] ε μ → (kd ε v0 = 6) ∧ Q (fn ε v0 8) ε μ)) ∧ True) ∧ (v1 < 0 ∨ 8 < v1 → (m_ty [(0, (2, v0)), (1, (0, v1))] [] ε μ → (kd ε v0 = 6) ∧ o_X7_cornerNumber [(2, v0), (0, w32 (v1 - 9))] ε μ (fun z ε_1 μ_1 => G cd_X7_fact Q X 108 [] [(0, z)] ε_1 μ_1) m_F))
  intro hty
  replace h := h hty.1 (hty.2.1 _ (List.mem_of_getElem? (i := 1) rfl))
  obtain ⟨h0, h1, h2, h3, h4, h5, h6, h7, h8, h9⟩ := h
  refine And.intro (And.intro (fun c0 => ?_) (And.intro (fun c1 => ?_) (And.intro (fun c2 => ?_) (And.intro (fun c3 => ?_) (And.intro (fun c4 => ?_) (And.intro (fun c5 => ?_) (And.intro (fun c6 => ?_) (And.intro (fun c7 => ?_) (And.intro (fun c8 => ?_) trivial))))))))) (fun c9 => ?_)
  · replace h := h0 c0
    intro _
    obtain ⟨k1, h⟩ := h
    refine And.intro k1 ?_
    exact h
  · replace h := h1 c1
    intro _
    obtain ⟨k2, h⟩ := h
    refine And.intro k2 ?_
    obtain ⟨k3, h⟩ := h
    refine And.intro k3 ?_
    refine And.intro (by decide) ?_
    exact h
  · replace h := h2 c2
    intro _
    obtain ⟨k4, h⟩ := h
    refine And.intro k4 ?_
    exact h
  · replace h := h3 c3
    intro _
    obtain ⟨k5, h⟩ := h
    refine And.intro k5 ?_
    exact h
  · replace h := h4 c4
    intro _
    obtain ⟨k6, h⟩ := h
    refine And.intro k6 ?_
    exact h
  · replace h := h5 c5
    intro _
    obtain ⟨k7, h⟩ := h
    refine And.intro k7 ?_
    exact h
  · replace h := h6 c6
    intro _
    obtain ⟨k8, h⟩ := h
    refine And.intro k8 ?_
    exact h
  · replace h := h7 c7
    intro _
    obtain ⟨k9, h⟩ := h
    refine And.intro k9 ?_
    exact h
  · replace h := h8 c8
    intro _
    obtain ⟨k10, h⟩ := h
    refine And.intro k10 ?_
    exact h
  · replace h := h9 c9
    intro _
    obtain ⟨k11, h⟩ := h
    refine And.intro k11 ?_
    exact h
theorem e_X7_fact {Q X : m_Po} {v0 v1 : Int} {ε : m_E} {μ : m_M} (h : TY ε μ → i32 v1 → (v1 = 0 → kd ε v0 = 6 ∧ Q (fn ε v0 0) ε μ) ∧ (v1 = 1 → kd ε v0 = 6 ∧ kd ε (fn ε v0 1) = 100 ∧ Q (w32 (Int.tdiv (ln ε (fn ε v0 1)) 2)) ε μ) ∧ (v1 = 2 → kd ε v0 = 6 ∧ Q (fn ε v0 2) ε μ) ∧ (v1 = 3 → kd ε v0 = 6 ∧ Q (fn ε v0 3) ε μ) ∧ (v1 = 4 → kd ε v0 = 6 ∧ Q (fn ε v0 4) ε μ) ∧ (v1 = 5 → kd ε v0 = 6 ∧ Q (fn ε v0 5) ε μ) ∧ (v1 = 6 → kd ε v0 = 6 ∧ Q (fn ε v0 6) ε μ) ∧ (v1 = 7 → kd ε v0 = 6 ∧ Q (fn ε v0 7) ε μ) ∧ (v1 = 8 → kd ε v0 = 6 ∧ Q (fn ε v0 8) ε μ) ∧ (v1 < 0 ∨ 8 < v1 → kd ε v0 = 6 ∧ o_X7_cornerNumber [(2, v0), (0, w32 (v1 - 9))] ε μ (fun z ε_1 μ_1 => G cd_X7_fact Q X 108 [] [(0, z)] ε_1 μ_1) m_F)) : o_X7_fact [(2, v0), (0, v1)] ε μ Q X := And.intro rfl (g_X7_fact_0 h)
/-! ArchYard$Verdict.<init>()V -/
set_option maxRecDepth 20000 in
theorem g_X8_init_64 {Q X : m_Po} {t t_1 : Int} {ε : m_E} {μ : m_M} (h : TY ε μ → kd ε t = 7 ∧ ∀ ε_1 : m_E, ε_1 = efin ε t 7 t_1 → Q 0 ε_1 μ) : G cd_X8_init Q X 64 [] [(2, t_1), (2, t)] ε μ := by
  refine G_run (m_in [56, 64]) 4 _ _ _ _ ?_
  show m_ty [] [(2, t_1), (2, t)] ε μ → (kd ε t = 7) ∧ ∀ ε_1 : m_E, ε_1 = efin ε t 7 t_1 → Q 0 ε_1 μ
  intro hty
  replace h := h hty.1 
  obtain ⟨k1, h⟩ := h
  refine And.intro k1 ?_
  intro ε_1 e_ε_1
  replace h := h ε_1 e_ε_1
  exact h
set_option maxRecDepth 20000 in
theorem g_X8_init_56 {Q X : m_Po} {v0 : Int} {ε : m_E} {μ : m_M} (h : TY ε μ → ∀ (a : Int) (ε_1 : m_E) (μ_1 : m_M), a = nx ε → ε_1 = ealloc ε 8 0 → μ_1 = mnew μ a → kd ε_1 a = 8 ∧ o_X9_init [(2, a)] ε_1 μ_1 (fun z ε_2 μ_2 => G cd_X8_init Q X 64 [] [(2, a), (2, v0)] ε_2 μ_2) m_F) : G cd_X8_init Q X 56 [(0, (2, v0))] [] ε μ := by
  refine G_run (m_in [56, 64]) 4 _ _ _ _ ?_
  show m_ty [(0, (2, v0))] [] ε μ → ∀ (a : Int) (ε_1 : m_E) (μ_1 : m_M), a = nx ε → ε_1 = ealloc ε 8 0 → μ_1 = mnew μ a → (kd ε_1 a = 8) ∧ o_X9_init [(2, a)] ε_1 μ_1 (fun z ε_2 μ_2 => G cd_X8_init Q X 64 [] [(2, a), (2, v0)] ε_2 μ_2) m_F
  intro hty
  replace h := h hty.1 
  intro a ε_1 μ_1 e_a e_ε_1 e_μ_1
  replace h := h a ε_1 μ_1 e_a e_ε_1 e_μ_1
  obtain ⟨k1, h⟩ := h
  refine And.intro k1 ?_
  exact h
set_option maxRecDepth 20000 in
theorem g_X8_init_0 {Q X : m_Po} {v0 : Int} {ε : m_E} {μ : m_M} (h : TY ε μ → 0 < v0 ∧ ∀ (a : Int) (ε_1 : m_E) (μ_1 : m_M), a = nx ε → ε_1 = ealloc ε 101 6 → μ_1 = mnew μ a → kd ε_1 v0 = 7 ∧ ∀ ε_2 : m_E, ε_2 = efin ε_1 v0 0 a → ∀ (a_1 : Int) (ε_3 : m_E) (μ_2 : m_M), a_1 = nx ε_2 → ε_3 = ealloc ε_2 101 6 → μ_2 = mnew μ_1 a_1 → kd ε_3 v0 = 7 ∧ ∀ ε_4 : m_E, ε_4 = efin ε_3 v0 1 a_1 → ∀ (a_2 : Int) (ε_5 : m_E) (μ_3 : m_M), a_2 = nx ε_4 → ε_5 = ealloc ε_4 101 2 → μ_3 = mnew μ_2 a_2 → kd ε_5 v0 = 7 ∧ ∀ ε_6 : m_E, ε_6 = efin ε_5 v0 2 a_2 → ∀ (a_3 : Int) (ε_7 : m_E) (μ_4 : m_M), a_3 = nx ε_6 → ε_7 = ealloc ε_6 100 96 → μ_4 = mnew μ_3 a_3 → kd ε_7 v0 = 7 ∧ ∀ ε_8 : m_E, ε_8 = efin ε_7 v0 3 a_3 → ∀ (a_4 : Int) (ε_9 : m_E) (μ_5 : m_M), a_4 = nx ε_8 → ε_9 = ealloc ε_8 100 2 → μ_5 = mnew μ_4 a_4 → kd ε_9 v0 = 7 ∧ ∀ ε_10 : m_E, ε_10 = efin ε_9 v0 4 a_4 → ∀ (a_5 : Int) (ε_11 : m_E) (μ_6 : m_M), a_5 = nx ε_10 → ε_11 = ealloc ε_10 100 4 → μ_6 = mnew μ_5 a_5 → kd ε_11 v0 = 7 ∧ ∀ ε_12 : m_E, ε_12 = efin ε_11 v0 5 a_5 → ∀ (a_6 : Int) (ε_13 : m_E) (μ_7 : m_M), a_6 = nx ε_12 → ε_13 = ealloc ε_12 101 4 → μ_7 = mnew μ_6 a_6 → kd ε_13 v0 = 7 ∧ ∀ ε_14 : m_E, ε_14 = efin ε_13 v0 6 a_6 → ∀ (a_7 : Int) (ε_15 : m_E) (μ_8 : m_M), a_7 = nx ε_14 → ε_15 = ealloc ε_14 8 0 → μ_8 = mnew μ_7 a_7 → kd ε_15 a_7 = 8 ∧ o_X9_init [(2, a_7)] ε_15 μ_8 (fun z ε_16 μ_9 => G cd_X8_init Q X 64 [] [(2, a_7), (2, v0)] ε_16 μ_9) m_F) : G cd_X8_init Q X 0 [(0, (2, v0))] [] ε μ := by
  refine G_run (m_in [56, 64]) 4 _ _ _ _ ?_
  show m_ty [(0, (2, v0))] [] ε μ → (0 < v0) ∧ m_cs [] ≤ 8 ∧ ((0 : Int) ≤ 6 ∧ (6 : Int) ≤ 6) ∧ ∀ (a : Int) (ε_1 : m_E) (μ_1 : m_M), a = nx ε → ε_1 = ealloc ε 101 6 → μ_1 = mnew μ a → (kd ε_1 v0 = 7) ∧ ∀ ε_2 : m_E, ε_2 = efin ε_1 v0 0 a → ((0 : Int) ≤ 6 ∧ (6 : Int) ≤ 6) ∧ ∀ (a_1 : Int) (ε_3 : m_E) (μ_2 : m_M), a_1 = nx ε_2 → ε_3 = ealloc ε_2 101 6 → μ_2 = mnew μ_1 a_1 → (kd ε_3 v0 = 7) ∧ ∀ ε_4 : m_E, ε_4 = efin ε_3 v0 1 a_1 → ((0 : Int) ≤ 2 ∧ (2 : Int) ≤ 2) ∧ ∀ (a_2 : Int) (ε_5 : m_E) (μ_3 : m_M), a_2 = nx ε_4 → ε_5 = ealloc ε_4 101 2 → μ_3 = mnew μ_2 a_2 → (kd ε_5 v0 = 7) ∧ ∀ ε_6 : m_E, ε_6 = efin ε_5 v0 2 a_2 → ((0 : Int) ≤ 96 ∧ (96 : Int) ≤ 96) ∧ ∀ (a_3 : Int) (ε_7 : m_E) (μ_4 : m_M), a_3 = nx ε_6 → ε_7 = ealloc ε_6 100 96 → μ_4 = mnew μ_3 a_3 → (kd ε_7 v0 = 7) ∧ ∀ ε_8 : m_E, ε_8 = efin ε_7 v0 3 a_3 → ((0 : Int) ≤ 2 ∧ (2 : Int) ≤ 2) ∧ ∀ (a_4 : Int) (ε_9 : m_E) (μ_5 : m_M), a_4 = nx ε_8 → ε_9 = ealloc ε_8 100 2 → μ_5 = mnew μ_4 a_4 → (kd ε_9 v0 = 7) ∧ ∀ ε_10 : m_E, ε_10 = efin ε_9 v0 4 a_4 → ((0 : Int) ≤ 4 ∧ (4 : Int) ≤ 4) ∧ ∀ (a_5 : Int) (ε_11 : m_E) (μ_6 : m_M), a_5 = nx ε_10 → ε_11 = ealloc ε_10 100 4 → μ_6 = mnew μ_5 a_5 → (kd ε_11 v0 = 7) ∧ ∀ ε_12 : m_E, ε_12 = efin ε_11 v0 5 a_5 → ((0 : Int) ≤ 4 ∧ (4 : Int) ≤ 4) ∧ ∀ (a_6 : Int) (ε_13 : m_E) (μ_7 : m_M), a_6 = nx ε_12 → ε_13 = ealloc ε_12 101 4 → μ_7 = mnew μ_6 a_6 → (kd ε_13 v0 = 7) ∧ ∀ ε_14 : m_E, ε_14 = efin ε_13 v0 6 a_6 → G cd_X8_init Q X 56 [(0, (2, v0))] [] ε_14 μ_7
  intro hty
  replace h := h hty.1 
  obtain ⟨k1, h⟩ := h
  refine And.intro k1 ?_
  refine And.intro (Nat.le_of_ble_eq_true rfl) ?_
  refine And.intro (And.intro (by decide) (by decide)) ?_
  intro a ε_1 μ_1 e_a e_ε_1 e_μ_1
  replace h := h a ε_1 μ_1 e_a e_ε_1 e_μ_1
  obtain ⟨k2, h⟩ := h
  refine And.intro k2 ?_
  intro ε_2 e_ε_2
  replace h := h ε_2 e_ε_2
  refine And.intro (And.intro (by decide) (by decide)) ?_
  intro a_1 ε_3 μ_2 e_a_1 e_ε_3 e_μ_2
  replace h := h a_1 ε_3 μ_2 e_a_1 e_ε_3 e_μ_2
  obtain ⟨k3, h⟩ := h
  refine And.intro k3 ?_
  intro ε_4 e_ε_4
  replace h := h ε_4 e_ε_4
  refine And.intro (And.intro (by decide) (by decide)) ?_
  intro a_2 ε_5 μ_3 e_a_2 e_ε_5 e_μ_3
  replace h := h a_2 ε_5 μ_3 e_a_2 e_ε_5 e_μ_3
  obtain ⟨k4, h⟩ := h
  refine And.intro k4 ?_
  intro ε_6 e_ε_6
  replace h := h ε_6 e_ε_6
  refine And.intro (And.intro (by decide) (by decide)) ?_
  intro a_3 ε_7 μ_4 e_a_3 e_ε_7 e_μ_4
  replace h := h a_3 ε_7 μ_4 e_a_3 e_ε_7 e_μ_4
  obtain ⟨k5, h⟩ := h
  refine And.intro k5 ?_
  intro ε_8 e_ε_8
  replace h := h ε_8 e_ε_8
  refine And.intro (And.intro (by decide) (by decide)) ?_
  intro a_4 ε_9 μ_5 e_a_4 e_ε_9 e_μ_5
  replace h := h a_4 ε_9 μ_5 e_a_4 e_ε_9 e_μ_5
  obtain ⟨k6, h⟩ := h
  refine And.intro k6 ?_
  intro ε_10 e_ε_10
  replace h := h ε_10 e_ε_10
  refine And.intro (And.intro (by decide) (by decide)) ?_
  intro a_5 ε_11 μ_6 e_a_5 e_ε_11 e_μ_6
  replace h := h a_5 ε_11 μ_6 e_a_5 e_ε_11 e_μ_6
  obtain ⟨k7, h⟩ := h
  refine And.intro k7 ?_
  intro ε_12 e_ε_12
  replace h := h ε_12 e_ε_12
  refine And.intro (And.intro (by decide) (by decide)) ?_
  intro a_6 ε_13 μ_7 e_a_6 e_ε_13 e_μ_7
  replace h := h a_6 ε_13 μ_7 e_a_6 e_ε_13 e_μ_7
  obtain ⟨k8, h⟩ := h
  refine And.intro k8 ?_
  intro ε_14 e_ε_14
  replace h := h ε_14 e_ε_14
  exact g_X8_init_56 (fun _ => h)
theorem e_X8_init {Q X : m_Po} {v0 : Int} {ε : m_E} {μ : m_M} (h : TY ε μ → 0 < v0 ∧ ∀ (a : Int) (ε_1 : m_E) (μ_1 : m_M), a = nx ε → ε_1 = ealloc ε 101 6 → μ_1 = mnew μ a → kd ε_1 v0 = 7 ∧ ∀ ε_2 : m_E, ε_2 = efin ε_1 v0 0 a → ∀ (a_1 : Int) (ε_3 : m_E) (μ_2 : m_M), a_1 = nx ε_2 → ε_3 = ealloc ε_2 101 6 → μ_2 = mnew μ_1 a_1 → kd ε_3 v0 = 7 ∧ ∀ ε_4 : m_E, ε_4 = efin ε_3 v0 1 a_1 → ∀ (a_2 : Int) (ε_5 : m_E) (μ_3 : m_M), a_2 = nx ε_4 → ε_5 = ealloc ε_4 101 2 → μ_3 = mnew μ_2 a_2 → kd ε_5 v0 = 7 ∧ ∀ ε_6 : m_E, ε_6 = efin ε_5 v0 2 a_2 → ∀ (a_3 : Int) (ε_7 : m_E) (μ_4 : m_M), a_3 = nx ε_6 → ε_7 = ealloc ε_6 100 96 → μ_4 = mnew μ_3 a_3 → kd ε_7 v0 = 7 ∧ ∀ ε_8 : m_E, ε_8 = efin ε_7 v0 3 a_3 → ∀ (a_4 : Int) (ε_9 : m_E) (μ_5 : m_M), a_4 = nx ε_8 → ε_9 = ealloc ε_8 100 2 → μ_5 = mnew μ_4 a_4 → kd ε_9 v0 = 7 ∧ ∀ ε_10 : m_E, ε_10 = efin ε_9 v0 4 a_4 → ∀ (a_5 : Int) (ε_11 : m_E) (μ_6 : m_M), a_5 = nx ε_10 → ε_11 = ealloc ε_10 100 4 → μ_6 = mnew μ_5 a_5 → kd ε_11 v0 = 7 ∧ ∀ ε_12 : m_E, ε_12 = efin ε_11 v0 5 a_5 → ∀ (a_6 : Int) (ε_13 : m_E) (μ_7 : m_M), a_6 = nx ε_12 → ε_13 = ealloc ε_12 101 4 → μ_7 = mnew μ_6 a_6 → kd ε_13 v0 = 7 ∧ ∀ ε_14 : m_E, ε_14 = efin ε_13 v0 6 a_6 → ∀ (a_7 : Int) (ε_15 : m_E) (μ_8 : m_M), a_7 = nx ε_14 → ε_15 = ealloc ε_14 8 0 → μ_8 = mnew μ_7 a_7 → kd ε_15 a_7 = 8 ∧ o_X9_init [(2, a_7)] ε_15 μ_8 (fun z ε_16 μ_9 => G cd_X8_init Q X 64 [] [(2, a_7), (2, v0)] ε_16 μ_9) m_F) : o_X8_init [(2, v0)] ε μ Q X := And.intro rfl (g_X8_init_0 h)
/-! ArchYard$Verdict.isSafe()Z -/
set_option maxRecDepth 20000 in
theorem g_X8_isSafe_0 {Q X : m_Po} {v0 : Int} {ε : m_E} {μ : m_M} (h : TY ε μ → kd ε v0 = 7 ∧ (μ v0 9 = 0 ∨ μ v0 9 = 1) ∧ Q (μ v0 9) ε μ) : G cd_X8_isSafe Q X 0 [(0, (2, v0))] [] ε μ := by
  refine G_run (m_in []) 2 _ _ _ _ ?_
  show m_ty [(0, (2, v0))] [] ε μ → (kd ε v0 = 7) ∧ (μ v0 9 = 0 ∨ μ v0 9 = 1) ∧ Q (μ v0 9) ε μ
  intro hty
  replace h := h hty.1 
  obtain ⟨k1, h⟩ := h
  refine And.intro k1 ?_
  obtain ⟨k2, h⟩ := h
  refine And.intro k2 ?_
  exact h
theorem e_X8_isSafe {Q X : m_Po} {v0 : Int} {ε : m_E} {μ : m_M} (h : TY ε μ → kd ε v0 = 7 ∧ (μ v0 9 = 0 ∨ μ v0 9 = 1) ∧ Q (μ v0 9) ε μ) : o_X8_isSafe [(2, v0)] ε μ Q X := And.intro rfl (g_X8_isSafe_0 h)
/-! ArchYard$Verdict.boundAt(II)I -/
set_option maxRecDepth 20000 in
theorem g_X8_boundAt_87 {Q X : m_Po} {t : Int} {ε : m_E} {μ : m_M} (h : TY ε μ → i32 t → Q t ε μ) : G cd_X8_boundAt Q X 87 [] [(0, t)] ε μ := by
  refine G_run (m_in [9, 34, 54, 87]) 19 _ _ _ _ ?_
  show m_ty [] [(0, t)] ε μ → Q t ε μ
  intro hty
  replace h := h hty.1 (hty.2.2 _ (List.mem_of_getElem? (i := 0) rfl))
  exact h
set_option maxRecDepth 20000 in
theorem g_X8_boundAt_54 {Q X : m_Po} {t : Int} {ε : m_E} {μ : m_M} (h : TY ε μ → i32 t → Q t ε μ) : G cd_X8_boundAt Q X 54 [] [(0, t)] ε μ := by
  refine G_run (m_in [9, 34, 54, 87]) 19 _ _ _ _ ?_
  show m_ty [] [(0, t)] ε μ → Q t ε μ
  intro hty
  replace h := h hty.1 (hty.2.2 _ (List.mem_of_getElem? (i := 0) rfl))
  exact h
set_option maxRecDepth 20000 in
theorem g_X8_boundAt_34 {Q X : m_Po} {v0 v1 v2 t : Int} {ε : m_E} {μ : m_M} (h : TY ε μ → i32 v1 → i32 v2 → i32 t → ∀ v3 : Int, v3 = t → ((v3 ≠ 0 → kd ε v0 = 7 ∧ kd ε (fn ε v0 3) = 100 ∧ (0 : Int) ≤ w32 ((w32 (v1 * 48)) + v2) ∧ w32 ((w32 (v1 * 48)) + v2) < ln ε (fn ε v0 3))) ∧ ∀ t_1 : Int, t_1 = (if v3 = 0 then (-1) else μ (fn ε v0 3) (w32 ((w32 (v1 * 48)) + v2))) → Q t_1 ε μ) : G cd_X8_boundAt Q X 34 [(0, (2, v0)), (1, (0, v1)), (2, (0, v2))] [(0, t)] ε μ := by
  refine G_run (m_in [9, 34, 54, 87]) 19 _ _ _ _ ?_
  show m_ty [(0, (2, v0)), (1, (0, v1)), (2, (0, v2))] [(0, t)] ε μ → ∀ v3 : Int, v3 = t → (v3 = 0 → (m_ty [] [] ε μ → G cd_X8_boundAt Q X 54 [] [(0, (-1))] ε μ)) ∧ (v3 ≠ 0 → (m_ty [(0, (2, v0)), (1, (0, v1)), (2, (0, v2))] [] ε μ → (kd ε v0 = 7) ∧ (kd ε (fn ε v0 3) = 100) ∧ ((0 : Int) ≤ w32 ((w32 (v1 * 48)) + v2) ∧ w32 ((w32 (v1 * 48)) + v2) < ln ε (fn ε v0 3)) ∧ G cd_X8_boundAt Q X 54 [] [(0, μ (fn ε v0 3) (w32 ((w32 (v1 * 48)) + v2)))] ε μ))
  intro hty
  replace h := h hty.1 (hty.2.1 _ (List.mem_of_getElem? (i := 1) rfl)) (hty.2.1 _ (List.mem_of_getElem? (i := 2) rfl)) (hty.2.2 _ (List.mem_of_getElem? (i := 0) rfl))
  intro v3 e_v3
  replace h := h v3 e_v3
  obtain ⟨hc, hj⟩ := h
  refine And.intro (fun c0 => ?_) (fun c0 => ?_)
  · intro _
    exact g_X8_boundAt_54 (fun _ _ => (hj _ (((if_pos c0).trans rfl)).symm))
  · replace hc := hc c0
    intro _
    obtain ⟨k2, k3, k4, k5⟩ := hc
    refine And.intro k2 ?_
    refine And.intro k3 ?_
    refine And.intro (And.intro k4 k5) ?_
    exact g_X8_boundAt_54 (fun _ _ => (hj _ (((if_neg (c0)).trans rfl)).symm))
set_option maxRecDepth 20000 in
theorem g_X8_boundAt_9 {Q X : m_Po} {v0 v1 v2 : Int} {ε : m_E} {μ : m_M} (h : TY ε μ → i32 v1 → i32 v2 → ((0 ≤ v2 → kd ε v0 = 7 ∧ kd ε (fn ε v0 4) = 100 ∧ (0 : Int) ≤ v1 ∧ v1 < ln ε (fn ε v0 4))) ∧ ∀ t : Int, t = (if v2 < 0 then 0 else if (μ (fn ε v0 4) v1) ≤ v2 then 0 else if (48 : Int) ≤ v2 then 0 else 1) → ∀ v3 : Int, v3 = t → ((v3 ≠ 0 → kd ε v0 = 7 ∧ kd ε (fn ε v0 3) = 100 ∧ (0 : Int) ≤ w32 ((w32 (v1 * 48)) + v2) ∧ w32 ((w32 (v1 * 48)) + v2) < ln ε (fn ε v0 3))) ∧ ∀ t_1 : Int, t_1 = (if v3 = 0 then (-1) else μ (fn ε v0 3) (w32 ((w32 (v1 * 48)) + v2))) → Q t_1 ε μ) : G cd_X8_boundAt Q X 9 [(0, (2, v0)), (1, (0, v1)), (2, (0, v2))] [] ε μ := by
  refine G_run (m_in [9, 34, 54, 87]) 19 _ _ _ _ ?_
  show m_ty [(0, (2, v0)), (1, (0, v1)), (2, (0, v2))] [] ε μ → (v2 < 0 → (m_ty [(0, (2, v0)), (1, (0, v1)), (2, (0, v2))] [] ε μ → G cd_X8_boundAt Q X 34 [(0, (2, v0)), (1, (0, v1)), (2, (0, v2))] [(0, 0)] ε μ)) ∧ (0 ≤ v2 → (m_ty [(0, (2, v0)), (1, (0, v1)), (2, (0, v2))] [] ε μ → (kd ε v0 = 7) ∧ (kd ε (fn ε v0 4) = 100) ∧ ((0 : Int) ≤ v1 ∧ v1 < ln ε (fn ε v0 4)) ∧ ((μ (fn ε v0 4) v1) ≤ v2 → (m_ty [(0, (2, v0)), (1, (0, v1)), (2, (0, v2))] [] ε μ → G cd_X8_boundAt Q X 34 [(0, (2, v0)), (1, (0, v1)), (2, (0, v2))] [(0, 0)] ε μ)) ∧ (v2 < (μ (fn ε v0 4) v1) → (m_ty [(0, (2, v0)), (1, (0, v1)), (2, (0, v2))] [] ε μ → ((48 : Int) ≤ v2 → (m_ty [(0, (2, v0)), (1, (0, v1)), (2, (0, v2))] [] ε μ → G cd_X8_boundAt Q X 34 [(0, (2, v0)), (1, (0, v1)), (2, (0, v2))] [(0, 0)] ε μ)) ∧ (v2 < (48 : Int) → (m_ty [(0, (2, v0)), (1, (0, v1)), (2, (0, v2))] [] ε μ → G cd_X8_boundAt Q X 34 [(0, (2, v0)), (1, (0, v1)), (2, (0, v2))] [(0, 1)] ε μ))))))
  intro hty
  replace h := h hty.1 (hty.2.1 _ (List.mem_of_getElem? (i := 1) rfl)) (hty.2.1 _ (List.mem_of_getElem? (i := 2) rfl))
  obtain ⟨hc, hj⟩ := h
  refine And.intro (fun c0 => ?_) (fun c0 => ?_)
  · intro _
    exact g_X8_boundAt_34 (fun _ _ _ _ => (hj _ (((if_pos c0).trans rfl)).symm))
  · replace hc := hc c0
    intro _
    obtain ⟨k2, k3, k4, k5⟩ := hc
    refine And.intro k2 ?_
    refine And.intro k3 ?_
    refine And.intro (And.intro k4 k5) ?_
    refine And.intro (fun c5 => ?_) (fun c5 => ?_)
    · intro _
      exact g_X8_boundAt_34 (fun _ _ _ _ => (hj _ (((if_neg (Int.not_lt.mpr c0)).trans ((if_pos c5).trans rfl))).symm))
    · intro _
      refine And.intro (fun c6 => ?_) (fun c6 => ?_)
      · intro _
        exact g_X8_boundAt_34 (fun _ _ _ _ => (hj _ (((if_neg (Int.not_lt.mpr c0)).trans ((if_neg (Int.not_le.mpr c5)).trans ((if_pos c6).trans rfl)))).symm))
      · intro _
        exact g_X8_boundAt_34 (fun _ _ _ _ => (hj _ (((if_neg (Int.not_lt.mpr c0)).trans ((if_neg (Int.not_le.mpr c5)).trans ((if_neg (Int.not_le.mpr c6)).trans rfl)))).symm))
set_option maxRecDepth 20000 in
theorem g_X8_boundAt_0 {Q X : m_Po} {v0 v1 v2 : Int} {ε : m_E} {μ : m_M} (h : TY ε μ → i32 v1 → i32 v2 → (v1 = 0 → G cd_X8_boundAt Q X 9 [(0, (2, v0)), (1, (0, v1)), (2, (0, v2))] [] ε μ) ∧ (v1 ≠ 0 → (v1 ≠ (1 : Int) → ((v1 = (2 : Int) → (0 ≤ v2 → kd ε v0 = 7 ∧ (v2 < (μ v0 8) → (v2 < (4 : Int) → kd ε (fn ε v0 5) = 100 ∧ (0 : Int) ≤ v2 ∧ v2 < ln ε (fn ε v0 5)))))) ∧ ∀ t : Int, t = (if v1 = (2 : Int) then if v2 < 0 then (-1) else if (μ v0 8) ≤ v2 then (-1) else if (4 : Int) ≤ v2 then (-1) else μ (fn ε v0 5) v2 else (-1)) → Q t ε μ) ∧ (v1 = (1 : Int) → G cd_X8_boundAt Q X 9 [(0, (2, v0)), (1, (0, v1)), (2, (0, v2))] [] ε μ))) : G cd_X8_boundAt Q X 0 [(0, (2, v0)), (1, (0, v1)), (2, (0, v2))] [] ε μ := by
  refine G_run (m_in [9, 34, 54, 87]) 19 _ _ _ _ ?_
  show m_ty [(0, (2, v0)), (1, (0, v1)), (2, (0, v2))] [] ε μ → (v1 = 0 → G cd_X8_boundAt Q X 9 [(0, (2, v0)), (1, (0, v1)), (2, (0, v2))] [] ε μ) ∧ (v1 ≠ 0 → (m_ty [(0, (2, v0)), (1, (0, v1)), (2, (0, v2))] [] ε μ → (v1 ≠ (1 : Int) → (m_ty [(0, (2, v0)), (1, (0, v1)), (2, (0, v2))] [] ε μ → (v1 ≠ (2 : Int) → (m_ty [] [] ε μ → G cd_X8_boundAt Q X 87 [] [(0, (-1))] ε μ)) ∧ (v1 = (2 : Int) → (m_ty [(0, (2, v0)), (2, (0, v2))] [] ε μ → (v2 < 0 → (m_ty [] [] ε μ → G cd_X8_boundAt Q X 87 [] [(0, (-1))] ε μ)) ∧ (0 ≤ v2 → (m_ty [(0, (2, v0)), (2, (0, v2))] [] ε μ → (kd ε v0 = 7) ∧ ((μ v0 8) ≤ v2 → (m_ty [] [] ε μ → G cd_X8_boundAt Q X 87 [] [(0, (-1))] ε μ)) ∧ (v2 < (μ v0 8) → (m_ty [(0, (2, v0)), (2, (0, v2))] [] ε μ → ((4 : Int) ≤ v2 → (m_ty [] [] ε μ → G cd_X8_boundAt Q X 87 [] [(0, (-1))] ε μ)) ∧ (v2 < (4 : Int) → (m_ty [(0, (2, v0)), (2, (0, v2))] [] ε μ → (kd ε v0 = 7) ∧ (kd ε (fn ε v0 5) = 100) ∧ ((0 : Int) ≤ v2 ∧ v2 < ln ε (fn ε v0 5)) ∧ G cd_X8_boundAt Q X 87 [] [(0, μ (fn ε v0 5) v2)] ε μ)))))))))) ∧ (v1 = (1 : Int) → G cd_X8_boundAt Q X 9 [(0, (2, v0)), (1, (0, v1)), (2, (0, v2))] [] ε μ)))
  intro hty
  replace h := h hty.1 (hty.2.1 _ (List.mem_of_getElem? (i := 1) rfl)) (hty.2.1 _ (List.mem_of_getElem? (i := 2) rfl))
  obtain ⟨ha, hb⟩ := h
  refine And.intro (fun c10 => ?_) (fun c10 => ?_)
  · replace h := ha c10
    clear ha hb
    exact h
  · replace h := hb c10
    clear ha hb
    intro _
    obtain ⟨ha, hb⟩ := h
    refine And.intro (fun c9 => ?_) (fun c9 => ?_)
    · replace h := ha c9
      clear ha hb
      intro _
      obtain ⟨hc, hj⟩ := h
      refine And.intro (fun c0 => ?_) (fun c0 => ?_)
      · intro _
        exact g_X8_boundAt_87 (fun _ _ => (hj _ (((if_neg (c0)).trans rfl)).symm))
      · replace hc := hc c0
        intro _
        refine And.intro (fun c1 => ?_) (fun c1 => ?_)
        · intro _
          exact g_X8_boundAt_87 (fun _ _ => (hj _ (((if_pos c0).trans ((if_pos c1).trans rfl))).symm))
        · replace hc := hc c1
          intro _
          obtain ⟨k3, k9⟩ := hc
          refine And.intro k3 ?_
          refine And.intro (fun c3 => ?_) (fun c3 => ?_)
          · intro _
            exact g_X8_boundAt_87 (fun _ _ => (hj _ (((if_pos c0).trans ((if_neg (Int.not_lt.mpr c1)).trans ((if_pos c3).trans rfl)))).symm))
          · replace k9 := k9 c3
            intro _
            refine And.intro (fun c4 => ?_) (fun c4 => ?_)
            · intro _
              exact g_X8_boundAt_87 (fun _ _ => (hj _ (((if_pos c0).trans ((if_neg (Int.not_lt.mpr c1)).trans ((if_neg (Int.not_le.mpr c3)).trans ((if_pos c4).trans rfl))))).symm))
            · replace k9 := k9 c4
              intro _
              obtain ⟨k6, k7, k8⟩ := k9
              refine And.intro k3 ?_
              refine And.intro k6 ?_
              refine And.intro (And.intro k7 k8) ?_
              exact g_X8_boundAt_87 (fun _ _ => (hj _ (((if_pos c0).trans ((if_neg (Int.not_lt.mpr c1)).trans ((if_neg (Int.not_le.mpr c3)).trans ((if_neg (Int.not_le.mpr c4)).trans rfl))))).symm))
    · replace h := hb c9
      clear ha hb
      exact h
theorem e_X8_boundAt {Q X : m_Po} {v0 v1 v2 : Int} {ε : m_E} {μ : m_M} (h : TY ε μ → i32 v1 → i32 v2 → (v1 = 0 → G cd_X8_boundAt Q X 9 [(0, (2, v0)), (1, (0, v1)), (2, (0, v2))] [] ε μ) ∧ (v1 ≠ 0 → (v1 ≠ (1 : Int) → ((v1 = (2 : Int) → (0 ≤ v2 → kd ε v0 = 7 ∧ (v2 < (μ v0 8) → (v2 < (4 : Int) → kd ε (fn ε v0 5) = 100 ∧ (0 : Int) ≤ v2 ∧ v2 < ln ε (fn ε v0 5)))))) ∧ ∀ t : Int, t = (if v1 = (2 : Int) then if v2 < 0 then (-1) else if (μ v0 8) ≤ v2 then (-1) else if (4 : Int) ≤ v2 then (-1) else μ (fn ε v0 5) v2 else (-1)) → Q t ε μ) ∧ (v1 = (1 : Int) → G cd_X8_boundAt Q X 9 [(0, (2, v0)), (1, (0, v1)), (2, (0, v2))] [] ε μ))) : o_X8_boundAt [(2, v0), (0, v1), (0, v2)] ε μ Q X := And.intro rfl (g_X8_boundAt_0 h)
/-! ArchYard$Verdict.writeNumber(ILArchYard$Page;)I -/
set_option maxRecDepth 20000 in
theorem g_X8_writeNumber_36 {Q X : m_Po} {t : Int} {ε : m_E} {μ : m_M} (h : TY ε μ → i32 t → Q t ε μ) : G cd_X8_writeNumber Q X 36 [] [(0, t)] ε μ := by
  refine G_run (m_in [36]) 6 _ _ _ _ ?_
  show m_ty [] [(0, t)] ε μ → Q t ε μ
  intro hty
  replace h := h hty.1 (hty.2.2 _ (List.mem_of_getElem? (i := 0) rfl))
  exact h
set_option maxRecDepth 20000 in
theorem g_X8_writeNumber_0 {Q X : m_Po} {v0 v1 v2 : Int} {ε : m_E} {μ : m_M} (h : TY ε μ → i32 v1 → (v1 < 0 → Q (-1) ε μ) ∧ (0 ≤ v1 → (v1 < (6 : Int) → kd ε v0 = 7 ∧ kd ε (fn ε v0 0) = 101 ∧ (0 : Int) ≤ v1 ∧ v1 < ln ε (fn ε v0 0) ∧ kd ε (fn ε v0 1) = 101 ∧ v1 < ln ε (fn ε v0 1) ∧ kd ε (fn ε v0 2) = 101 ∧ (0 : Int) ≤ w32 (Int.tdiv v1 3) ∧ w32 (Int.tdiv v1 3) < ln ε (fn ε v0 2) ∧ kd ε v2 = 4 ∧ o_X4_write [(2, v2), (1, μ (fn ε v0 0) v1), (1, μ (fn ε v0 1) v1), (1, μ (fn ε v0 2) (w32 (Int.tdiv v1 3)))] ε μ (fun z ε_1 μ_1 => G cd_X8_writeNumber Q X 36 [] [(0, z)] ε_1 μ_1) m_F) ∧ ((6 : Int) ≤ v1 → Q (-1) ε μ))) : G cd_X8_writeNumber Q X 0 [(0, (2, v0)), (1, (0, v1)), (2, (2, v2))] [] ε μ := by
  refine G_run (m_in [36]) 6 _ _ _ _ ?_
  show m_ty [(0, (2, v0)), (1, (0, v1)), (2, (2, v2))] [] ε μ → (v1 < 0 → (m_ty [] [] ε μ → Q (-1) ε μ)) ∧ (0 ≤ v1 → (m_ty [(0, (2, v0)), (1, (0, v1)), (2, (2, v2))] [] ε μ → (v1 < (6 : Int) → (m_ty [(0, (2, v0)), (1, (0, v1)), (2, (2, v2))] [] ε μ → (kd ε v0 = 7) ∧ (kd ε (fn ε v0 0) = 101) ∧ ((0 : Int) ≤ v1 ∧ v1 < ln ε (fn ε v0 0)) ∧ (kd ε v0 = 7) ∧ (kd ε (fn ε v0 1) = 101) ∧ ((0 : Int) ≤ v1 ∧ v1 < ln ε (fn ε v0 1)) ∧ (kd ε v0 = 7) ∧ (3 : Int) ≠ 0 ∧ (kd ε (fn ε v0 2) = 101) ∧ ((0 : Int) ≤ w32 (Int.tdiv v1 3) ∧ w32 (Int.tdiv v1 3) < ln ε (fn ε v0 2)) ∧ (kd ε v2 = 4) ∧ o_X4_write [(2, v2), (1, μ (fn ε v0 0) v1), (1, μ (fn ε v0 1) v1), (1, μ (fn ε v0 2) (w32 (Int.tdiv v1 3)))] ε μ (fun z ε_1 μ_1 => G cd_X8_writeNumber Q X 36 [] [(0, z)] ε_1 μ_1) m_F)) ∧ ((6 : Int) ≤ v1 → (m_ty [] [] ε μ → Q (-1) ε μ))))
  intro hty
  replace h := h hty.1 (hty.2.1 _ (List.mem_of_getElem? (i := 1) rfl))
  obtain ⟨ha, hb⟩ := h
  refine And.intro (fun c11 => ?_) (fun c11 => ?_)
  · replace h := ha c11
    clear ha hb
    intro _
    exact h
  · replace h := hb c11
    clear ha hb
    intro _
    obtain ⟨ha, hb⟩ := h
    refine And.intro (fun c10 => ?_) (fun c10 => ?_)
    · replace h := ha c10
      clear ha hb
      intro _
      obtain ⟨k1, h⟩ := h
      refine And.intro k1 ?_
      obtain ⟨k2, h⟩ := h
      refine And.intro k2 ?_
      obtain ⟨k3, h⟩ := h
      obtain ⟨k4, h⟩ := h
      refine And.intro (And.intro k3 k4) ?_
      refine And.intro k1 ?_
      obtain ⟨k5, h⟩ := h
      refine And.intro k5 ?_
      obtain ⟨k6, h⟩ := h
      refine And.intro (And.intro k3 k6) ?_
      refine And.intro k1 ?_
      refine And.intro (by decide) ?_
      obtain ⟨k7, h⟩ := h
      refine And.intro k7 ?_
      obtain ⟨k8, h⟩ := h
      obtain ⟨k9, h⟩ := h
      refine And.intro (And.intro k8 k9) ?_
      obtain ⟨k10, h⟩ := h
      refine And.intro k10 ?_
      exact h
    · replace h := hb c10
      clear ha hb
      intro _
      exact h
theorem e_X8_writeNumber {Q X : m_Po} {v0 v1 v2 : Int} {ε : m_E} {μ : m_M} (h : TY ε μ → i32 v1 → (v1 < 0 → Q (-1) ε μ) ∧ (0 ≤ v1 → (v1 < (6 : Int) → kd ε v0 = 7 ∧ kd ε (fn ε v0 0) = 101 ∧ (0 : Int) ≤ v1 ∧ v1 < ln ε (fn ε v0 0) ∧ kd ε (fn ε v0 1) = 101 ∧ v1 < ln ε (fn ε v0 1) ∧ kd ε (fn ε v0 2) = 101 ∧ (0 : Int) ≤ w32 (Int.tdiv v1 3) ∧ w32 (Int.tdiv v1 3) < ln ε (fn ε v0 2) ∧ kd ε v2 = 4 ∧ o_X4_write [(2, v2), (1, μ (fn ε v0 0) v1), (1, μ (fn ε v0 1) v1), (1, μ (fn ε v0 2) (w32 (Int.tdiv v1 3)))] ε μ (fun z ε_1 μ_1 => G cd_X8_writeNumber Q X 36 [] [(0, z)] ε_1 μ_1) m_F) ∧ ((6 : Int) ≤ v1 → Q (-1) ε μ))) : o_X8_writeNumber [(2, v0), (0, v1), (2, v2)] ε μ Q X := And.intro rfl (g_X8_writeNumber_0 h)
/-! ArchYard$Verdict.writeWeight(ILArchYard$Page;)I -/
set_option maxRecDepth 20000 in
theorem g_X8_writeWeight_63 {Q X : m_Po} {t : Int} {ε : m_E} {μ : m_M} (h : TY ε μ → i32 t → Q t ε μ) : G cd_X8_writeWeight Q X 63 [] [(0, t)] ε μ := by
  refine G_run (m_in [31, 32, 63]) 11 _ _ _ _ ?_
  show m_ty [] [(0, t)] ε μ → Q t ε μ
  intro hty
  replace h := h hty.1 (hty.2.2 _ (List.mem_of_getElem? (i := 0) rfl))
  exact h
set_option maxRecDepth 20000 in
theorem g_X8_writeWeight_32 {Q X : m_Po} {v0 v1 v2 : Int} {ε : m_E} {μ : m_M} (h : TY ε μ → i32 v1 → (v1 < 0 → Q (-1) ε μ) ∧ (0 ≤ v1 → kd ε v0 = 7 ∧ ((μ v0 8) ≤ v1 → Q (-1) ε μ) ∧ (v1 < (μ v0 8) → (v1 < (4 : Int) → kd ε (fn ε v0 6) = 101 ∧ (0 : Int) ≤ v1 ∧ v1 < ln ε (fn ε v0 6) ∧ kd ε v2 = 4 ∧ o_X4_write [(2, v2), (1, 0), (1, μ (fn ε v0 6) v1), (1, 1)] ε μ (fun z ε_1 μ_1 => G cd_X8_writeWeight Q X 63 [] [(0, z)] ε_1 μ_1) m_F) ∧ ((4 : Int) ≤ v1 → Q (-1) ε μ)))) : G cd_X8_writeWeight Q X 32 [(0, (2, v0)), (1, (0, v1)), (2, (2, v2))] [] ε μ := by
  refine G_run (m_in [31, 32, 63]) 11 _ _ _ _ ?_
  show m_ty [(0, (2, v0)), (1, (0, v1)), (2, (2, v2))] [] ε μ → (v1 < 0 → (m_ty [] [] ε μ → Q (-1) ε μ)) ∧ (0 ≤ v1 → (m_ty [(0, (2, v0)), (1, (0, v1)), (2, (2, v2))] [] ε μ → (kd ε v0 = 7) ∧ ((μ v0 8) ≤ v1 → (m_ty [] [] ε μ → Q (-1) ε μ)) ∧ (v1 < (μ v0 8) → (m_ty [(0, (2, v0)), (1, (0, v1)), (2, (2, v2))] [] ε μ → (v1 < (4 : Int) → (m_ty [(0, (2, v0)), (1, (0, v1)), (2, (2, v2))] [] ε μ → (kd ε v0 = 7) ∧ (kd ε (fn ε v0 6) = 101) ∧ ((0 : Int) ≤ v1 ∧ v1 < ln ε (fn ε v0 6)) ∧ (kd ε v2 = 4) ∧ o_X4_write [(2, v2), (1, 0), (1, μ (fn ε v0 6) v1), (1, 1)] ε μ (fun z ε_1 μ_1 => G cd_X8_writeWeight Q X 63 [] [(0, z)] ε_1 μ_1) m_F)) ∧ ((4 : Int) ≤ v1 → (m_ty [] [] ε μ → Q (-1) ε μ))))))
  intro hty
  replace h := h hty.1 (hty.2.1 _ (List.mem_of_getElem? (i := 1) rfl))
  obtain ⟨ha, hb⟩ := h
  refine And.intro (fun c7 => ?_) (fun c7 => ?_)
  · replace h := ha c7
    clear ha hb
    intro _
    exact h
  · replace h := hb c7
    clear ha hb
    intro _
    obtain ⟨k1, h⟩ := h
    refine And.intro k1 ?_
    obtain ⟨ha, hb⟩ := h
    refine And.intro (fun c6 => ?_) (fun c6 => ?_)
    · replace h := ha c6
      clear ha hb
      intro _
      exact h
    · replace h := hb c6
      clear ha hb
      intro _
      obtain ⟨ha, hb⟩ := h
      refine And.intro (fun c5 => ?_) (fun c5 => ?_)
      · replace h := ha c5
        clear ha hb
        intro _
        refine And.intro k1 ?_
        obtain ⟨k2, h⟩ := h
        refine And.intro k2 ?_
        obtain ⟨k3, h⟩ := h
        obtain ⟨k4, h⟩ := h
        refine And.intro (And.intro k3 k4) ?_
        obtain ⟨k5, h⟩ := h
        refine And.intro k5 ?_
        exact h
      · replace h := hb c5
        clear ha hb
        intro _
        exact h
set_option maxRecDepth 20000 in
theorem g_X8_writeWeight_31 {Q X : m_Po} {t : Int} {ε : m_E} {μ : m_M} (h : TY ε μ → i32 t → Q t ε μ) : G cd_X8_writeWeight Q X 31 [] [(0, t)] ε μ := by
  refine G_run (m_in [31, 32, 63]) 11 _ _ _ _ ?_
  show m_ty [] [(0, t)] ε μ → Q t ε μ
  intro hty
  replace h := h hty.1 (hty.2.2 _ (List.mem_of_getElem? (i := 0) rfl))
  exact h
set_option maxRecDepth 20000 in
theorem g_X8_writeWeight_0 {Q X : m_Po} {v0 v1 v2 : Int} {ε : m_E} {μ : m_M} (h : TY ε μ → i32 v1 → (v1 ≠ (4 : Int) → G cd_X8_writeWeight Q X 32 [(0, (2, v0)), (1, (0, v1)), (2, (2, v2))] [] ε μ) ∧ (v1 = (4 : Int) → kd ε v0 = 7 ∧ ((μ v0 8) ≤ 0 → G cd_X8_writeWeight Q X 32 [(0, (2, v0)), (1, (0, v1)), (2, (2, v2))] [] ε μ) ∧ (0 < (μ v0 8) → kd ε (fn ε v0 7) = 8 ∧ kd ε v2 = 4 ∧ o_X4_write [(2, v2), (1, μ (fn ε v0 7) 0), (1, μ (fn ε v0 7) 1), (1, 1)] ε μ (fun z ε_1 μ_1 => G cd_X8_writeWeight Q X 31 [] [(0, z)] ε_1 μ_1) m_F))) : G cd_X8_writeWeight Q X 0 [(0, (2, v0)), (1, (0, v1)), (2, (2, v2))] [] ε μ := by
  refine G_run (m_in [31, 32, 63]) 11 _ _ _ _ ?_
  show m_ty [(0, (2, v0)), (1, (0, v1)), (2, (2, v2))] [] ε μ → (v1 ≠ (4 : Int) → G cd_X8_writeWeight Q X 32 [(0, (2, v0)), (1, (0, v1)), (2, (2, v2))] [] ε μ) ∧ (v1 = (4 : Int) → (m_ty [(0, (2, v0)), (1, (0, v1)), (2, (2, v2))] [] ε μ → (kd ε v0 = 7) ∧ ((μ v0 8) ≤ 0 → G cd_X8_writeWeight Q X 32 [(0, (2, v0)), (1, (0, v1)), (2, (2, v2))] [] ε μ) ∧ (0 < (μ v0 8) → (m_ty [(0, (2, v0)), (2, (2, v2))] [] ε μ → (kd ε v0 = 7) ∧ (kd ε (fn ε v0 7) = 8) ∧ (kd ε v0 = 7) ∧ (kd ε (fn ε v0 7) = 8) ∧ (kd ε v2 = 4) ∧ o_X4_write [(2, v2), (1, μ (fn ε v0 7) 0), (1, μ (fn ε v0 7) 1), (1, 1)] ε μ (fun z ε_1 μ_1 => G cd_X8_writeWeight Q X 31 [] [(0, z)] ε_1 μ_1) m_F))))
  intro hty
  replace h := h hty.1 (hty.2.1 _ (List.mem_of_getElem? (i := 1) rfl))
  obtain ⟨ha, hb⟩ := h
  refine And.intro (fun c4 => ?_) (fun c4 => ?_)
  · replace h := ha c4
    clear ha hb
    exact h
  · replace h := hb c4
    clear ha hb
    intro _
    obtain ⟨k1, h⟩ := h
    refine And.intro k1 ?_
    obtain ⟨ha, hb⟩ := h
    refine And.intro (fun c3 => ?_) (fun c3 => ?_)
    · replace h := ha c3
      clear ha hb
      exact h
    · replace h := hb c3
      clear ha hb
      intro _
      refine And.intro k1 ?_
      obtain ⟨k2, h⟩ := h
      refine And.intro k2 ?_
      refine And.intro k1 ?_
      refine And.intro k2 ?_
      obtain ⟨k3, h⟩ := h
      refine And.intro k3 ?_
      exact h
theorem e_X8_writeWeight {Q X : m_Po} {v0 v1 v2 : Int} {ε : m_E} {μ : m_M} (h : TY ε μ → i32 v1 → (v1 ≠ (4 : Int) → G cd_X8_writeWeight Q X 32 [(0, (2, v0)), (1, (0, v1)), (2, (2, v2))] [] ε μ) ∧ (v1 = (4 : Int) → kd ε v0 = 7 ∧ ((μ v0 8) ≤ 0 → G cd_X8_writeWeight Q X 32 [(0, (2, v0)), (1, (0, v1)), (2, (2, v2))] [] ε μ) ∧ (0 < (μ v0 8) → kd ε (fn ε v0 7) = 8 ∧ kd ε v2 = 4 ∧ o_X4_write [(2, v2), (1, μ (fn ε v0 7) 0), (1, μ (fn ε v0 7) 1), (1, 1)] ε μ (fun z ε_1 μ_1 => G cd_X8_writeWeight Q X 31 [] [(0, z)] ε_1 μ_1) m_F))) : o_X8_writeWeight [(2, v0), (0, v1), (2, v2)] ε μ Q X := And.intro rfl (g_X8_writeWeight_0 h)
/-! ArchYard.<init>()V -/
set_option maxRecDepth 20000 in
theorem g_X10_init_83 {Q X : m_Po} {v0 t t_1 : Int} {ε : m_E} {μ : m_M} (h : TY ε μ → kd ε t = 9 ∧ ∀ ε_1 : m_E, ε_1 = efin ε t 7 t_1 → ∀ (a : Int) (ε_2 : m_E) (μ_1 : m_M), a = nx ε_1 → ε_2 = ealloc ε_1 103 100 → μ_1 = mnew μ a → kd ε_2 v0 = 9 ∧ ∀ ε_3 : m_E, ε_3 = efin ε_2 v0 8 a → kd ε_3 v0 = 9 ∧ ∀ μ_2 : m_M, μ_2 = st μ_1 v0 9 0 → ∀ μ_3 : m_M, μ_3 = st μ_2 v0 10 0 → ∀ μ_4 : m_M, μ_4 = st μ_3 v0 11 0 → Q 0 ε_3 μ_4) : G cd_X10_init Q X 83 [(0, (2, v0))] [(2, t_1), (2, t)] ε μ := by
  refine G_run (m_in [39, 50, 61, 72, 83]) 7 _ _ _ _ ?_
  show m_ty [(0, (2, v0))] [(2, t_1), (2, t)] ε μ → (kd ε t = 9) ∧ ∀ ε_1 : m_E, ε_1 = efin ε t 7 t_1 → ((0 : Int) ≤ 100 ∧ (100 : Int) ≤ 100) ∧ ∀ (a : Int) (ε_2 : m_E) (μ_1 : m_M), a = nx ε_1 → ε_2 = ealloc ε_1 103 100 → μ_1 = mnew μ a → (kd ε_2 v0 = 9) ∧ ∀ ε_3 : m_E, ε_3 = efin ε_2 v0 8 a → (kd ε_3 v0 = 9) ∧ ∀ μ_2 : m_M, μ_2 = st μ_1 v0 9 0 → (kd ε_3 v0 = 9) ∧ ∀ μ_3 : m_M, μ_3 = st μ_2 v0 10 0 → (kd ε_3 v0 = 9) ∧ ∀ μ_4 : m_M, μ_4 = st μ_3 v0 11 0 → Q 0 ε_3 μ_4
  intro hty
  replace h := h hty.1 
  obtain ⟨k1, h⟩ := h
  refine And.intro k1 ?_
  intro ε_1 e_ε_1
  replace h := h ε_1 e_ε_1
  refine And.intro (And.intro (by decide) (by decide)) ?_
  intro a ε_2 μ_1 e_a e_ε_2 e_μ_1
  replace h := h a ε_2 μ_1 e_a e_ε_2 e_μ_1
  obtain ⟨k2, h⟩ := h
  refine And.intro k2 ?_
  intro ε_3 e_ε_3
  replace h := h ε_3 e_ε_3
  obtain ⟨k3, h⟩ := h
  refine And.intro k3 ?_
  intro μ_2 e_μ_2
  replace h := h μ_2 e_μ_2
  refine And.intro k3 ?_
  intro μ_3 e_μ_3
  replace h := h μ_3 e_μ_3
  refine And.intro k3 ?_
  intro μ_4 e_μ_4
  replace h := h μ_4 e_μ_4
  exact h
set_option maxRecDepth 20000 in
theorem g_X10_init_72 {Q X : m_Po} {v0 t t_1 : Int} {ε : m_E} {μ : m_M} (h : TY ε μ → kd ε t = 9 ∧ ∀ ε_1 : m_E, ε_1 = efin ε t 6 t_1 → ∀ (a : Int) (ε_2 : m_E) (μ_1 : m_M), a = nx ε_1 → ε_2 = ealloc ε_1 4 0 → μ_1 = mnew μ a → kd ε_2 a = 4 ∧ o_X4_init [(2, a)] ε_2 μ_1 (fun z ε_3 μ_2 => G cd_X10_init Q X 83 [(0, (2, v0))] [(2, a), (2, v0)] ε_3 μ_2) m_F) : G cd_X10_init Q X 72 [(0, (2, v0))] [(2, t_1), (2, t)] ε μ := by
  refine G_run (m_in [39, 50, 61, 72, 83]) 7 _ _ _ _ ?_
  show m_ty [(0, (2, v0))] [(2, t_1), (2, t)] ε μ → (kd ε t = 9) ∧ ∀ ε_1 : m_E, ε_1 = efin ε t 6 t_1 → ∀ (a : Int) (ε_2 : m_E) (μ_1 : m_M), a = nx ε_1 → ε_2 = ealloc ε_1 4 0 → μ_1 = mnew μ a → (kd ε_2 a = 4) ∧ o_X4_init [(2, a)] ε_2 μ_1 (fun z ε_3 μ_2 => G cd_X10_init Q X 83 [(0, (2, v0))] [(2, a), (2, v0)] ε_3 μ_2) m_F
  intro hty
  replace h := h hty.1 
  obtain ⟨k1, h⟩ := h
  refine And.intro k1 ?_
  intro ε_1 e_ε_1
  replace h := h ε_1 e_ε_1
  intro a ε_2 μ_1 e_a e_ε_2 e_μ_1
  replace h := h a ε_2 μ_1 e_a e_ε_2 e_μ_1
  obtain ⟨k2, h⟩ := h
  refine And.intro k2 ?_
  exact h
set_option maxRecDepth 20000 in
theorem g_X10_init_61 {Q X : m_Po} {v0 t t_1 : Int} {ε : m_E} {μ : m_M} (h : TY ε μ → kd ε t = 9 ∧ ∀ ε_1 : m_E, ε_1 = efin ε t 5 t_1 → ∀ (a : Int) (ε_2 : m_E) (μ_1 : m_M), a = nx ε_1 → ε_2 = ealloc ε_1 7 0 → μ_1 = mnew μ a → kd ε_2 a = 7 ∧ o_X8_init [(2, a)] ε_2 μ_1 (fun z ε_3 μ_2 => G cd_X10_init Q X 72 [(0, (2, v0))] [(2, a), (2, v0)] ε_3 μ_2) m_F) : G cd_X10_init Q X 61 [(0, (2, v0))] [(2, t_1), (2, t)] ε μ := by
  refine G_run (m_in [39, 50, 61, 72, 83]) 7 _ _ _ _ ?_
  show m_ty [(0, (2, v0))] [(2, t_1), (2, t)] ε μ → (kd ε t = 9) ∧ ∀ ε_1 : m_E, ε_1 = efin ε t 5 t_1 → ∀ (a : Int) (ε_2 : m_E) (μ_1 : m_M), a = nx ε_1 → ε_2 = ealloc ε_1 7 0 → μ_1 = mnew μ a → (kd ε_2 a = 7) ∧ o_X8_init [(2, a)] ε_2 μ_1 (fun z ε_3 μ_2 => G cd_X10_init Q X 72 [(0, (2, v0))] [(2, a), (2, v0)] ε_3 μ_2) m_F
  intro hty
  replace h := h hty.1 
  obtain ⟨k1, h⟩ := h
  refine And.intro k1 ?_
  intro ε_1 e_ε_1
  replace h := h ε_1 e_ε_1
  intro a ε_2 μ_1 e_a e_ε_2 e_μ_1
  replace h := h a ε_2 μ_1 e_a e_ε_2 e_μ_1
  obtain ⟨k2, h⟩ := h
  refine And.intro k2 ?_
  exact h
set_option maxRecDepth 20000 in
theorem g_X10_init_50 {Q X : m_Po} {v0 t t_1 : Int} {ε : m_E} {μ : m_M} (h : TY ε μ → kd ε t = 9 ∧ ∀ ε_1 : m_E, ε_1 = efin ε t 4 t_1 → ∀ (a : Int) (ε_2 : m_E) (μ_1 : m_M), a = nx ε_1 → ε_2 = ealloc ε_1 3 0 → μ_1 = mnew μ a → kd ε_2 a = 3 ∧ o_X3_init [(2, a)] ε_2 μ_1 (fun z ε_3 μ_2 => G cd_X10_init Q X 61 [(0, (2, v0))] [(2, a), (2, v0)] ε_3 μ_2) m_F) : G cd_X10_init Q X 50 [(0, (2, v0))] [(2, t_1), (2, t)] ε μ := by
  refine G_run (m_in [39, 50, 61, 72, 83]) 7 _ _ _ _ ?_
  show m_ty [(0, (2, v0))] [(2, t_1), (2, t)] ε μ → (kd ε t = 9) ∧ ∀ ε_1 : m_E, ε_1 = efin ε t 4 t_1 → ∀ (a : Int) (ε_2 : m_E) (μ_1 : m_M), a = nx ε_1 → ε_2 = ealloc ε_1 3 0 → μ_1 = mnew μ a → (kd ε_2 a = 3) ∧ o_X3_init [(2, a)] ε_2 μ_1 (fun z ε_3 μ_2 => G cd_X10_init Q X 61 [(0, (2, v0))] [(2, a), (2, v0)] ε_3 μ_2) m_F
  intro hty
  replace h := h hty.1 
  obtain ⟨k1, h⟩ := h
  refine And.intro k1 ?_
  intro ε_1 e_ε_1
  replace h := h ε_1 e_ε_1
  intro a ε_2 μ_1 e_a e_ε_2 e_μ_1
  replace h := h a ε_2 μ_1 e_a e_ε_2 e_μ_1
  obtain ⟨k2, h⟩ := h
  refine And.intro k2 ?_
  exact h
set_option maxRecDepth 20000 in
theorem g_X10_init_39 {Q X : m_Po} {v0 t t_1 : Int} {ε : m_E} {μ : m_M} (h : TY ε μ → kd ε t = 9 ∧ ∀ ε_1 : m_E, ε_1 = efin ε t 3 t_1 → ∀ (a : Int) (ε_2 : m_E) (μ_1 : m_M), a = nx ε_1 → ε_2 = ealloc ε_1 2 0 → μ_1 = mnew μ a → kd ε_2 a = 2 ∧ o_X2_init [(2, a)] ε_2 μ_1 (fun z ε_3 μ_2 => G cd_X10_init Q X 50 [(0, (2, v0))] [(2, a), (2, v0)] ε_3 μ_2) m_F) : G cd_X10_init Q X 39 [(0, (2, v0))] [(2, t_1), (2, t)] ε μ := by
  refine G_run (m_in [39, 50, 61, 72, 83]) 7 _ _ _ _ ?_
  show m_ty [(0, (2, v0))] [(2, t_1), (2, t)] ε μ → (kd ε t = 9) ∧ ∀ ε_1 : m_E, ε_1 = efin ε t 3 t_1 → ∀ (a : Int) (ε_2 : m_E) (μ_1 : m_M), a = nx ε_1 → ε_2 = ealloc ε_1 2 0 → μ_1 = mnew μ a → (kd ε_2 a = 2) ∧ o_X2_init [(2, a)] ε_2 μ_1 (fun z ε_3 μ_2 => G cd_X10_init Q X 50 [(0, (2, v0))] [(2, a), (2, v0)] ε_3 μ_2) m_F
  intro hty
  replace h := h hty.1 
  obtain ⟨k1, h⟩ := h
  refine And.intro k1 ?_
  intro ε_1 e_ε_1
  replace h := h ε_1 e_ε_1
  intro a ε_2 μ_1 e_a e_ε_2 e_μ_1
  replace h := h a ε_2 μ_1 e_a e_ε_2 e_μ_1
  obtain ⟨k2, h⟩ := h
  refine And.intro k2 ?_
  exact h
set_option maxRecDepth 20000 in
theorem g_X10_init_0 {Q X : m_Po} {v0 : Int} {ε : m_E} {μ : m_M} (h : TY ε μ → 0 < v0 ∧ ∀ (a : Int) (ε_1 : m_E) (μ_1 : m_M), a = nx ε → ε_1 = ealloc ε 104 8 → μ_1 = mnew μ a → kd ε_1 v0 = 9 ∧ ∀ ε_2 : m_E, ε_2 = efin ε_1 v0 0 a → ∀ (a_1 : Int) (ε_3 : m_E) (μ_2 : m_M), a_1 = nx ε_2 → ε_3 = ealloc ε_2 105 120 → μ_2 = mnew μ_1 a_1 → kd ε_3 v0 = 9 ∧ ∀ ε_4 : m_E, ε_4 = efin ε_3 v0 1 a_1 → ∀ (a_2 : Int) (ε_5 : m_E) (μ_3 : m_M), a_2 = nx ε_4 → ε_5 = ealloc ε_4 106 12 → μ_3 = mnew μ_2 a_2 → kd ε_5 v0 = 9 ∧ ∀ ε_6 : m_E, ε_6 = efin ε_5 v0 2 a_2 → ∀ (a_3 : Int) (ε_7 : m_E) (μ_4 : m_M), a_3 = nx ε_6 → ε_7 = ealloc ε_6 1 0 → μ_4 = mnew μ_3 a_3 → kd ε_7 a_3 = 1 ∧ o_X1_init [(2, a_3)] ε_7 μ_4 (fun z ε_8 μ_5 => G cd_X10_init Q X 39 [(0, (2, v0))] [(2, a_3), (2, v0)] ε_8 μ_5) m_F) : G cd_X10_init Q X 0 [(0, (2, v0))] [] ε μ := by
  refine G_run (m_in [39, 50, 61, 72, 83]) 7 _ _ _ _ ?_
  show m_ty [(0, (2, v0))] [] ε μ → (0 < v0) ∧ m_cs [] ≤ 8 ∧ ((0 : Int) ≤ 8 ∧ (8 : Int) ≤ 8) ∧ ∀ (a : Int) (ε_1 : m_E) (μ_1 : m_M), a = nx ε → ε_1 = ealloc ε 104 8 → μ_1 = mnew μ a → (kd ε_1 v0 = 9) ∧ ∀ ε_2 : m_E, ε_2 = efin ε_1 v0 0 a → ((0 : Int) ≤ 120 ∧ (120 : Int) ≤ 120) ∧ ∀ (a_1 : Int) (ε_3 : m_E) (μ_2 : m_M), a_1 = nx ε_2 → ε_3 = ealloc ε_2 105 120 → μ_2 = mnew μ_1 a_1 → (kd ε_3 v0 = 9) ∧ ∀ ε_4 : m_E, ε_4 = efin ε_3 v0 1 a_1 → ((0 : Int) ≤ 12 ∧ (12 : Int) ≤ 12) ∧ ∀ (a_2 : Int) (ε_5 : m_E) (μ_3 : m_M), a_2 = nx ε_4 → ε_5 = ealloc ε_4 106 12 → μ_3 = mnew μ_2 a_2 → (kd ε_5 v0 = 9) ∧ ∀ ε_6 : m_E, ε_6 = efin ε_5 v0 2 a_2 → ∀ (a_3 : Int) (ε_7 : m_E) (μ_4 : m_M), a_3 = nx ε_6 → ε_7 = ealloc ε_6 1 0 → μ_4 = mnew μ_3 a_3 → (kd ε_7 a_3 = 1) ∧ o_X1_init [(2, a_3)] ε_7 μ_4 (fun z ε_8 μ_5 => G cd_X10_init Q X 39 [(0, (2, v0))] [(2, a_3), (2, v0)] ε_8 μ_5) m_F
  intro hty
  replace h := h hty.1 
  obtain ⟨k1, h⟩ := h
  refine And.intro k1 ?_
  refine And.intro (Nat.le_of_ble_eq_true rfl) ?_
  refine And.intro (And.intro (by decide) (by decide)) ?_
  intro a ε_1 μ_1 e_a e_ε_1 e_μ_1
  replace h := h a ε_1 μ_1 e_a e_ε_1 e_μ_1
  obtain ⟨k2, h⟩ := h
  refine And.intro k2 ?_
  intro ε_2 e_ε_2
  replace h := h ε_2 e_ε_2
  refine And.intro (And.intro (by decide) (by decide)) ?_
  intro a_1 ε_3 μ_2 e_a_1 e_ε_3 e_μ_2
  replace h := h a_1 ε_3 μ_2 e_a_1 e_ε_3 e_μ_2
  obtain ⟨k3, h⟩ := h
  refine And.intro k3 ?_
  intro ε_4 e_ε_4
  replace h := h ε_4 e_ε_4
  refine And.intro (And.intro (by decide) (by decide)) ?_
  intro a_2 ε_5 μ_3 e_a_2 e_ε_5 e_μ_3
  replace h := h a_2 ε_5 μ_3 e_a_2 e_ε_5 e_μ_3
  obtain ⟨k4, h⟩ := h
  refine And.intro k4 ?_
  intro ε_6 e_ε_6
  replace h := h ε_6 e_ε_6
  intro a_3 ε_7 μ_4 e_a_3 e_ε_7 e_μ_4
  replace h := h a_3 ε_7 μ_4 e_a_3 e_ε_7 e_μ_4
  obtain ⟨k5, h⟩ := h
  refine And.intro k5 ?_
  exact h
theorem e_X10_init {Q X : m_Po} {v0 : Int} {ε : m_E} {μ : m_M} (h : TY ε μ → 0 < v0 ∧ ∀ (a : Int) (ε_1 : m_E) (μ_1 : m_M), a = nx ε → ε_1 = ealloc ε 104 8 → μ_1 = mnew μ a → kd ε_1 v0 = 9 ∧ ∀ ε_2 : m_E, ε_2 = efin ε_1 v0 0 a → ∀ (a_1 : Int) (ε_3 : m_E) (μ_2 : m_M), a_1 = nx ε_2 → ε_3 = ealloc ε_2 105 120 → μ_2 = mnew μ_1 a_1 → kd ε_3 v0 = 9 ∧ ∀ ε_4 : m_E, ε_4 = efin ε_3 v0 1 a_1 → ∀ (a_2 : Int) (ε_5 : m_E) (μ_3 : m_M), a_2 = nx ε_4 → ε_5 = ealloc ε_4 106 12 → μ_3 = mnew μ_2 a_2 → kd ε_5 v0 = 9 ∧ ∀ ε_6 : m_E, ε_6 = efin ε_5 v0 2 a_2 → ∀ (a_3 : Int) (ε_7 : m_E) (μ_4 : m_M), a_3 = nx ε_6 → ε_7 = ealloc ε_6 1 0 → μ_4 = mnew μ_3 a_3 → kd ε_7 a_3 = 1 ∧ o_X1_init [(2, a_3)] ε_7 μ_4 (fun z ε_8 μ_5 => G cd_X10_init Q X 39 [(0, (2, v0))] [(2, a_3), (2, v0)] ε_8 μ_5) m_F) : o_X10_init [(2, v0)] ε μ Q X := And.intro rfl (g_X10_init_0 h)
/-! ArchYard.rack(I)I -/
set_option maxRecDepth 20000 in
theorem g_X10_rack_62 {Q X : m_Po} {v0 t t_1 t_2 : Int} {ε : m_E} {μ : m_M} (h : TY ε μ → i32 t_1 → kd ε t = 104 ∧ (0 : Int) ≤ t_1 ∧ t_1 < ln ε t ∧ (t_2 = 0 ∨ kd ε t_2 = 5) ∧ ∀ μ_1 : m_M, μ_1 = st μ t t_1 t_2 → kd ε v0 = 9 ∧ ∀ μ_2 : m_M, μ_2 = st μ_1 v0 9 (w32 ((μ_1 v0 9) + 1)) → Q (w32 ((μ_2 v0 9) - 1)) ε μ_2) : G cd_X10_rack Q X 62 [(0, (2, v0))] [(2, t_2), (0, t_1), (2, t)] ε μ := by
  refine G_run (m_in [19, 59, 62]) 11 _ _ _ _ ?_
  show m_ty [(0, (2, v0))] [(2, t_2), (0, t_1), (2, t)] ε μ → (kd ε t = 104) ∧ ((0 : Int) ≤ t_1 ∧ t_1 < ln ε t) ∧ (t_2 = 0 ∨ kd ε t_2 = 5) ∧ ∀ μ_1 : m_M, μ_1 = st μ t t_1 t_2 → (kd ε v0 = 9) ∧ (kd ε v0 = 9) ∧ ∀ μ_2 : m_M, μ_2 = st μ_1 v0 9 (w32 ((μ_1 v0 9) + 1)) → (kd ε v0 = 9) ∧ Q (w32 ((μ_2 v0 9) - 1)) ε μ_2
  intro hty
  replace h := h hty.1 (hty.2.2 _ (List.mem_of_getElem? (i := 1) rfl))
  obtain ⟨k1, h⟩ := h
  refine And.intro k1 ?_
  obtain ⟨k2, h⟩ := h
  obtain ⟨k3, h⟩ := h
  refine And.intro (And.intro k2 k3) ?_
  obtain ⟨k4, h⟩ := h
  refine And.intro k4 ?_
  intro μ_1 e_μ_1
  replace h := h μ_1 e_μ_1
  obtain ⟨k5, h⟩ := h
  refine And.intro k5 ?_
  refine And.intro k5 ?_
  intro μ_2 e_μ_2
  replace h := h μ_2 e_μ_2
  refine And.intro k5 ?_
  exact h
set_option maxRecDepth 20000 in
theorem g_X10_rack_59 {Q X : m_Po} {v0 t t_1 t_2 t_3 t_4 : Int} {ε : m_E} {μ : m_M} (h : TY ε μ → i32 t_1 → i32 t_4 → kd ε t_3 = 5 ∧ o_X5_init [(2, t_3), (0, t_4)] ε μ (fun z ε_1 μ_1 => G cd_X10_rack Q X 62 [(0, (2, v0))] [(2, t_2), (0, t_1), (2, t)] ε_1 μ_1) m_F) : G cd_X10_rack Q X 59 [(0, (2, v0))] [(0, t_4), (2, t_3), (2, t_2), (0, t_1), (2, t)] ε μ := by
  refine G_run (m_in [19, 59, 62]) 11 _ _ _ _ ?_
  show m_ty [(0, (2, v0))] [(0, t_4), (2, t_3), (2, t_2), (0, t_1), (2, t)] ε μ → (kd ε t_3 = 5) ∧ o_X5_init [(2, t_3), (0, t_4)] ε μ (fun z ε_1 μ_1 => G cd_X10_rack Q X 62 [(0, (2, v0))] [(2, t_2), (0, t_1), (2, t)] ε_1 μ_1) m_F
  intro hty
  replace h := h hty.1 (hty.2.2 _ (List.mem_of_getElem? (i := 3) rfl)) (hty.2.2 _ (List.mem_of_getElem? (i := 0) rfl))
  obtain ⟨k1, h⟩ := h
  refine And.intro k1 ?_
  exact h
set_option maxRecDepth 20000 in
theorem g_X10_rack_19 {Q X : m_Po} {v0 v1 : Int} {ε : m_E} {μ : m_M} (h : TY ε μ → i32 v1 → kd ε v0 = 9 ∧ ((μ v0 9) < (8 : Int) → ∀ (a : Int) (ε_1 : m_E) (μ_1 : m_M), a = nx ε → ε_1 = ealloc ε 5 0 → μ_1 = mnew μ a → ∀ t : Int, t = (if v1 = 0 then 1 else 0) → kd ε_1 a = 5 ∧ o_X5_init [(2, a), (0, t)] ε_1 μ_1 (fun z ε_2 μ_2 => G cd_X10_rack Q X 62 [(0, (2, v0))] [(2, a), (0, (μ v0 9)), (2, (fn ε v0 0))] ε_2 μ_2) m_F) ∧ ((8 : Int) ≤ (μ v0 9) → ∀ n : Int, nx ε ≤ n → X 3 (enx ε n) μ)) : G cd_X10_rack Q X 19 [(0, (2, v0)), (1, (0, v1))] [] ε μ := by
  refine G_run (m_in [19, 59, 62]) 11 _ _ _ _ ?_
  show m_ty [(0, (2, v0)), (1, (0, v1))] [] ε μ → (kd ε v0 = 9) ∧ ((μ v0 9) < (8 : Int) → (m_ty [(0, (2, v0)), (1, (0, v1))] [] ε μ → (kd ε v0 = 9) ∧ (kd ε v0 = 9) ∧ ∀ (a : Int) (ε_1 : m_E) (μ_1 : m_M), a = nx ε → ε_1 = ealloc ε 5 0 → μ_1 = mnew μ a → (v1 ≠ 0 → (m_ty [(0, (2, v0))] [(2, a), (2, a), (0, μ v0 9), (2, fn ε v0 0)] ε_1 μ_1 → G cd_X10_rack Q X 59 [(0, (2, v0))] [(0, 0), (2, a), (2, a), (0, μ v0 9), (2, fn ε v0 0)] ε_1 μ_1)) ∧ (v1 = 0 → (m_ty [(0, (2, v0))] [(2, a), (2, a), (0, μ v0 9), (2, fn ε v0 0)] ε_1 μ_1 → G cd_X10_rack Q X 59 [(0, (2, v0))] [(0, 1), (2, a), (2, a), (0, μ v0 9), (2, fn ε v0 0)] ε_1 μ_1)))) ∧ ((8 : Int) ≤ (μ v0 9) → (m_ty [] [] ε μ → ∀ n : Int, nx ε ≤ n → X 3 (enx ε n) μ))
  intro hty
  replace h := h hty.1 (hty.2.1 _ (List.mem_of_getElem? (i := 1) rfl))
  obtain ⟨k1, h⟩ := h
  refine And.intro k1 ?_
  obtain ⟨ha, hb⟩ := h
  refine And.intro (fun c3 => ?_) (fun c3 => ?_)
  · replace h := ha c3
    clear ha hb
    intro _
    refine And.intro k1 ?_
    refine And.intro k1 ?_
    intro a ε_1 μ_1 e_a e_ε_1 e_μ_1
    replace h := h a ε_1 μ_1 e_a e_ε_1 e_μ_1
    have hj := h
    refine And.intro (fun c1 => ?_) (fun c1 => ?_)
    · intro _
      exact g_X10_rack_59 (fun _ _ _ => (hj _ (((if_neg (c1)).trans rfl)).symm))
    · intro _
      exact g_X10_rack_59 (fun _ _ _ => (hj _ (((if_pos c1).trans rfl)).symm))
  · replace h := hb c3
    clear ha hb
    intro _
    exact h
set_option maxRecDepth 20000 in
theorem g_X10_rack_0 {Q X : m_Po} {v0 v1 : Int} {ε : m_E} {μ : m_M} (h : TY ε μ → i32 v1 → (v1 = 0 → G cd_X10_rack Q X 19 [(0, (2, v0)), (1, (0, v1))] [] ε μ) ∧ (v1 ≠ 0 → (v1 = (1 : Int) → G cd_X10_rack Q X 19 [(0, (2, v0)), (1, (0, v1))] [] ε μ) ∧ (v1 ≠ (1 : Int) → ∀ n : Int, nx ε ≤ n → X 2 (enx ε n) μ))) : G cd_X10_rack Q X 0 [(0, (2, v0)), (1, (0, v1))] [] ε μ := by
  refine G_run (m_in [19, 59, 62]) 11 _ _ _ _ ?_
  show m_ty [(0, (2, v0)), (1, (0, v1))] [] ε μ → (v1 = 0 → G cd_X10_rack Q X 19 [(0, (2, v0)), (1, (0, v1))] [] ε μ) ∧ (v1 ≠ 0 → (m_ty [(0, (2, v0)), (1, (0, v1))] [] ε μ → (v1 = (1 : Int) → G cd_X10_rack Q X 19 [(0, (2, v0)), (1, (0, v1))] [] ε μ) ∧ (v1 ≠ (1 : Int) → (m_ty [] [] ε μ → ∀ n : Int, nx ε ≤ n → X 2 (enx ε n) μ))))
  intro hty
  replace h := h hty.1 (hty.2.1 _ (List.mem_of_getElem? (i := 1) rfl))
  obtain ⟨ha, hb⟩ := h
  refine And.intro (fun c1 => ?_) (fun c1 => ?_)
  · replace h := ha c1
    clear ha hb
    exact h
  · replace h := hb c1
    clear ha hb
    intro _
    obtain ⟨ha, hb⟩ := h
    refine And.intro (fun c0 => ?_) (fun c0 => ?_)
    · replace h := ha c0
      clear ha hb
      exact h
    · replace h := hb c0
      clear ha hb
      intro _
      exact h
theorem e_X10_rack {Q X : m_Po} {v0 v1 : Int} {ε : m_E} {μ : m_M} (h : TY ε μ → i32 v1 → (v1 = 0 → G cd_X10_rack Q X 19 [(0, (2, v0)), (1, (0, v1))] [] ε μ) ∧ (v1 ≠ 0 → (v1 = (1 : Int) → G cd_X10_rack Q X 19 [(0, (2, v0)), (1, (0, v1))] [] ε μ) ∧ (v1 ≠ (1 : Int) → ∀ n : Int, nx ε ≤ n → X 2 (enx ε n) μ))) : o_X10_rack [(2, v0), (0, v1)] ε μ Q X := And.intro rfl (g_X10_rack_0 h)
/-! ArchYard.rackWithRow(II)LArchYard$Rack; -/
set_option maxRecDepth 20000 in
theorem g_X10_rackWithRow_0 {Q X : m_Po} {v0 v1 v2 : Int} {ε : m_E} {μ : m_M} (h : TY ε μ → i32 v1 → i32 v2 → (v1 < 0 → ∀ n : Int, nx ε ≤ n → X 1 (enx ε n) μ) ∧ (0 ≤ v1 → kd ε v0 = 9 ∧ ((μ v0 9) ≤ v1 → ∀ n_1 : Int, nx ε ≤ n_1 → X 1 (enx ε n_1) μ) ∧ (v1 < (μ v0 9) → kd ε (fn ε v0 0) = 104 ∧ (v1 < (ln ε (fn ε v0 0)) → (0 : Int) ≤ v1 ∧ v1 < ln ε (fn ε v0 0) ∧ ∀ v3 : Int, v3 = μ (fn ε v0 0) v1 → (v3 = 0 → ∀ n_2 : Int, nx ε ≤ n_2 → X 1 (enx ε n_2) μ) ∧ (0 < v3 → (v2 < 0 → ∀ n_3 : Int, nx ε ≤ n_3 → X 1 (enx ε n_3) μ) ∧ (0 ≤ v2 → (v2 < (40 : Int) → Q v3 ε μ) ∧ ((40 : Int) ≤ v2 → ∀ n_4 : Int, nx ε ≤ n_4 → X 1 (enx ε n_4) μ)))) ∧ ((ln ε (fn ε v0 0)) ≤ v1 → ∀ n_5 : Int, nx ε ≤ n_5 → X 1 (enx ε n_5) μ)))) : G cd_X10_rackWithRow Q X 0 [(0, (2, v0)), (1, (0, v1)), (2, (0, v2))] [] ε μ := by
  refine G_run (m_in []) 10 _ _ _ _ ?_
  show m_ty [(0, (2, v0)), (1, (0, v1)), (2, (0, v2))] [] ε μ → (v1 < 0 → (m_ty [] [] ε μ → ∀ n : Int, nx ε ≤ n → X 1 (enx ε n) μ)) ∧ (0 ≤ v1 → (m_ty [(0, (2, v0)), (1, (0, v1)), (2, (0, v2))] [] ε μ → (kd ε v0 = 9) ∧ ((μ v0 9) ≤ v1 → (m_ty [] [] ε μ → ∀ n_1 : Int, nx ε ≤ n_1 → X 1 (enx ε n_1) μ)) ∧ (v1 < (μ v0 9) → (m_ty [(0, (2, v0)), (1, (0, v1)), (2, (0, v2))] [] ε μ → (kd ε v0 = 9) ∧ (kd ε (fn ε v0 0) = 104) ∧ (v1 < (ln ε (fn ε v0 0)) → (m_ty [(0, (2, v0)), (1, (0, v1)), (2, (0, v2))] [] ε μ → (kd ε v0 = 9) ∧ (kd ε (fn ε v0 0) = 104) ∧ ((0 : Int) ≤ v1 ∧ v1 < ln ε (fn ε v0 0)) ∧ ∀ v3 : Int, v3 = μ (fn ε v0 0) v1 → (v3 = 0 → (m_ty [] [] ε μ → ∀ n_2 : Int, nx ε ≤ n_2 → X 1 (enx ε n_2) μ)) ∧ (0 < v3 → (m_ty [(2, (0, v2)), (3, (2, v3))] [] ε μ → (v2 < 0 → (m_ty [] [] ε μ → ∀ n_3 : Int, nx ε ≤ n_3 → X 1 (enx ε n_3) μ)) ∧ (0 ≤ v2 → (m_ty [(2, (0, v2)), (3, (2, v3))] [] ε μ → (v2 < (40 : Int) → (m_ty [(3, (2, v3))] [] ε μ → Q v3 ε μ)) ∧ ((40 : Int) ≤ v2 → (m_ty [] [] ε μ → ∀ n_4 : Int, nx ε ≤ n_4 → X 1 (enx ε n_4) μ)))))))) ∧ ((ln ε (fn ε v0 0)) ≤ v1 → (m_ty [] [] ε μ → ∀ n_5 : Int, nx ε ≤ n_5 → X 1 (enx ε n_5) μ))))))
  intro hty
  replace h := h hty.1 (hty.2.1 _ (List.mem_of_getElem? (i := 1) rfl)) (hty.2.1 _ (List.mem_of_getElem? (i := 2) rfl))
  obtain ⟨ha, hb⟩ := h
  refine And.intro (fun c9 => ?_) (fun c9 => ?_)
  · replace h := ha c9
    clear ha hb
    intro _
    exact h
  · replace h := hb c9
    clear ha hb
    intro _
    obtain ⟨k1, h⟩ := h
    refine And.intro k1 ?_
    obtain ⟨ha, hb⟩ := h
    refine And.intro (fun c8 => ?_) (fun c8 => ?_)
    · replace h := ha c8
      clear ha hb
      intro _
      exact h
    · replace h := hb c8
      clear ha hb
      intro _
      refine And.intro k1 ?_
      obtain ⟨k2, h⟩ := h
      refine And.intro k2 ?_
      obtain ⟨ha, hb⟩ := h
      refine And.intro (fun c7 => ?_) (fun c7 => ?_)
      · replace h := ha c7
        clear ha hb
        intro _
        refine And.intro k1 ?_
        refine And.intro k2 ?_
        obtain ⟨k3, h⟩ := h
        obtain ⟨k4, h⟩ := h
        refine And.intro (And.intro k3 k4) ?_
        intro v3 e_v3
        replace h := h v3 e_v3
        obtain ⟨ha, hb⟩ := h
        refine And.intro (fun c6 => ?_) (fun c6 => ?_)
        · replace h := ha c6
          clear ha hb
          intro _
          exact h
        · replace h := hb c6
          clear ha hb
          intro _
          obtain ⟨ha, hb⟩ := h
          refine And.intro (fun c5 => ?_) (fun c5 => ?_)
          · replace h := ha c5
            clear ha hb
            intro _
            exact h
          · replace h := hb c5
            clear ha hb
            intro _
            obtain ⟨ha, hb⟩ := h
            refine And.intro (fun c4 => ?_) (fun c4 => ?_)
            · replace h := ha c4
              clear ha hb
              intro _
              exact h
            · replace h := hb c4
              clear ha hb
              intro _
              exact h
      · replace h := hb c7
        clear ha hb
        intro _
        exact h
theorem e_X10_rackWithRow {Q X : m_Po} {v0 v1 v2 : Int} {ε : m_E} {μ : m_M} (h : TY ε μ → i32 v1 → i32 v2 → (v1 < 0 → ∀ n : Int, nx ε ≤ n → X 1 (enx ε n) μ) ∧ (0 ≤ v1 → kd ε v0 = 9 ∧ ((μ v0 9) ≤ v1 → ∀ n_1 : Int, nx ε ≤ n_1 → X 1 (enx ε n_1) μ) ∧ (v1 < (μ v0 9) → kd ε (fn ε v0 0) = 104 ∧ (v1 < (ln ε (fn ε v0 0)) → (0 : Int) ≤ v1 ∧ v1 < ln ε (fn ε v0 0) ∧ ∀ v3 : Int, v3 = μ (fn ε v0 0) v1 → (v3 = 0 → ∀ n_2 : Int, nx ε ≤ n_2 → X 1 (enx ε n_2) μ) ∧ (0 < v3 → (v2 < 0 → ∀ n_3 : Int, nx ε ≤ n_3 → X 1 (enx ε n_3) μ) ∧ (0 ≤ v2 → (v2 < (40 : Int) → Q v3 ε μ) ∧ ((40 : Int) ≤ v2 → ∀ n_4 : Int, nx ε ≤ n_4 → X 1 (enx ε n_4) μ)))) ∧ ((ln ε (fn ε v0 0)) ≤ v1 → ∀ n_5 : Int, nx ε ≤ n_5 → X 1 (enx ε n_5) μ)))) : o_X10_rackWithRow [(2, v0), (0, v1), (0, v2)] ε μ Q X := And.intro rfl (g_X10_rackWithRow_0 h)
/-! ArchYard.row(III)V -/
set_option maxRecDepth 20000 in
theorem g_X10_row_35 {Q X : m_Po} {ε : m_E} {μ : m_M} (h : TY ε μ → Q 0 ε μ) : G cd_X10_row Q X 35 [] [] ε μ := by
  refine G_run (m_in [6, 35]) 7 _ _ _ _ ?_
  show m_ty [] [] ε μ → Q 0 ε μ
  intro hty
  replace h := h hty.1 
  exact h
set_option maxRecDepth 20000 in
theorem g_X10_row_6 {Q X : m_Po} {v2 v3 t : Int} {ε : m_E} {μ : m_M} (h : TY ε μ → i32 v2 → i32 v3 → ∀ v4 : Int, v4 = t → (v3 < 0 → ∀ n : Int, nx ε ≤ n → X 2 (enx ε n) μ) ∧ (0 ≤ v3 → (v3 ≤ (40 : Int) → kd ε v4 = 5 ∧ o_X5_lay [(2, v4), (0, v2), (0, v3)] ε μ (fun z ε_1 μ_1 => G cd_X10_row Q X 35 [] [] ε_1 μ_1) m_F) ∧ ((40 : Int) < v3 → ∀ n_1 : Int, nx ε ≤ n_1 → X 2 (enx ε n_1) μ))) : G cd_X10_row Q X 6 [(2, (0, v2)), (3, (0, v3))] [(2, t)] ε μ := by
  refine G_run (m_in [6, 35]) 7 _ _ _ _ ?_
  show m_ty [(2, (0, v2)), (3, (0, v3))] [(2, t)] ε μ → ∀ v4 : Int, v4 = t → (v3 < 0 → (m_ty [] [] ε μ → ∀ n : Int, nx ε ≤ n → X 2 (enx ε n) μ)) ∧ (0 ≤ v3 → (m_ty [(2, (0, v2)), (3, (0, v3)), (4, (2, v4))] [] ε μ → (v3 ≤ (40 : Int) → (m_ty [(2, (0, v2)), (3, (0, v3)), (4, (2, v4))] [] ε μ → (kd ε v4 = 5) ∧ o_X5_lay [(2, v4), (0, v2), (0, v3)] ε μ (fun z ε_1 μ_1 => G cd_X10_row Q X 35 [] [] ε_1 μ_1) m_F)) ∧ ((40 : Int) < v3 → (m_ty [] [] ε μ → ∀ n_1 : Int, nx ε ≤ n_1 → X 2 (enx ε n_1) μ))))
  intro hty
  replace h := h hty.1 (hty.2.1 _ (List.mem_of_getElem? (i := 0) rfl)) (hty.2.1 _ (List.mem_of_getElem? (i := 1) rfl))
  intro v4 e_v4
  replace h := h v4 e_v4
  obtain ⟨ha, hb⟩ := h
  refine And.intro (fun c2 => ?_) (fun c2 => ?_)
  · replace h := ha c2
    clear ha hb
    intro _
    exact h
  · replace h := hb c2
    clear ha hb
    intro _
    obtain ⟨ha, hb⟩ := h
    refine And.intro (fun c1 => ?_) (fun c1 => ?_)
    · replace h := ha c1
      clear ha hb
      intro _
      obtain ⟨k1, h⟩ := h
      refine And.intro k1 ?_
      exact h
    · replace h := hb c1
      clear ha hb
      intro _
      exact h
set_option maxRecDepth 20000 in
theorem g_X10_row_0 {Q X : m_Po} {v0 v1 v2 v3 : Int} {ε : m_E} {μ : m_M} (h : TY ε μ → i32 v1 → i32 v2 → i32 v3 → kd ε v0 = 9 ∧ o_X10_rackWithRow [(2, v0), (0, v1), (0, v2)] ε μ (fun z ε_1 μ_1 => G cd_X10_row Q X 6 [(2, (0, v2)), (3, (0, v3))] [(2, z)] ε_1 μ_1) X) : G cd_X10_row Q X 0 [(0, (2, v0)), (1, (0, v1)), (2, (0, v2)), (3, (0, v3))] [] ε μ := by
  refine G_run (m_in [6, 35]) 7 _ _ _ _ ?_
  show m_ty [(0, (2, v0)), (1, (0, v1)), (2, (0, v2)), (3, (0, v3))] [] ε μ → (kd ε v0 = 9) ∧ o_X10_rackWithRow [(2, v0), (0, v1), (0, v2)] ε μ (fun z ε_1 μ_1 => G cd_X10_row Q X 6 [(2, (0, v2)), (3, (0, v3))] [(2, z)] ε_1 μ_1) X
  intro hty
  replace h := h hty.1 (hty.2.1 _ (List.mem_of_getElem? (i := 1) rfl)) (hty.2.1 _ (List.mem_of_getElem? (i := 2) rfl)) (hty.2.1 _ (List.mem_of_getElem? (i := 3) rfl))
  obtain ⟨k1, h⟩ := h
  refine And.intro k1 ?_
  exact h
theorem e_X10_row {Q X : m_Po} {v0 v1 v2 v3 : Int} {ε : m_E} {μ : m_M} (h : TY ε μ → i32 v1 → i32 v2 → i32 v3 → kd ε v0 = 9 ∧ o_X10_rackWithRow [(2, v0), (0, v1), (0, v2)] ε μ (fun z ε_1 μ_1 => G cd_X10_row Q X 6 [(2, (0, v2)), (3, (0, v3))] [(2, z)] ε_1 μ_1) X) : o_X10_row [(2, v0), (0, v1), (0, v2), (0, v3)] ε μ Q X := And.intro rfl (g_X10_row_0 h)
/-! ArchYard.put(IIII)I -/
set_option maxRecDepth 20000 in
theorem g_X10_put_13 {Q X : m_Po} {t : Int} {ε : m_E} {μ : m_M} (h : TY ε μ → i32 t → Q t ε μ) : G cd_X10_put Q X 13 [] [(0, t)] ε μ := by
  refine G_run (m_in [6, 13]) 4 _ _ _ _ ?_
  show m_ty [] [(0, t)] ε μ → Q t ε μ
  intro hty
  replace h := h hty.1 (hty.2.2 _ (List.mem_of_getElem? (i := 0) rfl))
  exact h
set_option maxRecDepth 20000 in
theorem g_X10_put_6 {Q X : m_Po} {v2 v3 v4 t : Int} {ε : m_E} {μ : m_M} (h : TY ε μ → i32 v2 → i32 v3 → i32 v4 → kd ε t = 5 ∧ o_X5_exchange [(2, t), (0, v2), (0, v3), (0, v4)] ε μ (fun z ε_1 μ_1 => G cd_X10_put Q X 13 [] [(0, z)] ε_1 μ_1) m_F) : G cd_X10_put Q X 6 [(2, (0, v2)), (3, (0, v3)), (4, (0, v4))] [(2, t)] ε μ := by
  refine G_run (m_in [6, 13]) 4 _ _ _ _ ?_
  show m_ty [(2, (0, v2)), (3, (0, v3)), (4, (0, v4))] [(2, t)] ε μ → (kd ε t = 5) ∧ o_X5_exchange [(2, t), (0, v2), (0, v3), (0, v4)] ε μ (fun z ε_1 μ_1 => G cd_X10_put Q X 13 [] [(0, z)] ε_1 μ_1) m_F
  intro hty
  replace h := h hty.1 (hty.2.1 _ (List.mem_of_getElem? (i := 0) rfl)) (hty.2.1 _ (List.mem_of_getElem? (i := 1) rfl)) (hty.2.1 _ (List.mem_of_getElem? (i := 2) rfl))
  obtain ⟨k1, h⟩ := h
  refine And.intro k1 ?_
  exact h
set_option maxRecDepth 20000 in
theorem g_X10_put_0 {Q X : m_Po} {v0 v1 v2 v3 v4 : Int} {ε : m_E} {μ : m_M} (h : TY ε μ → i32 v1 → i32 v2 → i32 v3 → i32 v4 → kd ε v0 = 9 ∧ o_X10_rackWithRow [(2, v0), (0, v1), (0, v2)] ε μ (fun z ε_1 μ_1 => G cd_X10_put Q X 6 [(2, (0, v2)), (3, (0, v3)), (4, (0, v4))] [(2, z)] ε_1 μ_1) X) : G cd_X10_put Q X 0 [(0, (2, v0)), (1, (0, v1)), (2, (0, v2)), (3, (0, v3)), (4, (0, v4))] [] ε μ := by
  refine G_run (m_in [6, 13]) 4 _ _ _ _ ?_
  show m_ty [(0, (2, v0)), (1, (0, v1)), (2, (0, v2)), (3, (0, v3)), (4, (0, v4))] [] ε μ → (kd ε v0 = 9) ∧ o_X10_rackWithRow [(2, v0), (0, v1), (0, v2)] ε μ (fun z ε_1 μ_1 => G cd_X10_put Q X 6 [(2, (0, v2)), (3, (0, v3)), (4, (0, v4))] [(2, z)] ε_1 μ_1) X
  intro hty
  replace h := h hty.1 (hty.2.1 _ (List.mem_of_getElem? (i := 1) rfl)) (hty.2.1 _ (List.mem_of_getElem? (i := 2) rfl)) (hty.2.1 _ (List.mem_of_getElem? (i := 3) rfl)) (hty.2.1 _ (List.mem_of_getElem? (i := 4) rfl))
  obtain ⟨k1, h⟩ := h
  refine And.intro k1 ?_
  exact h
theorem e_X10_put {Q X : m_Po} {v0 v1 v2 v3 v4 : Int} {ε : m_E} {μ : m_M} (h : TY ε μ → i32 v1 → i32 v2 → i32 v3 → i32 v4 → kd ε v0 = 9 ∧ o_X10_rackWithRow [(2, v0), (0, v1), (0, v2)] ε μ (fun z ε_1 μ_1 => G cd_X10_put Q X 6 [(2, (0, v2)), (3, (0, v3)), (4, (0, v4))] [(2, z)] ε_1 μ_1) X) : o_X10_put [(2, v0), (0, v1), (0, v2), (0, v3), (0, v4)] ε μ Q X := And.intro rfl (g_X10_put_0 h)
/-! ArchYard.tear(III)I -/
set_option maxRecDepth 20000 in
theorem g_X10_tear_19 {Q X : m_Po} {t : Int} {ε : m_E} {μ : m_M} (h : TY ε μ → i32 t → Q t ε μ) : G cd_X10_tear Q X 19 [] [(0, t)] ε μ := by
  refine G_run (m_in [6, 11, 19]) 7 _ _ _ _ ?_
  show m_ty [] [(0, t)] ε μ → Q t ε μ
  intro hty
  replace h := h hty.1 (hty.2.2 _ (List.mem_of_getElem? (i := 0) rfl))
  exact h
set_option maxRecDepth 20000 in
theorem g_X10_tear_11 {Q X : m_Po} {t : Int} {ε : m_E} {μ : m_M} (h : TY ε μ → i32 t → ∀ t_1 : Int, t_1 = (if t = 0 then 0 else 1) → Q t_1 ε μ) : G cd_X10_tear Q X 11 [] [(0, t)] ε μ := by
  refine G_run (m_in [6, 11, 19]) 7 _ _ _ _ ?_
  show m_ty [] [(0, t)] ε μ → (t = 0 → (m_ty [] [] ε μ → G cd_X10_tear Q X 19 [] [(0, 0)] ε μ)) ∧ (t ≠ 0 → (m_ty [] [] ε μ → G cd_X10_tear Q X 19 [] [(0, 1)] ε μ))
  intro hty
  replace h := h hty.1 (hty.2.2 _ (List.mem_of_getElem? (i := 0) rfl))
  have hj := h
  refine And.intro (fun c0 => ?_) (fun c0 => ?_)
  · intro _
    exact g_X10_tear_19 (fun _ _ => (hj _ (((if_pos c0).trans rfl)).symm))
  · intro _
    exact g_X10_tear_19 (fun _ _ => (hj _ (((if_neg (c0)).trans rfl)).symm))
set_option maxRecDepth 20000 in
theorem g_X10_tear_6 {Q X : m_Po} {v2 v3 t : Int} {ε : m_E} {μ : m_M} (h : TY ε μ → i32 v2 → i32 v3 → kd ε t = 5 ∧ o_X5_cut [(2, t), (0, v2), (0, v3)] ε μ (fun z ε_1 μ_1 => G cd_X10_tear Q X 11 [] [(0, z)] ε_1 μ_1) m_F) : G cd_X10_tear Q X 6 [(2, (0, v2)), (3, (0, v3))] [(2, t)] ε μ := by
  refine G_run (m_in [6, 11, 19]) 7 _ _ _ _ ?_
  show m_ty [(2, (0, v2)), (3, (0, v3))] [(2, t)] ε μ → (kd ε t = 5) ∧ o_X5_cut [(2, t), (0, v2), (0, v3)] ε μ (fun z ε_1 μ_1 => G cd_X10_tear Q X 11 [] [(0, z)] ε_1 μ_1) m_F
  intro hty
  replace h := h hty.1 (hty.2.1 _ (List.mem_of_getElem? (i := 0) rfl)) (hty.2.1 _ (List.mem_of_getElem? (i := 1) rfl))
  obtain ⟨k1, h⟩ := h
  refine And.intro k1 ?_
  exact h
set_option maxRecDepth 20000 in
theorem g_X10_tear_0 {Q X : m_Po} {v0 v1 v2 v3 : Int} {ε : m_E} {μ : m_M} (h : TY ε μ → i32 v1 → i32 v2 → i32 v3 → kd ε v0 = 9 ∧ o_X10_rackWithRow [(2, v0), (0, v1), (0, v2)] ε μ (fun z ε_1 μ_1 => G cd_X10_tear Q X 6 [(2, (0, v2)), (3, (0, v3))] [(2, z)] ε_1 μ_1) X) : G cd_X10_tear Q X 0 [(0, (2, v0)), (1, (0, v1)), (2, (0, v2)), (3, (0, v3))] [] ε μ := by
  refine G_run (m_in [6, 11, 19]) 7 _ _ _ _ ?_
  show m_ty [(0, (2, v0)), (1, (0, v1)), (2, (0, v2)), (3, (0, v3))] [] ε μ → (kd ε v0 = 9) ∧ o_X10_rackWithRow [(2, v0), (0, v1), (0, v2)] ε μ (fun z ε_1 μ_1 => G cd_X10_tear Q X 6 [(2, (0, v2)), (3, (0, v3))] [(2, z)] ε_1 μ_1) X
  intro hty
  replace h := h hty.1 (hty.2.1 _ (List.mem_of_getElem? (i := 1) rfl)) (hty.2.1 _ (List.mem_of_getElem? (i := 2) rfl)) (hty.2.1 _ (List.mem_of_getElem? (i := 3) rfl))
  obtain ⟨k1, h⟩ := h
  refine And.intro k1 ?_
  exact h
theorem e_X10_tear {Q X : m_Po} {v0 v1 v2 v3 : Int} {ε : m_E} {μ : m_M} (h : TY ε μ → i32 v1 → i32 v2 → i32 v3 → kd ε v0 = 9 ∧ o_X10_rackWithRow [(2, v0), (0, v1), (0, v2)] ε μ (fun z ε_1 μ_1 => G cd_X10_tear Q X 6 [(2, (0, v2)), (3, (0, v3))] [(2, z)] ε_1 μ_1) X) : o_X10_tear [(2, v0), (0, v1), (0, v2), (0, v3)] ε μ Q X := And.intro rfl (g_X10_tear_0 h)
/-! ArchYard.stone(IIII)I -/
set_option maxRecDepth 20000 in
theorem g_X10_stone_129 {Q X : m_Po} {v0 t t_1 t_2 : Int} {ε : m_E} {μ : m_M} (h : TY ε μ → i32 t_1 → kd ε t = 105 ∧ (0 : Int) ≤ t_1 ∧ t_1 < ln ε t ∧ (t_2 = 0 ∨ kd ε t_2 = 6) ∧ ∀ μ_1 : m_M, μ_1 = st μ t t_1 t_2 → kd ε v0 = 9 ∧ ∀ μ_2 : m_M, μ_2 = st μ_1 v0 10 (w32 ((μ_1 v0 10) + 1)) → Q (w32 ((μ_2 v0 10) - 1)) ε μ_2) : G cd_X10_stone Q X 129 [(0, (2, v0))] [(2, t_2), (0, t_1), (2, t)] ε μ := by
  refine G_run (m_in [6, 14, 33, 73, 80, 91, 129]) 23 _ _ _ _ ?_
  show m_ty [(0, (2, v0))] [(2, t_2), (0, t_1), (2, t)] ε μ → (kd ε t = 105) ∧ ((0 : Int) ≤ t_1 ∧ t_1 < ln ε t) ∧ (t_2 = 0 ∨ kd ε t_2 = 6) ∧ ∀ μ_1 : m_M, μ_1 = st μ t t_1 t_2 → (kd ε v0 = 9) ∧ (kd ε v0 = 9) ∧ ∀ μ_2 : m_M, μ_2 = st μ_1 v0 10 (w32 ((μ_1 v0 10) + 1)) → (kd ε v0 = 9) ∧ Q (w32 ((μ_2 v0 10) - 1)) ε μ_2
  intro hty
  replace h := h hty.1 (hty.2.2 _ (List.mem_of_getElem? (i := 1) rfl))
  obtain ⟨k1, h⟩ := h
  refine And.intro k1 ?_
  obtain ⟨k2, h⟩ := h
  obtain ⟨k3, h⟩ := h
  refine And.intro (And.intro k2 k3) ?_
  obtain ⟨k4, h⟩ := h
  refine And.intro k4 ?_
  intro μ_1 e_μ_1
  replace h := h μ_1 e_μ_1
  obtain ⟨k5, h⟩ := h
  refine And.intro k5 ?_
  refine And.intro k5 ?_
  intro μ_2 e_μ_2
  replace h := h μ_2 e_μ_2
  refine And.intro k5 ?_
  exact h
set_option maxRecDepth 20000 in
theorem g_X10_stone_91 {Q X : m_Po} {v0 v1 v4 v7 t : Int} {ε : m_E} {μ : m_M} (h : TY ε μ → i32 v1 → i32 v4 → i32 t → (t ≠ 0 → kd ε v0 = 9 ∧ ((μ v0 10) < (120 : Int) → ∀ (a : Int) (ε_1 : m_E) (μ_1 : m_M), a = nx ε → ε_1 = ealloc ε 6 0 → μ_1 = mnew μ a → kd ε_1 a = 6 ∧ o_X7_init [(2, a), (0, v1), (0, v4), (2, v7)] ε_1 μ_1 (fun z ε_2 μ_2 => G cd_X10_stone Q X 129 [(0, (2, v0))] [(2, a), (0, μ v0 10), (2, fn ε v0 1)] ε_2 μ_2) m_F) ∧ ((120 : Int) ≤ (μ v0 10) → Q (-5) ε μ)) ∧ (t = 0 → Q (-4) ε μ)) : G cd_X10_stone Q X 91 [(0, (2, v0)), (1, (0, v1)), (4, (0, v4)), (7, (2, v7))] [(0, t)] ε μ := by
  refine G_run (m_in [6, 14, 33, 73, 80, 91, 129]) 23 _ _ _ _ ?_
  show m_ty [(0, (2, v0)), (1, (0, v1)), (4, (0, v4)), (7, (2, v7))] [(0, t)] ε μ → (t ≠ 0 → (m_ty [(0, (2, v0)), (1, (0, v1)), (4, (0, v4)), (7, (2, v7))] [] ε μ → (kd ε v0 = 9) ∧ ((μ v0 10) < (120 : Int) → (m_ty [(0, (2, v0)), (1, (0, v1)), (4, (0, v4)), (7, (2, v7))] [] ε μ → (kd ε v0 = 9) ∧ (kd ε v0 = 9) ∧ ∀ (a : Int) (ε_1 : m_E) (μ_1 : m_M), a = nx ε → ε_1 = ealloc ε 6 0 → μ_1 = mnew μ a → (kd ε_1 a = 6) ∧ o_X7_init [(2, a), (0, v1), (0, v4), (2, v7)] ε_1 μ_1 (fun z ε_2 μ_2 => G cd_X10_stone Q X 129 [(0, (2, v0))] [(2, a), (0, μ v0 10), (2, fn ε v0 1)] ε_2 μ_2) m_F)) ∧ ((120 : Int) ≤ (μ v0 10) → (m_ty [] [] ε μ → Q (-5) ε μ)))) ∧ (t = 0 → (m_ty [] [] ε μ → Q (-4) ε μ))
  intro hty
  replace h := h hty.1 (hty.2.1 _ (List.mem_of_getElem? (i := 1) rfl)) (hty.2.1 _ (List.mem_of_getElem? (i := 2) rfl)) (hty.2.2 _ (List.mem_of_getElem? (i := 0) rfl))
  obtain ⟨ha, hb⟩ := h
  refine And.intro (fun c3 => ?_) (fun c3 => ?_)
  · replace h := ha c3
    clear ha hb
    intro _
    obtain ⟨k1, h⟩ := h
    refine And.intro k1 ?_
    obtain ⟨ha, hb⟩ := h
    refine And.intro (fun c2 => ?_) (fun c2 => ?_)
    · replace h := ha c2
      clear ha hb
      intro _
      refine And.intro k1 ?_
      refine And.intro k1 ?_
      intro a ε_1 μ_1 e_a e_ε_1 e_μ_1
      replace h := h a ε_1 μ_1 e_a e_ε_1 e_μ_1
      obtain ⟨k2, h⟩ := h
      refine And.intro k2 ?_
      exact h
    · replace h := hb c2
      clear ha hb
      intro _
      exact h
  · replace h := hb c3
    clear ha hb
    intro _
    exact h
set_option maxRecDepth 20000 in
theorem g_X10_stone_80 {Q X : m_Po} {v0 v1 v4 v7 t : Int} {ε : m_E} {μ : m_M} (h : TY ε μ → i32 v1 → i32 v4 → i32 t → (t ≠ 0 → o_X6_isSound [(2, v7)] ε μ (fun z ε_1 μ_1 => G cd_X10_stone Q X 91 [(0, (2, v0)), (1, (0, v1)), (4, (0, v4)), (7, (2, v7))] [(0, z)] ε_1 μ_1) m_F) ∧ (t = 0 → Q (-3) ε μ)) : G cd_X10_stone Q X 80 [(0, (2, v0)), (1, (0, v1)), (4, (0, v4)), (7, (2, v7))] [(0, t)] ε μ := by
  refine G_run (m_in [6, 14, 33, 73, 80, 91, 129]) 23 _ _ _ _ ?_
  show m_ty [(0, (2, v0)), (1, (0, v1)), (4, (0, v4)), (7, (2, v7))] [(0, t)] ε μ → (t ≠ 0 → (m_ty [(0, (2, v0)), (1, (0, v1)), (4, (0, v4)), (7, (2, v7))] [] ε μ → o_X6_isSound [(2, v7)] ε μ (fun z ε_1 μ_1 => G cd_X10_stone Q X 91 [(0, (2, v0)), (1, (0, v1)), (4, (0, v4)), (7, (2, v7))] [(0, z)] ε_1 μ_1) m_F)) ∧ (t = 0 → (m_ty [] [] ε μ → Q (-3) ε μ))
  intro hty
  replace h := h hty.1 (hty.2.1 _ (List.mem_of_getElem? (i := 1) rfl)) (hty.2.1 _ (List.mem_of_getElem? (i := 2) rfl)) (hty.2.2 _ (List.mem_of_getElem? (i := 0) rfl))
  obtain ⟨ha, hb⟩ := h
  refine And.intro (fun c0 => ?_) (fun c0 => ?_)
  · replace h := ha c0
    clear ha hb
    intro _
    exact h
  · replace h := hb c0
    clear ha hb
    intro _
    exact h
set_option maxRecDepth 20000 in
theorem g_X10_stone_73 {Q X : m_Po} {v0 v1 v4 t : Int} {ε : m_E} {μ : m_M} (h : TY ε μ → i32 v1 → i32 v4 → ∀ v7 : Int, v7 = t → o_X6_isNear [(2, v7)] ε μ (fun z ε_1 μ_1 => G cd_X10_stone Q X 80 [(0, (2, v0)), (1, (0, v1)), (4, (0, v4)), (7, (2, v7))] [(0, z)] ε_1 μ_1) m_F) : G cd_X10_stone Q X 73 [(0, (2, v0)), (1, (0, v1)), (4, (0, v4))] [(2, t)] ε μ := by
  refine G_run (m_in [6, 14, 33, 73, 80, 91, 129]) 23 _ _ _ _ ?_
  show m_ty [(0, (2, v0)), (1, (0, v1)), (4, (0, v4))] [(2, t)] ε μ → ∀ v7 : Int, v7 = t → o_X6_isNear [(2, v7)] ε μ (fun z ε_1 μ_1 => G cd_X10_stone Q X 80 [(0, (2, v0)), (1, (0, v1)), (4, (0, v4)), (7, (2, v7))] [(0, z)] ε_1 μ_1) m_F
  intro hty
  replace h := h hty.1 (hty.2.1 _ (List.mem_of_getElem? (i := 1) rfl)) (hty.2.1 _ (List.mem_of_getElem? (i := 2) rfl))
  intro v7 e_v7
  replace h := h v7 e_v7
  exact h
set_option maxRecDepth 20000 in
theorem g_X10_stone_33 {Q X : m_Po} {v0 v1 v3 v4 v5 t : Int} {ε : m_E} {μ : m_M} (h : TY ε μ → i32 v1 → i32 v3 → i32 v4 → i32 t → ∀ v6 : Int, v6 = t → (v6 ≠ (-1) → (v6 < (6 : Int) → Q (-2) ε μ) ∧ ((6 : Int) ≤ v6 → ((24 : Int) < v6 → Q (-2) ε μ) ∧ (v6 ≤ (24 : Int) → ((Int.tmod v6 2) = 0 → kd ε v5 = 5 ∧ o_X5_copyOf [(2, v5), (0, v3)] ε μ (fun z ε_1 μ_1 => G cd_X10_stone Q X 73 [(0, (2, v0)), (1, (0, v1)), (4, (0, v4))] [(2, z)] ε_1 μ_1) m_F) ∧ ((Int.tmod v6 2) ≠ 0 → Q (-2) ε μ)))) ∧ (v6 = (-1) → Q (-1) ε μ)) : G cd_X10_stone Q X 33 [(0, (2, v0)), (1, (0, v1)), (3, (0, v3)), (4, (0, v4)), (5, (2, v5))] [(0, t)] ε μ := by
  refine G_run (m_in [6, 14, 33, 73, 80, 91, 129]) 23 _ _ _ _ ?_
  show m_ty [(0, (2, v0)), (1, (0, v1)), (3, (0, v3)), (4, (0, v4)), (5, (2, v5))] [(0, t)] ε μ → ∀ v6 : Int, v6 = t → (v6 ≠ (-1) → (m_ty [(0, (2, v0)), (1, (0, v1)), (3, (0, v3)), (4, (0, v4)), (5, (2, v5)), (6, (0, v6))] [] ε μ → (v6 < (6 : Int) → (m_ty [] [] ε μ → Q (-2) ε μ)) ∧ ((6 : Int) ≤ v6 → (m_ty [(0, (2, v0)), (1, (0, v1)), (3, (0, v3)), (4, (0, v4)), (5, (2, v5)), (6, (0, v6))] [] ε μ → ((24 : Int) < v6 → (m_ty [] [] ε μ → Q (-2) ε μ)) ∧ (v6 ≤ (24 : Int) → (m_ty [(0, (2, v0)), (1, (0, v1)), (3, (0, v3)), (4, (0, v4)), (5, (2, v5)), (6, (0, v6))] [] ε μ → (2 : Int) ≠ 0 ∧ ((Int.tmod v6 2) = 0 → (m_ty [(0, (2, v0)), (1, (0, v1)), (3, (0, v3)), (4, (0, v4)), (5, (2, v5))] [] ε μ → (kd ε v5 = 5) ∧ o_X5_copyOf [(2, v5), (0, v3)] ε μ (fun z ε_1 μ_1 => G cd_X10_stone Q X 73 [(0, (2, v0)), (1, (0, v1)), (4, (0, v4))] [(2, z)] ε_1 μ_1) m_F)) ∧ ((Int.tmod v6 2) ≠ 0 → (m_ty [] [] ε μ → Q (-2) ε μ)))))))) ∧ (v6 = (-1) → (m_ty [] [] ε μ → Q (-1) ε μ))
  intro hty
  replace h := h hty.1 (hty.2.1 _ (List.mem_of_getElem? (i := 1) rfl)) (hty.2.1 _ (List.mem_of_getElem? (i := 2) rfl)) (hty.2.1 _ (List.mem_of_getElem? (i := 3) rfl)) (hty.2.2 _ (List.mem_of_getElem? (i := 0) rfl))
  intro v6 e_v6
  replace h := h v6 e_v6
  obtain ⟨ha, hb⟩ := h
  refine And.intro (fun c4 => ?_) (fun c4 => ?_)
  · replace h := ha c4
    clear ha hb
    intro _
    obtain ⟨ha, hb⟩ := h
    refine And.intro (fun c3 => ?_) (fun c3 => ?_)
    · replace h := ha c3
      clear ha hb
      intro _
      exact h
    · replace h := hb c3
      clear ha hb
      intro _
      obtain ⟨ha, hb⟩ := h
      refine And.intro (fun c2 => ?_) (fun c2 => ?_)
      · replace h := ha c2
        clear ha hb
        intro _
        exact h
      · replace h := hb c2
        clear ha hb
        intro _
        refine And.intro (by decide) ?_
        obtain ⟨ha, hb⟩ := h
        refine And.intro (fun c1 => ?_) (fun c1 => ?_)
        · replace h := ha c1
          clear ha hb
          intro _
          obtain ⟨k1, h⟩ := h
          refine And.intro k1 ?_
          exact h
        · replace h := hb c1
          clear ha hb
          intro _
          exact h
  · replace h := hb c4
    clear ha hb
    intro _
    exact h
set_option maxRecDepth 20000 in
theorem g_X10_stone_14 {Q X : m_Po} {v0 v1 v3 v4 v5 t : Int} {ε : m_E} {μ : m_M} (h : TY ε μ → i32 v1 → i32 v3 → i32 v4 → i32 t → (t ≠ 0 → kd ε v5 = 5 ∧ o_X5_sizeOf [(2, v5), (0, v3)] ε μ (fun z ε_1 μ_1 => G cd_X10_stone Q X 33 [(0, (2, v0)), (1, (0, v1)), (3, (0, v3)), (4, (0, v4)), (5, (2, v5))] [(0, z)] ε_1 μ_1) m_F) ∧ (t = 0 → ∀ n : Int, nx ε ≤ n → X 2 (enx ε n) μ)) : G cd_X10_stone Q X 14 [(0, (2, v0)), (1, (0, v1)), (3, (0, v3)), (4, (0, v4)), (5, (2, v5))] [(0, t)] ε μ := by
  refine G_run (m_in [6, 14, 33, 73, 80, 91, 129]) 23 _ _ _ _ ?_
  show m_ty [(0, (2, v0)), (1, (0, v1)), (3, (0, v3)), (4, (0, v4)), (5, (2, v5))] [(0, t)] ε μ → (t ≠ 0 → (m_ty [(0, (2, v0)), (1, (0, v1)), (3, (0, v3)), (4, (0, v4)), (5, (2, v5))] [] ε μ → (kd ε v5 = 5) ∧ o_X5_sizeOf [(2, v5), (0, v3)] ε μ (fun z ε_1 μ_1 => G cd_X10_stone Q X 33 [(0, (2, v0)), (1, (0, v1)), (3, (0, v3)), (4, (0, v4)), (5, (2, v5))] [(0, z)] ε_1 μ_1) m_F)) ∧ (t = 0 → (m_ty [] [] ε μ → ∀ n : Int, nx ε ≤ n → X 2 (enx ε n) μ))
  intro hty
  replace h := h hty.1 (hty.2.1 _ (List.mem_of_getElem? (i := 1) rfl)) (hty.2.1 _ (List.mem_of_getElem? (i := 2) rfl)) (hty.2.1 _ (List.mem_of_getElem? (i := 3) rfl)) (hty.2.2 _ (List.mem_of_getElem? (i := 0) rfl))
  obtain ⟨ha, hb⟩ := h
  refine And.intro (fun c1 => ?_) (fun c1 => ?_)
  · replace h := ha c1
    clear ha hb
    intro _
    obtain ⟨k1, h⟩ := h
    refine And.intro k1 ?_
    exact h
  · replace h := hb c1
    clear ha hb
    intro _
    exact h
set_option maxRecDepth 20000 in
theorem g_X10_stone_6 {Q X : m_Po} {v0 v1 v3 v4 t : Int} {ε : m_E} {μ : m_M} (h : TY ε μ → i32 v1 → i32 v3 → i32 v4 → ∀ v5 : Int, v5 = t → o_X7_mayBe [(0, v1), (0, v4)] ε μ (fun z ε_1 μ_1 => G cd_X10_stone Q X 14 [(0, (2, v0)), (1, (0, v1)), (3, (0, v3)), (4, (0, v4)), (5, (2, v5))] [(0, z)] ε_1 μ_1) m_F) : G cd_X10_stone Q X 6 [(0, (2, v0)), (1, (0, v1)), (3, (0, v3)), (4, (0, v4))] [(2, t)] ε μ := by
  refine G_run (m_in [6, 14, 33, 73, 80, 91, 129]) 23 _ _ _ _ ?_
  show m_ty [(0, (2, v0)), (1, (0, v1)), (3, (0, v3)), (4, (0, v4))] [(2, t)] ε μ → ∀ v5 : Int, v5 = t → o_X7_mayBe [(0, v1), (0, v4)] ε μ (fun z ε_1 μ_1 => G cd_X10_stone Q X 14 [(0, (2, v0)), (1, (0, v1)), (3, (0, v3)), (4, (0, v4)), (5, (2, v5))] [(0, z)] ε_1 μ_1) m_F
  intro hty
  replace h := h hty.1 (hty.2.1 _ (List.mem_of_getElem? (i := 1) rfl)) (hty.2.1 _ (List.mem_of_getElem? (i := 2) rfl)) (hty.2.1 _ (List.mem_of_getElem? (i := 3) rfl))
  intro v5 e_v5
  replace h := h v5 e_v5
  exact h
set_option maxRecDepth 20000 in
theorem g_X10_stone_0 {Q X : m_Po} {v0 v1 v2 v3 v4 : Int} {ε : m_E} {μ : m_M} (h : TY ε μ → i32 v1 → i32 v2 → i32 v3 → i32 v4 → kd ε v0 = 9 ∧ o_X10_rackWithRow [(2, v0), (0, v2), (0, v3)] ε μ (fun z ε_1 μ_1 => G cd_X10_stone Q X 6 [(0, (2, v0)), (1, (0, v1)), (3, (0, v3)), (4, (0, v4))] [(2, z)] ε_1 μ_1) X) : G cd_X10_stone Q X 0 [(0, (2, v0)), (1, (0, v1)), (2, (0, v2)), (3, (0, v3)), (4, (0, v4))] [] ε μ := by
  refine G_run (m_in [6, 14, 33, 73, 80, 91, 129]) 23 _ _ _ _ ?_
  show m_ty [(0, (2, v0)), (1, (0, v1)), (2, (0, v2)), (3, (0, v3)), (4, (0, v4))] [] ε μ → (kd ε v0 = 9) ∧ o_X10_rackWithRow [(2, v0), (0, v2), (0, v3)] ε μ (fun z ε_1 μ_1 => G cd_X10_stone Q X 6 [(0, (2, v0)), (1, (0, v1)), (3, (0, v3)), (4, (0, v4))] [(2, z)] ε_1 μ_1) X
  intro hty
  replace h := h hty.1 (hty.2.1 _ (List.mem_of_getElem? (i := 1) rfl)) (hty.2.1 _ (List.mem_of_getElem? (i := 2) rfl)) (hty.2.1 _ (List.mem_of_getElem? (i := 3) rfl)) (hty.2.1 _ (List.mem_of_getElem? (i := 4) rfl))
  obtain ⟨k1, h⟩ := h
  refine And.intro k1 ?_
  exact h
theorem e_X10_stone {Q X : m_Po} {v0 v1 v2 v3 v4 : Int} {ε : m_E} {μ : m_M} (h : TY ε μ → i32 v1 → i32 v2 → i32 v3 → i32 v4 → kd ε v0 = 9 ∧ o_X10_rackWithRow [(2, v0), (0, v2), (0, v3)] ε μ (fun z ε_1 μ_1 => G cd_X10_stone Q X 6 [(0, (2, v0)), (1, (0, v1)), (3, (0, v3)), (4, (0, v4))] [(2, z)] ε_1 μ_1) X) : o_X10_stone [(2, v0), (0, v1), (0, v2), (0, v3), (0, v4)] ε μ Q X := And.intro rfl (g_X10_stone_0 h)
/-! ArchYard.stoneAt(I)LArchYard$Stone; -/
set_option maxRecDepth 20000 in
theorem g_X10_stoneAt_0 {Q X : m_Po} {v0 v1 : Int} {ε : m_E} {μ : m_M} (h : TY ε μ → i32 v1 → (v1 < 0 → ∀ n : Int, nx ε ≤ n → X 1 (enx ε n) μ) ∧ (0 ≤ v1 → kd ε v0 = 9 ∧ ((μ v0 10) ≤ v1 → ∀ n_1 : Int, nx ε ≤ n_1 → X 1 (enx ε n_1) μ) ∧ (v1 < (μ v0 10) → kd ε (fn ε v0 1) = 105 ∧ (v1 < (ln ε (fn ε v0 1)) → (0 : Int) ≤ v1 ∧ v1 < ln ε (fn ε v0 1) ∧ ∀ v2 : Int, v2 = μ (fn ε v0 1) v1 → (v2 = 0 → ∀ n_2 : Int, nx ε ≤ n_2 → X 1 (enx ε n_2) μ) ∧ (0 < v2 → Q v2 ε μ)) ∧ ((ln ε (fn ε v0 1)) ≤ v1 → ∀ n_3 : Int, nx ε ≤ n_3 → X 1 (enx ε n_3) μ)))) : G cd_X10_stoneAt Q X 0 [(0, (2, v0)), (1, (0, v1))] [] ε μ := by
  refine G_run (m_in []) 8 _ _ _ _ ?_
  show m_ty [(0, (2, v0)), (1, (0, v1))] [] ε μ → (v1 < 0 → (m_ty [] [] ε μ → ∀ n : Int, nx ε ≤ n → X 1 (enx ε n) μ)) ∧ (0 ≤ v1 → (m_ty [(0, (2, v0)), (1, (0, v1))] [] ε μ → (kd ε v0 = 9) ∧ ((μ v0 10) ≤ v1 → (m_ty [] [] ε μ → ∀ n_1 : Int, nx ε ≤ n_1 → X 1 (enx ε n_1) μ)) ∧ (v1 < (μ v0 10) → (m_ty [(0, (2, v0)), (1, (0, v1))] [] ε μ → (kd ε v0 = 9) ∧ (kd ε (fn ε v0 1) = 105) ∧ (v1 < (ln ε (fn ε v0 1)) → (m_ty [(0, (2, v0)), (1, (0, v1))] [] ε μ → (kd ε v0 = 9) ∧ (kd ε (fn ε v0 1) = 105) ∧ ((0 : Int) ≤ v1 ∧ v1 < ln ε (fn ε v0 1)) ∧ ∀ v2 : Int, v2 = μ (fn ε v0 1) v1 → (v2 = 0 → (m_ty [] [] ε μ → ∀ n_2 : Int, nx ε ≤ n_2 → X 1 (enx ε n_2) μ)) ∧ (0 < v2 → (m_ty [(2, (2, v2))] [] ε μ → Q v2 ε μ)))) ∧ ((ln ε (fn ε v0 1)) ≤ v1 → (m_ty [] [] ε μ → ∀ n_3 : Int, nx ε ≤ n_3 → X 1 (enx ε n_3) μ))))))
  intro hty
  replace h := h hty.1 (hty.2.1 _ (List.mem_of_getElem? (i := 1) rfl))
  obtain ⟨ha, hb⟩ := h
  refine And.intro (fun c7 => ?_) (fun c7 => ?_)
  · replace h := ha c7
    clear ha hb
    intro _
    exact h
  · replace h := hb c7
    clear ha hb
    intro _
    obtain ⟨k1, h⟩ := h
    refine And.intro k1 ?_
    obtain ⟨ha, hb⟩ := h
    refine And.intro (fun c6 => ?_) (fun c6 => ?_)
    · replace h := ha c6
      clear ha hb
      intro _
      exact h
    · replace h := hb c6
      clear ha hb
      intro _
      refine And.intro k1 ?_
      obtain ⟨k2, h⟩ := h
      refine And.intro k2 ?_
      obtain ⟨ha, hb⟩ := h
      refine And.intro (fun c5 => ?_) (fun c5 => ?_)
      · replace h := ha c5
        clear ha hb
        intro _
        refine And.intro k1 ?_
        refine And.intro k2 ?_
        obtain ⟨k3, h⟩ := h
        obtain ⟨k4, h⟩ := h
        refine And.intro (And.intro k3 k4) ?_
        intro v2 e_v2
        replace h := h v2 e_v2
        obtain ⟨ha, hb⟩ := h
        refine And.intro (fun c4 => ?_) (fun c4 => ?_)
        · replace h := ha c4
          clear ha hb
          intro _
          exact h
        · replace h := hb c4
          clear ha hb
          intro _
          exact h
      · replace h := hb c5
        clear ha hb
        intro _
        exact h
theorem e_X10_stoneAt {Q X : m_Po} {v0 v1 : Int} {ε : m_E} {μ : m_M} (h : TY ε μ → i32 v1 → (v1 < 0 → ∀ n : Int, nx ε ≤ n → X 1 (enx ε n) μ) ∧ (0 ≤ v1 → kd ε v0 = 9 ∧ ((μ v0 10) ≤ v1 → ∀ n_1 : Int, nx ε ≤ n_1 → X 1 (enx ε n_1) μ) ∧ (v1 < (μ v0 10) → kd ε (fn ε v0 1) = 105 ∧ (v1 < (ln ε (fn ε v0 1)) → (0 : Int) ≤ v1 ∧ v1 < ln ε (fn ε v0 1) ∧ ∀ v2 : Int, v2 = μ (fn ε v0 1) v1 → (v2 = 0 → ∀ n_2 : Int, nx ε ≤ n_2 → X 1 (enx ε n_2) μ) ∧ (0 < v2 → Q v2 ε μ)) ∧ ((ln ε (fn ε v0 1)) ≤ v1 → ∀ n_3 : Int, nx ε ≤ n_3 → X 1 (enx ε n_3) μ)))) : o_X10_stoneAt [(2, v0), (0, v1)] ε μ Q X := And.intro rfl (g_X10_stoneAt_0 h)
/-! ArchYard.told(II)I -/
set_option maxRecDepth 20000 in
theorem g_X10_told_33 {Q X : m_Po} {t : Int} {ε : m_E} {μ : m_M} (h : TY ε μ → i32 t → Q t ε μ) : G cd_X10_told Q X 33 [] [(0, t)] ε μ := by
  refine G_run (m_in [5, 15, 33]) 8 _ _ _ _ ?_
  show m_ty [] [(0, t)] ε μ → Q t ε μ
  intro hty
  replace h := h hty.1 (hty.2.2 _ (List.mem_of_getElem? (i := 0) rfl))
  exact h
set_option maxRecDepth 20000 in
theorem g_X10_told_15 {Q X : m_Po} {v2 v3 t t_1 : Int} {ε : m_E} {μ : m_M} (h : TY ε μ → i32 v2 → i32 t → i32 t_1 → (t < t_1 → kd ε v3 = 6 ∧ o_X7_fact [(2, v3), (0, v2)] ε μ (fun z ε_1 μ_1 => G cd_X10_told Q X 33 [] [(0, z)] ε_1 μ_1) m_F) ∧ (t_1 ≤ t → ∀ n : Int, nx ε ≤ n → X 2 (enx ε n) μ)) : G cd_X10_told Q X 15 [(2, (0, v2)), (3, (2, v3))] [(0, t_1), (0, t)] ε μ := by
  refine G_run (m_in [5, 15, 33]) 8 _ _ _ _ ?_
  show m_ty [(2, (0, v2)), (3, (2, v3))] [(0, t_1), (0, t)] ε μ → (t < t_1 → (m_ty [(2, (0, v2)), (3, (2, v3))] [] ε μ → (kd ε v3 = 6) ∧ o_X7_fact [(2, v3), (0, v2)] ε μ (fun z ε_1 μ_1 => G cd_X10_told Q X 33 [] [(0, z)] ε_1 μ_1) m_F)) ∧ (t_1 ≤ t → (m_ty [] [] ε μ → ∀ n : Int, nx ε ≤ n → X 2 (enx ε n) μ))
  intro hty
  replace h := h hty.1 (hty.2.1 _ (List.mem_of_getElem? (i := 0) rfl)) (hty.2.2 _ (List.mem_of_getElem? (i := 1) rfl)) (hty.2.2 _ (List.mem_of_getElem? (i := 0) rfl))
  obtain ⟨ha, hb⟩ := h
  refine And.intro (fun c1 => ?_) (fun c1 => ?_)
  · replace h := ha c1
    clear ha hb
    intro _
    obtain ⟨k1, h⟩ := h
    refine And.intro k1 ?_
    exact h
  · replace h := hb c1
    clear ha hb
    intro _
    exact h
set_option maxRecDepth 20000 in
theorem g_X10_told_5 {Q X : m_Po} {v2 t : Int} {ε : m_E} {μ : m_M} (h : TY ε μ → i32 v2 → ∀ v3 : Int, v3 = t → (v2 < 0 → ∀ n : Int, nx ε ≤ n → X 2 (enx ε n) μ) ∧ (0 ≤ v2 → kd ε v3 = 6 ∧ o_X7_facts [(2, v3)] ε μ (fun z ε_1 μ_1 => G cd_X10_told Q X 15 [(2, (0, v2)), (3, (2, v3))] [(0, z), (0, v2)] ε_1 μ_1) m_F)) : G cd_X10_told Q X 5 [(2, (0, v2))] [(2, t)] ε μ := by
  refine G_run (m_in [5, 15, 33]) 8 _ _ _ _ ?_
  show m_ty [(2, (0, v2))] [(2, t)] ε μ → ∀ v3 : Int, v3 = t → (v2 < 0 → (m_ty [] [] ε μ → ∀ n : Int, nx ε ≤ n → X 2 (enx ε n) μ)) ∧ (0 ≤ v2 → (m_ty [(2, (0, v2)), (3, (2, v3))] [] ε μ → (kd ε v3 = 6) ∧ o_X7_facts [(2, v3)] ε μ (fun z ε_1 μ_1 => G cd_X10_told Q X 15 [(2, (0, v2)), (3, (2, v3))] [(0, z), (0, v2)] ε_1 μ_1) m_F))
  intro hty
  replace h := h hty.1 (hty.2.1 _ (List.mem_of_getElem? (i := 0) rfl))
  intro v3 e_v3
  replace h := h v3 e_v3
  obtain ⟨ha, hb⟩ := h
  refine And.intro (fun c1 => ?_) (fun c1 => ?_)
  · replace h := ha c1
    clear ha hb
    intro _
    exact h
  · replace h := hb c1
    clear ha hb
    intro _
    obtain ⟨k1, h⟩ := h
    refine And.intro k1 ?_
    exact h
set_option maxRecDepth 20000 in
theorem g_X10_told_0 {Q X : m_Po} {v0 v1 v2 : Int} {ε : m_E} {μ : m_M} (h : TY ε μ → i32 v1 → i32 v2 → kd ε v0 = 9 ∧ o_X10_stoneAt [(2, v0), (0, v1)] ε μ (fun z ε_1 μ_1 => G cd_X10_told Q X 5 [(2, (0, v2))] [(2, z)] ε_1 μ_1) X) : G cd_X10_told Q X 0 [(0, (2, v0)), (1, (0, v1)), (2, (0, v2))] [] ε μ := by
  refine G_run (m_in [5, 15, 33]) 8 _ _ _ _ ?_
  show m_ty [(0, (2, v0)), (1, (0, v1)), (2, (0, v2))] [] ε μ → (kd ε v0 = 9) ∧ o_X10_stoneAt [(2, v0), (0, v1)] ε μ (fun z ε_1 μ_1 => G cd_X10_told Q X 5 [(2, (0, v2))] [(2, z)] ε_1 μ_1) X
  intro hty
  replace h := h hty.1 (hty.2.1 _ (List.mem_of_getElem? (i := 1) rfl)) (hty.2.1 _ (List.mem_of_getElem? (i := 2) rfl))
  obtain ⟨k1, h⟩ := h
  refine And.intro k1 ?_
  exact h
theorem e_X10_told {Q X : m_Po} {v0 v1 v2 : Int} {ε : m_E} {μ : m_M} (h : TY ε μ → i32 v1 → i32 v2 → kd ε v0 = 9 ∧ o_X10_stoneAt [(2, v0), (0, v1)] ε μ (fun z ε_1 μ_1 => G cd_X10_told Q X 5 [(2, (0, v2))] [(2, z)] ε_1 μ_1) X) : o_X10_told [(2, v0), (0, v1), (0, v2)] ε μ Q X := And.intro rfl (g_X10_told_0 h)
/-! ArchYard.arch(I)I -/
set_option maxRecDepth 20000 in
theorem g_X10_arch_56 {Q X : m_Po} {v0 t t_1 t_2 : Int} {ε : m_E} {μ : m_M} (h : TY ε μ → i32 t_1 → kd ε t = 106 ∧ (0 : Int) ≤ t_1 ∧ t_1 < ln ε t ∧ (t_2 = 0 ∨ kd ε t_2 = 0) ∧ ∀ μ_1 : m_M, μ_1 = st μ t t_1 t_2 → kd ε v0 = 9 ∧ ∀ μ_2 : m_M, μ_2 = st μ_1 v0 11 (w32 ((μ_1 v0 11) + 1)) → Q (w32 ((μ_2 v0 11) - 1)) ε μ_2) : G cd_X10_arch Q X 56 [(0, (2, v0))] [(2, t_2), (0, t_1), (2, t)] ε μ := by
  refine G_run (m_in [56]) 8 _ _ _ _ ?_
  show m_ty [(0, (2, v0))] [(2, t_2), (0, t_1), (2, t)] ε μ → (kd ε t = 106) ∧ ((0 : Int) ≤ t_1 ∧ t_1 < ln ε t) ∧ (t_2 = 0 ∨ kd ε t_2 = 0) ∧ ∀ μ_1 : m_M, μ_1 = st μ t t_1 t_2 → (kd ε v0 = 9) ∧ (kd ε v0 = 9) ∧ ∀ μ_2 : m_M, μ_2 = st μ_1 v0 11 (w32 ((μ_1 v0 11) + 1)) → (kd ε v0 = 9) ∧ Q (w32 ((μ_2 v0 11) - 1)) ε μ_2
  intro hty
  replace h := h hty.1 (hty.2.2 _ (List.mem_of_getElem? (i := 1) rfl))
  obtain ⟨k1, h⟩ := h
  refine And.intro k1 ?_
  obtain ⟨k2, h⟩ := h
  obtain ⟨k3, h⟩ := h
  refine And.intro (And.intro k2 k3) ?_
  obtain ⟨k4, h⟩ := h
  refine And.intro k4 ?_
  intro μ_1 e_μ_1
  replace h := h μ_1 e_μ_1
  obtain ⟨k5, h⟩ := h
  refine And.intro k5 ?_
  refine And.intro k5 ?_
  intro μ_2 e_μ_2
  replace h := h μ_2 e_μ_2
  refine And.intro k5 ?_
  exact h
set_option maxRecDepth 20000 in
theorem g_X10_arch_0 {Q X : m_Po} {v0 v1 : Int} {ε : m_E} {μ : m_M} (h : TY ε μ → i32 v1 → (v1 < (1 : Int) → ∀ n : Int, nx ε ≤ n → X 2 (enx ε n) μ) ∧ ((1 : Int) ≤ v1 → (v1 ≤ (10 : Int) → kd ε v0 = 9 ∧ ((μ v0 11) < (12 : Int) → ∀ (a : Int) (ε_1 : m_E) (μ_1 : m_M), a = nx ε → ε_1 = ealloc ε 0 0 → μ_1 = mnew μ a → kd ε_1 a = 0 ∧ o_X0_init [(2, a), (0, v1)] ε_1 μ_1 (fun z ε_2 μ_2 => G cd_X10_arch Q X 56 [(0, (2, v0))] [(2, a), (0, μ v0 11), (2, fn ε v0 2)] ε_2 μ_2) m_F) ∧ ((12 : Int) ≤ (μ v0 11) → ∀ n_1 : Int, nx ε ≤ n_1 → X 3 (enx ε n_1) μ)) ∧ ((10 : Int) < v1 → ∀ n_2 : Int, nx ε ≤ n_2 → X 2 (enx ε n_2) μ))) : G cd_X10_arch Q X 0 [(0, (2, v0)), (1, (0, v1))] [] ε μ := by
  refine G_run (m_in [56]) 8 _ _ _ _ ?_
  show m_ty [(0, (2, v0)), (1, (0, v1))] [] ε μ → (v1 < (1 : Int) → (m_ty [] [] ε μ → ∀ n : Int, nx ε ≤ n → X 2 (enx ε n) μ)) ∧ ((1 : Int) ≤ v1 → (m_ty [(0, (2, v0)), (1, (0, v1))] [] ε μ → (v1 ≤ (10 : Int) → (m_ty [(0, (2, v0)), (1, (0, v1))] [] ε μ → (kd ε v0 = 9) ∧ ((μ v0 11) < (12 : Int) → (m_ty [(0, (2, v0)), (1, (0, v1))] [] ε μ → (kd ε v0 = 9) ∧ (kd ε v0 = 9) ∧ ∀ (a : Int) (ε_1 : m_E) (μ_1 : m_M), a = nx ε → ε_1 = ealloc ε 0 0 → μ_1 = mnew μ a → (kd ε_1 a = 0) ∧ o_X0_init [(2, a), (0, v1)] ε_1 μ_1 (fun z ε_2 μ_2 => G cd_X10_arch Q X 56 [(0, (2, v0))] [(2, a), (0, μ v0 11), (2, fn ε v0 2)] ε_2 μ_2) m_F)) ∧ ((12 : Int) ≤ (μ v0 11) → (m_ty [] [] ε μ → ∀ n_1 : Int, nx ε ≤ n_1 → X 3 (enx ε n_1) μ)))) ∧ ((10 : Int) < v1 → (m_ty [] [] ε μ → ∀ n_2 : Int, nx ε ≤ n_2 → X 2 (enx ε n_2) μ))))
  intro hty
  replace h := h hty.1 (hty.2.1 _ (List.mem_of_getElem? (i := 1) rfl))
  obtain ⟨ha, hb⟩ := h
  refine And.intro (fun c4 => ?_) (fun c4 => ?_)
  · replace h := ha c4
    clear ha hb
    intro _
    exact h
  · replace h := hb c4
    clear ha hb
    intro _
    obtain ⟨ha, hb⟩ := h
    refine And.intro (fun c3 => ?_) (fun c3 => ?_)
    · replace h := ha c3
      clear ha hb
      intro _
      obtain ⟨k1, h⟩ := h
      refine And.intro k1 ?_
      obtain ⟨ha, hb⟩ := h
      refine And.intro (fun c2 => ?_) (fun c2 => ?_)
      · replace h := ha c2
        clear ha hb
        intro _
        refine And.intro k1 ?_
        refine And.intro k1 ?_
        intro a ε_1 μ_1 e_a e_ε_1 e_μ_1
        replace h := h a ε_1 μ_1 e_a e_ε_1 e_μ_1
        obtain ⟨k2, h⟩ := h
        refine And.intro k2 ?_
        exact h
      · replace h := hb c2
        clear ha hb
        intro _
        exact h
    · replace h := hb c3
      clear ha hb
      intro _
      exact h
theorem e_X10_arch {Q X : m_Po} {v0 v1 : Int} {ε : m_E} {μ : m_M} (h : TY ε μ → i32 v1 → (v1 < (1 : Int) → ∀ n : Int, nx ε ≤ n → X 2 (enx ε n) μ) ∧ ((1 : Int) ≤ v1 → (v1 ≤ (10 : Int) → kd ε v0 = 9 ∧ ((μ v0 11) < (12 : Int) → ∀ (a : Int) (ε_1 : m_E) (μ_1 : m_M), a = nx ε → ε_1 = ealloc ε 0 0 → μ_1 = mnew μ a → kd ε_1 a = 0 ∧ o_X0_init [(2, a), (0, v1)] ε_1 μ_1 (fun z ε_2 μ_2 => G cd_X10_arch Q X 56 [(0, (2, v0))] [(2, a), (0, μ v0 11), (2, fn ε v0 2)] ε_2 μ_2) m_F) ∧ ((12 : Int) ≤ (μ v0 11) → ∀ n_1 : Int, nx ε ≤ n_1 → X 3 (enx ε n_1) μ)) ∧ ((10 : Int) < v1 → ∀ n_2 : Int, nx ε ≤ n_2 → X 2 (enx ε n_2) μ))) : o_X10_arch [(2, v0), (0, v1)] ε μ Q X := And.intro rfl (g_X10_arch_0 h)
/-! ArchYard.archAt(I)LArchYard$Arch; -/
set_option maxRecDepth 20000 in
theorem g_X10_archAt_0 {Q X : m_Po} {v0 v1 : Int} {ε : m_E} {μ : m_M} (h : TY ε μ → i32 v1 → (v1 < 0 → ∀ n : Int, nx ε ≤ n → X 1 (enx ε n) μ) ∧ (0 ≤ v1 → kd ε v0 = 9 ∧ ((μ v0 11) ≤ v1 → ∀ n_1 : Int, nx ε ≤ n_1 → X 1 (enx ε n_1) μ) ∧ (v1 < (μ v0 11) → kd ε (fn ε v0 2) = 106 ∧ (v1 < (ln ε (fn ε v0 2)) → (0 : Int) ≤ v1 ∧ v1 < ln ε (fn ε v0 2) ∧ ∀ v2 : Int, v2 = μ (fn ε v0 2) v1 → (v2 = 0 → ∀ n_2 : Int, nx ε ≤ n_2 → X 1 (enx ε n_2) μ) ∧ (0 < v2 → Q v2 ε μ)) ∧ ((ln ε (fn ε v0 2)) ≤ v1 → ∀ n_3 : Int, nx ε ≤ n_3 → X 1 (enx ε n_3) μ)))) : G cd_X10_archAt Q X 0 [(0, (2, v0)), (1, (0, v1))] [] ε μ := by
  refine G_run (m_in []) 8 _ _ _ _ ?_
  show m_ty [(0, (2, v0)), (1, (0, v1))] [] ε μ → (v1 < 0 → (m_ty [] [] ε μ → ∀ n : Int, nx ε ≤ n → X 1 (enx ε n) μ)) ∧ (0 ≤ v1 → (m_ty [(0, (2, v0)), (1, (0, v1))] [] ε μ → (kd ε v0 = 9) ∧ ((μ v0 11) ≤ v1 → (m_ty [] [] ε μ → ∀ n_1 : Int, nx ε ≤ n_1 → X 1 (enx ε n_1) μ)) ∧ (v1 < (μ v0 11) → (m_ty [(0, (2, v0)), (1, (0, v1))] [] ε μ → (kd ε v0 = 9) ∧ (kd ε (fn ε v0 2) = 106) ∧ (v1 < (ln ε (fn ε v0 2)) → (m_ty [(0, (2, v0)), (1, (0, v1))] [] ε μ → (kd ε v0 = 9) ∧ (kd ε (fn ε v0 2) = 106) ∧ ((0 : Int) ≤ v1 ∧ v1 < ln ε (fn ε v0 2)) ∧ ∀ v2 : Int, v2 = μ (fn ε v0 2) v1 → (v2 = 0 → (m_ty [] [] ε μ → ∀ n_2 : Int, nx ε ≤ n_2 → X 1 (enx ε n_2) μ)) ∧ (0 < v2 → (m_ty [(2, (2, v2))] [] ε μ → Q v2 ε μ)))) ∧ ((ln ε (fn ε v0 2)) ≤ v1 → (m_ty [] [] ε μ → ∀ n_3 : Int, nx ε ≤ n_3 → X 1 (enx ε n_3) μ))))))
  intro hty
  replace h := h hty.1 (hty.2.1 _ (List.mem_of_getElem? (i := 1) rfl))
  obtain ⟨ha, hb⟩ := h
  refine And.intro (fun c7 => ?_) (fun c7 => ?_)
  · replace h := ha c7
    clear ha hb
    intro _
    exact h
  · replace h := hb c7
    clear ha hb
    intro _
    obtain ⟨k1, h⟩ := h
    refine And.intro k1 ?_
    obtain ⟨ha, hb⟩ := h
    refine And.intro (fun c6 => ?_) (fun c6 => ?_)
    · replace h := ha c6
      clear ha hb
      intro _
      exact h
    · replace h := hb c6
      clear ha hb
      intro _
      refine And.intro k1 ?_
      obtain ⟨k2, h⟩ := h
      refine And.intro k2 ?_
      obtain ⟨ha, hb⟩ := h
      refine And.intro (fun c5 => ?_) (fun c5 => ?_)
      · replace h := ha c5
        clear ha hb
        intro _
        refine And.intro k1 ?_
        refine And.intro k2 ?_
        obtain ⟨k3, h⟩ := h
        obtain ⟨k4, h⟩ := h
        refine And.intro (And.intro k3 k4) ?_
        intro v2 e_v2
        replace h := h v2 e_v2
        obtain ⟨ha, hb⟩ := h
        refine And.intro (fun c4 => ?_) (fun c4 => ?_)
        · replace h := ha c4
          clear ha hb
          intro _
          exact h
        · replace h := hb c4
          clear ha hb
          intro _
          exact h
      · replace h := hb c5
        clear ha hb
        intro _
        exact h
theorem e_X10_archAt {Q X : m_Po} {v0 v1 : Int} {ε : m_E} {μ : m_M} (h : TY ε μ → i32 v1 → (v1 < 0 → ∀ n : Int, nx ε ≤ n → X 1 (enx ε n) μ) ∧ (0 ≤ v1 → kd ε v0 = 9 ∧ ((μ v0 11) ≤ v1 → ∀ n_1 : Int, nx ε ≤ n_1 → X 1 (enx ε n_1) μ) ∧ (v1 < (μ v0 11) → kd ε (fn ε v0 2) = 106 ∧ (v1 < (ln ε (fn ε v0 2)) → (0 : Int) ≤ v1 ∧ v1 < ln ε (fn ε v0 2) ∧ ∀ v2 : Int, v2 = μ (fn ε v0 2) v1 → (v2 = 0 → ∀ n_2 : Int, nx ε ≤ n_2 → X 1 (enx ε n_2) μ) ∧ (0 < v2 → Q v2 ε μ)) ∧ ((ln ε (fn ε v0 2)) ≤ v1 → ∀ n_3 : Int, nx ε ≤ n_3 → X 1 (enx ε n_3) μ)))) : o_X10_archAt [(2, v0), (0, v1)] ε μ Q X := And.intro rfl (g_X10_archAt_0 h)
/-! ArchYard.pier(IIIIII)V -/
set_option maxRecDepth 20000 in
theorem g_X10_pier_111 {Q X : m_Po} {ε : m_E} {μ : m_M} (h : TY ε μ → Q 0 ε μ) : G cd_X10_pier Q X 111 [] [] ε μ := by
  refine G_run (m_in [5, 26, 32, 42, 52, 62, 98, 111]) 19 _ _ _ _ ?_
  show m_ty [] [] ε μ → Q 0 ε μ
  intro hty
  replace h := h hty.1 
  exact h
set_option maxRecDepth 20000 in
theorem g_X10_pier_98 {Q X : m_Po} {v2 v3 v4 v5 v6 v7 : Int} {ε : m_E} {μ : m_M} (h : TY ε μ → i32 v2 → i32 v3 → i32 v4 → i32 v5 → i32 v6 → kd ε v7 = 0 ∧ o_X0_raisePier [(2, v7), (0, v2), (0, v3), (0, v4), (0, v5), (0, v6)] ε μ (fun z ε_1 μ_1 => G cd_X10_pier Q X 111 [] [] ε_1 μ_1) m_F) : G cd_X10_pier Q X 98 [(2, (0, v2)), (3, (0, v3)), (4, (0, v4)), (5, (0, v5)), (6, (0, v6)), (7, (2, v7))] [] ε μ := by
  refine G_run (m_in [5, 26, 32, 42, 52, 62, 98, 111]) 19 _ _ _ _ ?_
  show m_ty [(2, (0, v2)), (3, (0, v3)), (4, (0, v4)), (5, (0, v5)), (6, (0, v6)), (7, (2, v7))] [] ε μ → (kd ε v7 = 0) ∧ o_X0_raisePier [(2, v7), (0, v2), (0, v3), (0, v4), (0, v5), (0, v6)] ε μ (fun z ε_1 μ_1 => G cd_X10_pier Q X 111 [] [] ε_1 μ_1) m_F
  intro hty
  replace h := h hty.1 (hty.2.1 _ (List.mem_of_getElem? (i := 0) rfl)) (hty.2.1 _ (List.mem_of_getElem? (i := 1) rfl)) (hty.2.1 _ (List.mem_of_getElem? (i := 2) rfl)) (hty.2.1 _ (List.mem_of_getElem? (i := 3) rfl)) (hty.2.1 _ (List.mem_of_getElem? (i := 4) rfl))
  obtain ⟨k1, h⟩ := h
  refine And.intro k1 ?_
  exact h
set_option maxRecDepth 20000 in
theorem g_X10_pier_62 {Q X : m_Po} {v2 v3 v4 v5 v6 v7 t : Int} {ε : m_E} {μ : m_M} (h : TY ε μ → i32 v2 → i32 v3 → i32 v4 → i32 v5 → i32 v6 → i32 t → (t = 0 → (v3 ≠ v5 → G cd_X10_pier Q X 98 [(2, (0, v2)), (3, (0, v3)), (4, (0, v4)), (5, (0, v5)), (6, (0, v6)), (7, (2, v7))] [] ε μ) ∧ (v3 = v5 → (v4 ≠ v6 → G cd_X10_pier Q X 98 [(2, (0, v2)), (3, (0, v3)), (4, (0, v4)), (5, (0, v5)), (6, (0, v6)), (7, (2, v7))] [] ε μ) ∧ (v4 = v6 → ∀ n : Int, nx ε ≤ n → X 2 (enx ε n) μ))) ∧ (t ≠ 0 → ∀ n_1 : Int, nx ε ≤ n_1 → X 2 (enx ε n_1) μ)) : G cd_X10_pier Q X 62 [(2, (0, v2)), (3, (0, v3)), (4, (0, v4)), (5, (0, v5)), (6, (0, v6)), (7, (2, v7))] [(0, t)] ε μ := by
  refine G_run (m_in [5, 26, 32, 42, 52, 62, 98, 111]) 19 _ _ _ _ ?_
  show m_ty [(2, (0, v2)), (3, (0, v3)), (4, (0, v4)), (5, (0, v5)), (6, (0, v6)), (7, (2, v7))] [(0, t)] ε μ → (t = 0 → (m_ty [(2, (0, v2)), (3, (0, v3)), (4, (0, v4)), (5, (0, v5)), (6, (0, v6)), (7, (2, v7))] [] ε μ → (v3 ≠ v5 → G cd_X10_pier Q X 98 [(2, (0, v2)), (3, (0, v3)), (4, (0, v4)), (5, (0, v5)), (6, (0, v6)), (7, (2, v7))] [] ε μ) ∧ (v3 = v5 → (m_ty [(2, (0, v2)), (3, (0, v3)), (4, (0, v4)), (5, (0, v5)), (6, (0, v6)), (7, (2, v7))] [] ε μ → (v4 ≠ v6 → G cd_X10_pier Q X 98 [(2, (0, v2)), (3, (0, v3)), (4, (0, v4)), (5, (0, v5)), (6, (0, v6)), (7, (2, v7))] [] ε μ) ∧ (v4 = v6 → (m_ty [] [] ε μ → ∀ n : Int, nx ε ≤ n → X 2 (enx ε n) μ)))))) ∧ (t ≠ 0 → (m_ty [] [] ε μ → ∀ n_1 : Int, nx ε ≤ n_1 → X 2 (enx ε n_1) μ))
  intro hty
  replace h := h hty.1 (hty.2.1 _ (List.mem_of_getElem? (i := 0) rfl)) (hty.2.1 _ (List.mem_of_getElem? (i := 1) rfl)) (hty.2.1 _ (List.mem_of_getElem? (i := 2) rfl)) (hty.2.1 _ (List.mem_of_getElem? (i := 3) rfl)) (hty.2.1 _ (List.mem_of_getElem? (i := 4) rfl)) (hty.2.2 _ (List.mem_of_getElem? (i := 0) rfl))
  obtain ⟨ha, hb⟩ := h
  refine And.intro (fun c2 => ?_) (fun c2 => ?_)
  · replace h := ha c2
    clear ha hb
    intro _
    obtain ⟨ha, hb⟩ := h
    refine And.intro (fun c1 => ?_) (fun c1 => ?_)
    · replace h := ha c1
      clear ha hb
      exact h
    · replace h := hb c1
      clear ha hb
      intro _
      obtain ⟨ha, hb⟩ := h
      refine And.intro (fun c0 => ?_) (fun c0 => ?_)
      · replace h := ha c0
        clear ha hb
        exact h
      · replace h := hb c0
        clear ha hb
        intro _
        exact h
  · replace h := hb c2
    clear ha hb
    intro _
    exact h
set_option maxRecDepth 20000 in
theorem g_X10_pier_52 {Q X : m_Po} {v2 v3 v4 v5 v6 v7 t : Int} {ε : m_E} {μ : m_M} (h : TY ε μ → i32 v2 → i32 v3 → i32 v4 → i32 v5 → i32 v6 → i32 t → (t ≠ 0 → ∀ n : Int, nx ε ≤ n → X 2 (enx ε n) μ) ∧ (t = 0 → o_X10_isFar [(0, v6), (0, 100)] ε μ (fun z ε_1 μ_1 => G cd_X10_pier Q X 62 [(2, (0, v2)), (3, (0, v3)), (4, (0, v4)), (5, (0, v5)), (6, (0, v6)), (7, (2, v7))] [(0, z)] ε_1 μ_1) m_F)) : G cd_X10_pier Q X 52 [(2, (0, v2)), (3, (0, v3)), (4, (0, v4)), (5, (0, v5)), (6, (0, v6)), (7, (2, v7))] [(0, t)] ε μ := by
  refine G_run (m_in [5, 26, 32, 42, 52, 62, 98, 111]) 19 _ _ _ _ ?_
  show m_ty [(2, (0, v2)), (3, (0, v3)), (4, (0, v4)), (5, (0, v5)), (6, (0, v6)), (7, (2, v7))] [(0, t)] ε μ → (t ≠ 0 → (m_ty [] [] ε μ → ∀ n : Int, nx ε ≤ n → X 2 (enx ε n) μ)) ∧ (t = 0 → (m_ty [(2, (0, v2)), (3, (0, v3)), (4, (0, v4)), (5, (0, v5)), (6, (0, v6)), (7, (2, v7))] [] ε μ → o_X10_isFar [(0, v6), (0, 100)] ε μ (fun z ε_1 μ_1 => G cd_X10_pier Q X 62 [(2, (0, v2)), (3, (0, v3)), (4, (0, v4)), (5, (0, v5)), (6, (0, v6)), (7, (2, v7))] [(0, z)] ε_1 μ_1) m_F))
  intro hty
  replace h := h hty.1 (hty.2.1 _ (List.mem_of_getElem? (i := 0) rfl)) (hty.2.1 _ (List.mem_of_getElem? (i := 1) rfl)) (hty.2.1 _ (List.mem_of_getElem? (i := 2) rfl)) (hty.2.1 _ (List.mem_of_getElem? (i := 3) rfl)) (hty.2.1 _ (List.mem_of_getElem? (i := 4) rfl)) (hty.2.2 _ (List.mem_of_getElem? (i := 0) rfl))
  obtain ⟨ha, hb⟩ := h
  refine And.intro (fun c0 => ?_) (fun c0 => ?_)
  · replace h := ha c0
    clear ha hb
    intro _
    exact h
  · replace h := hb c0
    clear ha hb
    intro _
    exact h
set_option maxRecDepth 20000 in
theorem g_X10_pier_42 {Q X : m_Po} {v2 v3 v4 v5 v6 v7 t : Int} {ε : m_E} {μ : m_M} (h : TY ε μ → i32 v2 → i32 v3 → i32 v4 → i32 v5 → i32 v6 → i32 t → (t ≠ 0 → ∀ n : Int, nx ε ≤ n → X 2 (enx ε n) μ) ∧ (t = 0 → o_X10_isFar [(0, v5), (0, 100)] ε μ (fun z ε_1 μ_1 => G cd_X10_pier Q X 52 [(2, (0, v2)), (3, (0, v3)), (4, (0, v4)), (5, (0, v5)), (6, (0, v6)), (7, (2, v7))] [(0, z)] ε_1 μ_1) m_F)) : G cd_X10_pier Q X 42 [(2, (0, v2)), (3, (0, v3)), (4, (0, v4)), (5, (0, v5)), (6, (0, v6)), (7, (2, v7))] [(0, t)] ε μ := by
  refine G_run (m_in [5, 26, 32, 42, 52, 62, 98, 111]) 19 _ _ _ _ ?_
  show m_ty [(2, (0, v2)), (3, (0, v3)), (4, (0, v4)), (5, (0, v5)), (6, (0, v6)), (7, (2, v7))] [(0, t)] ε μ → (t ≠ 0 → (m_ty [] [] ε μ → ∀ n : Int, nx ε ≤ n → X 2 (enx ε n) μ)) ∧ (t = 0 → (m_ty [(2, (0, v2)), (3, (0, v3)), (4, (0, v4)), (5, (0, v5)), (6, (0, v6)), (7, (2, v7))] [] ε μ → o_X10_isFar [(0, v5), (0, 100)] ε μ (fun z ε_1 μ_1 => G cd_X10_pier Q X 52 [(2, (0, v2)), (3, (0, v3)), (4, (0, v4)), (5, (0, v5)), (6, (0, v6)), (7, (2, v7))] [(0, z)] ε_1 μ_1) m_F))
  intro hty
  replace h := h hty.1 (hty.2.1 _ (List.mem_of_getElem? (i := 0) rfl)) (hty.2.1 _ (List.mem_of_getElem? (i := 1) rfl)) (hty.2.1 _ (List.mem_of_getElem? (i := 2) rfl)) (hty.2.1 _ (List.mem_of_getElem? (i := 3) rfl)) (hty.2.1 _ (List.mem_of_getElem? (i := 4) rfl)) (hty.2.2 _ (List.mem_of_getElem? (i := 0) rfl))
  obtain ⟨ha, hb⟩ := h
  refine And.intro (fun c0 => ?_) (fun c0 => ?_)
  · replace h := ha c0
    clear ha hb
    intro _
    exact h
  · replace h := hb c0
    clear ha hb
    intro _
    exact h
set_option maxRecDepth 20000 in
theorem g_X10_pier_32 {Q X : m_Po} {v2 v3 v4 v5 v6 v7 t : Int} {ε : m_E} {μ : m_M} (h : TY ε μ → i32 v2 → i32 v3 → i32 v4 → i32 v5 → i32 v6 → i32 t → (t ≠ 0 → ∀ n : Int, nx ε ≤ n → X 2 (enx ε n) μ) ∧ (t = 0 → o_X10_isFar [(0, v4), (0, 100)] ε μ (fun z ε_1 μ_1 => G cd_X10_pier Q X 42 [(2, (0, v2)), (3, (0, v3)), (4, (0, v4)), (5, (0, v5)), (6, (0, v6)), (7, (2, v7))] [(0, z)] ε_1 μ_1) m_F)) : G cd_X10_pier Q X 32 [(2, (0, v2)), (3, (0, v3)), (4, (0, v4)), (5, (0, v5)), (6, (0, v6)), (7, (2, v7))] [(0, t)] ε μ := by
  refine G_run (m_in [5, 26, 32, 42, 52, 62, 98, 111]) 19 _ _ _ _ ?_
  show m_ty [(2, (0, v2)), (3, (0, v3)), (4, (0, v4)), (5, (0, v5)), (6, (0, v6)), (7, (2, v7))] [(0, t)] ε μ → (t ≠ 0 → (m_ty [] [] ε μ → ∀ n : Int, nx ε ≤ n → X 2 (enx ε n) μ)) ∧ (t = 0 → (m_ty [(2, (0, v2)), (3, (0, v3)), (4, (0, v4)), (5, (0, v5)), (6, (0, v6)), (7, (2, v7))] [] ε μ → o_X10_isFar [(0, v4), (0, 100)] ε μ (fun z ε_1 μ_1 => G cd_X10_pier Q X 42 [(2, (0, v2)), (3, (0, v3)), (4, (0, v4)), (5, (0, v5)), (6, (0, v6)), (7, (2, v7))] [(0, z)] ε_1 μ_1) m_F))
  intro hty
  replace h := h hty.1 (hty.2.1 _ (List.mem_of_getElem? (i := 0) rfl)) (hty.2.1 _ (List.mem_of_getElem? (i := 1) rfl)) (hty.2.1 _ (List.mem_of_getElem? (i := 2) rfl)) (hty.2.1 _ (List.mem_of_getElem? (i := 3) rfl)) (hty.2.1 _ (List.mem_of_getElem? (i := 4) rfl)) (hty.2.2 _ (List.mem_of_getElem? (i := 0) rfl))
  obtain ⟨ha, hb⟩ := h
  refine And.intro (fun c0 => ?_) (fun c0 => ?_)
  · replace h := ha c0
    clear ha hb
    intro _
    exact h
  · replace h := hb c0
    clear ha hb
    intro _
    exact h
set_option maxRecDepth 20000 in
theorem g_X10_pier_26 {Q X : m_Po} {v2 v3 v4 v5 v6 v7 : Int} {ε : m_E} {μ : m_M} (h : TY ε μ → i32 v2 → i32 v3 → i32 v4 → i32 v5 → i32 v6 → o_X10_isFar [(0, v3), (0, 100)] ε μ (fun z ε_1 μ_1 => G cd_X10_pier Q X 32 [(2, (0, v2)), (3, (0, v3)), (4, (0, v4)), (5, (0, v5)), (6, (0, v6)), (7, (2, v7))] [(0, z)] ε_1 μ_1) m_F) : G cd_X10_pier Q X 26 [(2, (0, v2)), (3, (0, v3)), (4, (0, v4)), (5, (0, v5)), (6, (0, v6)), (7, (2, v7))] [] ε μ := by
  refine G_run (m_in [5, 26, 32, 42, 52, 62, 98, 111]) 19 _ _ _ _ ?_
  show m_ty [(2, (0, v2)), (3, (0, v3)), (4, (0, v4)), (5, (0, v5)), (6, (0, v6)), (7, (2, v7))] [] ε μ → o_X10_isFar [(0, v3), (0, 100)] ε μ (fun z ε_1 μ_1 => G cd_X10_pier Q X 32 [(2, (0, v2)), (3, (0, v3)), (4, (0, v4)), (5, (0, v5)), (6, (0, v6)), (7, (2, v7))] [(0, z)] ε_1 μ_1) m_F
  intro hty
  replace h := h hty.1 (hty.2.1 _ (List.mem_of_getElem? (i := 0) rfl)) (hty.2.1 _ (List.mem_of_getElem? (i := 1) rfl)) (hty.2.1 _ (List.mem_of_getElem? (i := 2) rfl)) (hty.2.1 _ (List.mem_of_getElem? (i := 3) rfl)) (hty.2.1 _ (List.mem_of_getElem? (i := 4) rfl))
  exact h
set_option maxRecDepth 20000 in
theorem g_X10_pier_5 {Q X : m_Po} {v2 v3 v4 v5 v6 t : Int} {ε : m_E} {μ : m_M} (h : TY ε μ → i32 v2 → i32 v3 → i32 v4 → i32 v5 → i32 v6 → ∀ v7 : Int, v7 = t → (v2 = 0 → G cd_X10_pier Q X 26 [(2, (0, v2)), (3, (0, v3)), (4, (0, v4)), (5, (0, v5)), (6, (0, v6)), (7, (2, v7))] [] ε μ) ∧ (v2 ≠ 0 → (v2 = (1 : Int) → G cd_X10_pier Q X 26 [(2, (0, v2)), (3, (0, v3)), (4, (0, v4)), (5, (0, v5)), (6, (0, v6)), (7, (2, v7))] [] ε μ) ∧ (v2 ≠ (1 : Int) → ∀ n : Int, nx ε ≤ n → X 2 (enx ε n) μ))) : G cd_X10_pier Q X 5 [(2, (0, v2)), (3, (0, v3)), (4, (0, v4)), (5, (0, v5)), (6, (0, v6))] [(2, t)] ε μ := by
  refine G_run (m_in [5, 26, 32, 42, 52, 62, 98, 111]) 19 _ _ _ _ ?_
  show m_ty [(2, (0, v2)), (3, (0, v3)), (4, (0, v4)), (5, (0, v5)), (6, (0, v6))] [(2, t)] ε μ → ∀ v7 : Int, v7 = t → (v2 = 0 → G cd_X10_pier Q X 26 [(2, (0, v2)), (3, (0, v3)), (4, (0, v4)), (5, (0, v5)), (6, (0, v6)), (7, (2, v7))] [] ε μ) ∧ (v2 ≠ 0 → (m_ty [(2, (0, v2)), (3, (0, v3)), (4, (0, v4)), (5, (0, v5)), (6, (0, v6)), (7, (2, v7))] [] ε μ → (v2 = (1 : Int) → G cd_X10_pier Q X 26 [(2, (0, v2)), (3, (0, v3)), (4, (0, v4)), (5, (0, v5)), (6, (0, v6)), (7, (2, v7))] [] ε μ) ∧ (v2 ≠ (1 : Int) → (m_ty [] [] ε μ → ∀ n : Int, nx ε ≤ n → X 2 (enx ε n) μ))))
  intro hty
  replace h := h hty.1 (hty.2.1 _ (List.mem_of_getElem? (i := 0) rfl)) (hty.2.1 _ (List.mem_of_getElem? (i := 1) rfl)) (hty.2.1 _ (List.mem_of_getElem? (i := 2) rfl)) (hty.2.1 _ (List.mem_of_getElem? (i := 3) rfl)) (hty.2.1 _ (List.mem_of_getElem? (i := 4) rfl))
  intro v7 e_v7
  replace h := h v7 e_v7
  obtain ⟨ha, hb⟩ := h
  refine And.intro (fun c1 => ?_) (fun c1 => ?_)
  · replace h := ha c1
    clear ha hb
    exact h
  · replace h := hb c1
    clear ha hb
    intro _
    obtain ⟨ha, hb⟩ := h
    refine And.intro (fun c0 => ?_) (fun c0 => ?_)
    · replace h := ha c0
      clear ha hb
      exact h
    · replace h := hb c0
      clear ha hb
      intro _
      exact h
set_option maxRecDepth 20000 in
theorem g_X10_pier_0 {Q X : m_Po} {v0 v1 v2 v3 v4 v5 v6 : Int} {ε : m_E} {μ : m_M} (h : TY ε μ → i32 v1 → i32 v2 → i32 v3 → i32 v4 → i32 v5 → i32 v6 → kd ε v0 = 9 ∧ o_X10_archAt [(2, v0), (0, v1)] ε μ (fun z ε_1 μ_1 => G cd_X10_pier Q X 5 [(2, (0, v2)), (3, (0, v3)), (4, (0, v4)), (5, (0, v5)), (6, (0, v6))] [(2, z)] ε_1 μ_1) X) : G cd_X10_pier Q X 0 [(0, (2, v0)), (1, (0, v1)), (2, (0, v2)), (3, (0, v3)), (4, (0, v4)), (5, (0, v5)), (6, (0, v6))] [] ε μ := by
  refine G_run (m_in [5, 26, 32, 42, 52, 62, 98, 111]) 19 _ _ _ _ ?_
  show m_ty [(0, (2, v0)), (1, (0, v1)), (2, (0, v2)), (3, (0, v3)), (4, (0, v4)), (5, (0, v5)), (6, (0, v6))] [] ε μ → (kd ε v0 = 9) ∧ o_X10_archAt [(2, v0), (0, v1)] ε μ (fun z ε_1 μ_1 => G cd_X10_pier Q X 5 [(2, (0, v2)), (3, (0, v3)), (4, (0, v4)), (5, (0, v5)), (6, (0, v6))] [(2, z)] ε_1 μ_1) X
  intro hty
  replace h := h hty.1 (hty.2.1 _ (List.mem_of_getElem? (i := 1) rfl)) (hty.2.1 _ (List.mem_of_getElem? (i := 2) rfl)) (hty.2.1 _ (List.mem_of_getElem? (i := 3) rfl)) (hty.2.1 _ (List.mem_of_getElem? (i := 4) rfl)) (hty.2.1 _ (List.mem_of_getElem? (i := 5) rfl)) (hty.2.1 _ (List.mem_of_getElem? (i := 6) rfl))
  obtain ⟨k1, h⟩ := h
  refine And.intro k1 ?_
  exact h
theorem e_X10_pier {Q X : m_Po} {v0 v1 v2 v3 v4 v5 v6 : Int} {ε : m_E} {μ : m_M} (h : TY ε μ → i32 v1 → i32 v2 → i32 v3 → i32 v4 → i32 v5 → i32 v6 → kd ε v0 = 9 ∧ o_X10_archAt [(2, v0), (0, v1)] ε μ (fun z ε_1 μ_1 => G cd_X10_pier Q X 5 [(2, (0, v2)), (3, (0, v3)), (4, (0, v4)), (5, (0, v5)), (6, (0, v6))] [(2, z)] ε_1 μ_1) X) : o_X10_pier [(2, v0), (0, v1), (0, v2), (0, v3), (0, v4), (0, v5), (0, v6)] ε μ Q X := And.intro rfl (g_X10_pier_0 h)
/-! ArchYard.archWithPlace(II)LArchYard$Arch; -/
set_option maxRecDepth 20000 in
theorem g_X10_archWithPlace_11 {Q X : m_Po} {v3 t : Int} {ε : m_E} {μ : m_M} (h : TY ε μ → i32 t → (t ≠ 0 → Q v3 ε μ) ∧ (t = 0 → ∀ n : Int, nx ε ≤ n → X 1 (enx ε n) μ)) : G cd_X10_archWithPlace Q X 11 [(3, (2, v3))] [(0, t)] ε μ := by
  refine G_run (m_in [5, 11]) 6 _ _ _ _ ?_
  show m_ty [(3, (2, v3))] [(0, t)] ε μ → (t ≠ 0 → (m_ty [(3, (2, v3))] [] ε μ → Q v3 ε μ)) ∧ (t = 0 → (m_ty [] [] ε μ → ∀ n : Int, nx ε ≤ n → X 1 (enx ε n) μ))
  intro hty
  replace h := h hty.1 (hty.2.2 _ (List.mem_of_getElem? (i := 0) rfl))
  obtain ⟨ha, hb⟩ := h
  refine And.intro (fun c0 => ?_) (fun c0 => ?_)
  · replace h := ha c0
    clear ha hb
    intro _
    exact h
  · replace h := hb c0
    clear ha hb
    intro _
    exact h
set_option maxRecDepth 20000 in
theorem g_X10_archWithPlace_5 {Q X : m_Po} {v2 t : Int} {ε : m_E} {μ : m_M} (h : TY ε μ → i32 v2 → ∀ v3 : Int, v3 = t → kd ε v3 = 0 ∧ o_X0_hasPlace [(2, v3), (0, v2)] ε μ (fun z ε_1 μ_1 => G cd_X10_archWithPlace Q X 11 [(3, (2, v3))] [(0, z)] ε_1 μ_1) m_F) : G cd_X10_archWithPlace Q X 5 [(2, (0, v2))] [(2, t)] ε μ := by
  refine G_run (m_in [5, 11]) 6 _ _ _ _ ?_
  show m_ty [(2, (0, v2))] [(2, t)] ε μ → ∀ v3 : Int, v3 = t → (kd ε v3 = 0) ∧ o_X0_hasPlace [(2, v3), (0, v2)] ε μ (fun z ε_1 μ_1 => G cd_X10_archWithPlace Q X 11 [(3, (2, v3))] [(0, z)] ε_1 μ_1) m_F
  intro hty
  replace h := h hty.1 (hty.2.1 _ (List.mem_of_getElem? (i := 0) rfl))
  intro v3 e_v3
  replace h := h v3 e_v3
  obtain ⟨k1, h⟩ := h
  refine And.intro k1 ?_
  exact h
set_option maxRecDepth 20000 in
theorem g_X10_archWithPlace_0 {Q X : m_Po} {v0 v1 v2 : Int} {ε : m_E} {μ : m_M} (h : TY ε μ → i32 v1 → i32 v2 → kd ε v0 = 9 ∧ o_X10_archAt [(2, v0), (0, v1)] ε μ (fun z ε_1 μ_1 => G cd_X10_archWithPlace Q X 5 [(2, (0, v2))] [(2, z)] ε_1 μ_1) X) : G cd_X10_archWithPlace Q X 0 [(0, (2, v0)), (1, (0, v1)), (2, (0, v2))] [] ε μ := by
  refine G_run (m_in [5, 11]) 6 _ _ _ _ ?_
  show m_ty [(0, (2, v0)), (1, (0, v1)), (2, (0, v2))] [] ε μ → (kd ε v0 = 9) ∧ o_X10_archAt [(2, v0), (0, v1)] ε μ (fun z ε_1 μ_1 => G cd_X10_archWithPlace Q X 5 [(2, (0, v2))] [(2, z)] ε_1 μ_1) X
  intro hty
  replace h := h hty.1 (hty.2.1 _ (List.mem_of_getElem? (i := 1) rfl)) (hty.2.1 _ (List.mem_of_getElem? (i := 2) rfl))
  obtain ⟨k1, h⟩ := h
  refine And.intro k1 ?_
  exact h
theorem e_X10_archWithPlace {Q X : m_Po} {v0 v1 v2 : Int} {ε : m_E} {μ : m_M} (h : TY ε μ → i32 v1 → i32 v2 → kd ε v0 = 9 ∧ o_X10_archAt [(2, v0), (0, v1)] ε μ (fun z ε_1 μ_1 => G cd_X10_archWithPlace Q X 5 [(2, (0, v2))] [(2, z)] ε_1 μ_1) X) : o_X10_archWithPlace [(2, v0), (0, v1), (0, v2)] ε μ Q X := And.intro rfl (g_X10_archWithPlace_0 h)
/-! ArchYard.place(III)V -/
set_option maxRecDepth 20000 in
theorem g_X10_place_41 {Q X : m_Po} {ε : m_E} {μ : m_M} (h : TY ε μ → Q 0 ε μ) : G cd_X10_place Q X 41 [] [] ε μ := by
  refine G_run (m_in [6, 19, 26, 38, 41]) 9 _ _ _ _ ?_
  show m_ty [] [] ε μ → Q 0 ε μ
  intro hty
  replace h := h hty.1 
  exact h
set_option maxRecDepth 20000 in
theorem g_X10_place_38 {Q X : m_Po} {t t_1 t_2 t_3 : Int} {ε : m_E} {μ : m_M} (h : TY ε μ → i32 t_1 → i32 t_2 → kd ε t = 0 ∧ o_X0_set [(2, t), (0, t_1), (0, t_2), (2, t_3)] ε μ (fun z ε_1 μ_1 => G cd_X10_place Q X 41 [] [] ε_1 μ_1) m_F) : G cd_X10_place Q X 38 [] [(2, t_3), (0, t_2), (0, t_1), (2, t)] ε μ := by
  refine G_run (m_in [6, 19, 26, 38, 41]) 9 _ _ _ _ ?_
  show m_ty [] [(2, t_3), (0, t_2), (0, t_1), (2, t)] ε μ → (kd ε t = 0) ∧ o_X0_set [(2, t), (0, t_1), (0, t_2), (2, t_3)] ε μ (fun z ε_1 μ_1 => G cd_X10_place Q X 41 [] [] ε_1 μ_1) m_F
  intro hty
  replace h := h hty.1 (hty.2.2 _ (List.mem_of_getElem? (i := 2) rfl)) (hty.2.2 _ (List.mem_of_getElem? (i := 1) rfl))
  obtain ⟨k1, h⟩ := h
  refine And.intro k1 ?_
  exact h
set_option maxRecDepth 20000 in
theorem g_X10_place_26 {Q X : m_Po} {ε : m_E} {μ : m_M} (h : TY ε μ → G cd_X10_place Q X 41 [] [] ε μ) : G cd_X10_place Q X 26 [] [] ε μ := by
  refine G_run (m_in [6, 19, 26, 38, 41]) 9 _ _ _ _ ?_
  show m_ty [] [] ε μ → G cd_X10_place Q X 41 [] [] ε μ
  intro hty
  replace h := h hty.1 
  exact h
set_option maxRecDepth 20000 in
theorem g_X10_place_19 {Q X : m_Po} {v2 v3 v4 : Int} {ε : m_E} {μ : m_M} (h : TY ε μ → i32 v2 → i32 v3 → kd ε v4 = 0 ∧ o_X0_empty [(2, v4), (0, v2), (0, v3)] ε μ (fun z ε_1 μ_1 => G cd_X10_place Q X 26 [] [] ε_1 μ_1) m_F) : G cd_X10_place Q X 19 [(2, (0, v2)), (3, (0, v3)), (4, (2, v4))] [] ε μ := by
  refine G_run (m_in [6, 19, 26, 38, 41]) 9 _ _ _ _ ?_
  show m_ty [(2, (0, v2)), (3, (0, v3)), (4, (2, v4))] [] ε μ → (kd ε v4 = 0) ∧ o_X0_empty [(2, v4), (0, v2), (0, v3)] ε μ (fun z ε_1 μ_1 => G cd_X10_place Q X 26 [] [] ε_1 μ_1) m_F
  intro hty
  replace h := h hty.1 (hty.2.1 _ (List.mem_of_getElem? (i := 0) rfl)) (hty.2.1 _ (List.mem_of_getElem? (i := 1) rfl))
  obtain ⟨k1, h⟩ := h
  refine And.intro k1 ?_
  exact h
set_option maxRecDepth 20000 in
theorem g_X10_place_6 {Q X : m_Po} {v0 v2 v3 t : Int} {ε : m_E} {μ : m_M} (h : TY ε μ → i32 v2 → i32 v3 → ∀ v4 : Int, v4 = t → (v3 = (-1) → G cd_X10_place Q X 19 [(2, (0, v2)), (3, (0, v3)), (4, (2, v4))] [] ε μ) ∧ (v3 ≠ (-1) → (v3 ≠ (-2) → kd ε v0 = 9 ∧ o_X10_stoneAt [(2, v0), (0, v3)] ε μ (fun z ε_1 μ_1 => G cd_X10_place Q X 38 [] [(2, z), (0, v3), (0, v2), (2, v4)] ε_1 μ_1) X) ∧ (v3 = (-2) → G cd_X10_place Q X 19 [(2, (0, v2)), (3, (0, v3)), (4, (2, v4))] [] ε μ))) : G cd_X10_place Q X 6 [(0, (2, v0)), (2, (0, v2)), (3, (0, v3))] [(2, t)] ε μ := by
  refine G_run (m_in [6, 19, 26, 38, 41]) 9 _ _ _ _ ?_
  show m_ty [(0, (2, v0)), (2, (0, v2)), (3, (0, v3))] [(2, t)] ε μ → ∀ v4 : Int, v4 = t → (v3 = (-1) → G cd_X10_place Q X 19 [(2, (0, v2)), (3, (0, v3)), (4, (2, v4))] [] ε μ) ∧ (v3 ≠ (-1) → (m_ty [(0, (2, v0)), (2, (0, v2)), (3, (0, v3)), (4, (2, v4))] [] ε μ → (v3 ≠ (-2) → (m_ty [(0, (2, v0)), (2, (0, v2)), (3, (0, v3)), (4, (2, v4))] [] ε μ → (kd ε v0 = 9) ∧ o_X10_stoneAt [(2, v0), (0, v3)] ε μ (fun z ε_1 μ_1 => G cd_X10_place Q X 38 [] [(2, z), (0, v3), (0, v2), (2, v4)] ε_1 μ_1) X)) ∧ (v3 = (-2) → G cd_X10_place Q X 19 [(2, (0, v2)), (3, (0, v3)), (4, (2, v4))] [] ε μ)))
  intro hty
  replace h := h hty.1 (hty.2.1 _ (List.mem_of_getElem? (i := 1) rfl)) (hty.2.1 _ (List.mem_of_getElem? (i := 2) rfl))
  intro v4 e_v4
  replace h := h v4 e_v4
  obtain ⟨ha, hb⟩ := h
  refine And.intro (fun c2 => ?_) (fun c2 => ?_)
  · replace h := ha c2
    clear ha hb
    exact h
  · replace h := hb c2
    clear ha hb
    intro _
    obtain ⟨ha, hb⟩ := h
    refine And.intro (fun c1 => ?_) (fun c1 => ?_)
    · replace h := ha c1
      clear ha hb
      intro _
      obtain ⟨k1, h⟩ := h
      refine And.intro k1 ?_
      exact h
    · replace h := hb c1
      clear ha hb
      exact h
set_option maxRecDepth 20000 in
theorem g_X10_place_0 {Q X : m_Po} {v0 v1 v2 v3 : Int} {ε : m_E} {μ : m_M} (h : TY ε μ → i32 v1 → i32 v2 → i32 v3 → kd ε v0 = 9 ∧ o_X10_archWithPlace [(2, v0), (0, v1), (0, v2)] ε μ (fun z ε_1 μ_1 => G cd_X10_place Q X 6 [(0, (2, v0)), (2, (0, v2)), (3, (0, v3))] [(2, z)] ε_1 μ_1) X) : G cd_X10_place Q X 0 [(0, (2, v0)), (1, (0, v1)), (2, (0, v2)), (3, (0, v3))] [] ε μ := by
  refine G_run (m_in [6, 19, 26, 38, 41]) 9 _ _ _ _ ?_
  show m_ty [(0, (2, v0)), (1, (0, v1)), (2, (0, v2)), (3, (0, v3))] [] ε μ → (kd ε v0 = 9) ∧ o_X10_archWithPlace [(2, v0), (0, v1), (0, v2)] ε μ (fun z ε_1 μ_1 => G cd_X10_place Q X 6 [(0, (2, v0)), (2, (0, v2)), (3, (0, v3))] [(2, z)] ε_1 μ_1) X
  intro hty
  replace h := h hty.1 (hty.2.1 _ (List.mem_of_getElem? (i := 1) rfl)) (hty.2.1 _ (List.mem_of_getElem? (i := 2) rfl)) (hty.2.1 _ (List.mem_of_getElem? (i := 3) rfl))
  obtain ⟨k1, h⟩ := h
  refine And.intro k1 ?_
  exact h
theorem e_X10_place {Q X : m_Po} {v0 v1 v2 v3 : Int} {ε : m_E} {μ : m_M} (h : TY ε μ → i32 v1 → i32 v2 → i32 v3 → kd ε v0 = 9 ∧ o_X10_archWithPlace [(2, v0), (0, v1), (0, v2)] ε μ (fun z ε_1 μ_1 => G cd_X10_place Q X 6 [(0, (2, v0)), (2, (0, v2)), (3, (0, v3))] [(2, z)] ε_1 μ_1) X) : o_X10_place [(2, v0), (0, v1), (0, v2), (0, v3)] ε μ Q X := And.intro rfl (g_X10_place_0 h)
/-! ArchYard.there(II)I -/
set_option maxRecDepth 20000 in
theorem g_X10_there_10 {Q X : m_Po} {t : Int} {ε : m_E} {μ : m_M} (h : TY ε μ → i32 t → Q t ε μ) : G cd_X10_there Q X 10 [] [(0, t)] ε μ := by
  refine G_run (m_in [6, 10]) 4 _ _ _ _ ?_
  show m_ty [] [(0, t)] ε μ → Q t ε μ
  intro hty
  replace h := h hty.1 (hty.2.2 _ (List.mem_of_getElem? (i := 0) rfl))
  exact h
set_option maxRecDepth 20000 in
theorem g_X10_there_6 {Q X : m_Po} {v2 t : Int} {ε : m_E} {μ : m_M} (h : TY ε μ → i32 v2 → kd ε t = 0 ∧ o_X0_standing [(2, t), (0, v2)] ε μ (fun z ε_1 μ_1 => G cd_X10_there Q X 10 [] [(0, z)] ε_1 μ_1) m_F) : G cd_X10_there Q X 6 [(2, (0, v2))] [(2, t)] ε μ := by
  refine G_run (m_in [6, 10]) 4 _ _ _ _ ?_
  show m_ty [(2, (0, v2))] [(2, t)] ε μ → (kd ε t = 0) ∧ o_X0_standing [(2, t), (0, v2)] ε μ (fun z ε_1 μ_1 => G cd_X10_there Q X 10 [] [(0, z)] ε_1 μ_1) m_F
  intro hty
  replace h := h hty.1 (hty.2.1 _ (List.mem_of_getElem? (i := 0) rfl))
  obtain ⟨k1, h⟩ := h
  refine And.intro k1 ?_
  exact h
set_option maxRecDepth 20000 in
theorem g_X10_there_0 {Q X : m_Po} {v0 v1 v2 : Int} {ε : m_E} {μ : m_M} (h : TY ε μ → i32 v1 → i32 v2 → kd ε v0 = 9 ∧ o_X10_archWithPlace [(2, v0), (0, v1), (0, v2)] ε μ (fun z ε_1 μ_1 => G cd_X10_there Q X 6 [(2, (0, v2))] [(2, z)] ε_1 μ_1) X) : G cd_X10_there Q X 0 [(0, (2, v0)), (1, (0, v1)), (2, (0, v2))] [] ε μ := by
  refine G_run (m_in [6, 10]) 4 _ _ _ _ ?_
  show m_ty [(0, (2, v0)), (1, (0, v1)), (2, (0, v2))] [] ε μ → (kd ε v0 = 9) ∧ o_X10_archWithPlace [(2, v0), (0, v1), (0, v2)] ε μ (fun z ε_1 μ_1 => G cd_X10_there Q X 6 [(2, (0, v2))] [(2, z)] ε_1 μ_1) X
  intro hty
  replace h := h hty.1 (hty.2.1 _ (List.mem_of_getElem? (i := 1) rfl)) (hty.2.1 _ (List.mem_of_getElem? (i := 2) rfl))
  obtain ⟨k1, h⟩ := h
  refine And.intro k1 ?_
  exact h
theorem e_X10_there {Q X : m_Po} {v0 v1 v2 : Int} {ε : m_E} {μ : m_M} (h : TY ε μ → i32 v1 → i32 v2 → kd ε v0 = 9 ∧ o_X10_archWithPlace [(2, v0), (0, v1), (0, v2)] ε μ (fun z ε_1 μ_1 => G cd_X10_there Q X 6 [(2, (0, v2))] [(2, z)] ε_1 μ_1) X) : o_X10_there [(2, v0), (0, v1), (0, v2)] ε μ Q X := And.intro rfl (g_X10_there_0 h)
/-! ArchYard.load(IIII)I -/
set_option maxRecDepth 20000 in
theorem g_X10_load_40 {Q X : m_Po} {t : Int} {ε : m_E} {μ : m_M} (h : TY ε μ → i32 t → Q t ε μ) : G cd_X10_load Q X 40 [] [(0, t)] ε μ := by
  refine G_run (m_in [6, 40]) 7 _ _ _ _ ?_
  show m_ty [] [(0, t)] ε μ → Q t ε μ
  intro hty
  replace h := h hty.1 (hty.2.2 _ (List.mem_of_getElem? (i := 0) rfl))
  exact h
set_option maxRecDepth 20000 in
theorem g_X10_load_6 {Q X : m_Po} {v2 v3 v4 t : Int} {ε : m_E} {μ : m_M} (h : TY ε μ → i32 v2 → i32 v3 → i32 v4 → ∀ v5 : Int, v5 = t → (v4 < (1 : Int) → ∀ n : Int, nx ε ≤ n → X 2 (enx ε n) μ) ∧ ((1 : Int) ≤ v4 → (v4 ≤ (100000 : Int) → kd ε v5 = 0 ∧ o_X0_burden [(2, v5), (0, v2), (0, v3), (0, v4)] ε μ (fun z ε_1 μ_1 => G cd_X10_load Q X 40 [] [(0, z)] ε_1 μ_1) m_F) ∧ ((100000 : Int) < v4 → ∀ n_1 : Int, nx ε ≤ n_1 → X 2 (enx ε n_1) μ))) : G cd_X10_load Q X 6 [(2, (0, v2)), (3, (0, v3)), (4, (0, v4))] [(2, t)] ε μ := by
  refine G_run (m_in [6, 40]) 7 _ _ _ _ ?_
  show m_ty [(2, (0, v2)), (3, (0, v3)), (4, (0, v4))] [(2, t)] ε μ → ∀ v5 : Int, v5 = t → (v4 < (1 : Int) → (m_ty [] [] ε μ → ∀ n : Int, nx ε ≤ n → X 2 (enx ε n) μ)) ∧ ((1 : Int) ≤ v4 → (m_ty [(2, (0, v2)), (3, (0, v3)), (4, (0, v4)), (5, (2, v5))] [] ε μ → (v4 ≤ (100000 : Int) → (m_ty [(2, (0, v2)), (3, (0, v3)), (4, (0, v4)), (5, (2, v5))] [] ε μ → (kd ε v5 = 0) ∧ o_X0_burden [(2, v5), (0, v2), (0, v3), (0, v4)] ε μ (fun z ε_1 μ_1 => G cd_X10_load Q X 40 [] [(0, z)] ε_1 μ_1) m_F)) ∧ ((100000 : Int) < v4 → (m_ty [] [] ε μ → ∀ n_1 : Int, nx ε ≤ n_1 → X 2 (enx ε n_1) μ))))
  intro hty
  replace h := h hty.1 (hty.2.1 _ (List.mem_of_getElem? (i := 0) rfl)) (hty.2.1 _ (List.mem_of_getElem? (i := 1) rfl)) (hty.2.1 _ (List.mem_of_getElem? (i := 2) rfl))
  intro v5 e_v5
  replace h := h v5 e_v5
  obtain ⟨ha, hb⟩ := h
  refine And.intro (fun c2 => ?_) (fun c2 => ?_)
  · replace h := ha c2
    clear ha hb
    intro _
    exact h
  · replace h := hb c2
    clear ha hb
    intro _
    obtain ⟨ha, hb⟩ := h
    refine And.intro (fun c1 => ?_) (fun c1 => ?_)
    · replace h := ha c1
      clear ha hb
      intro _
      obtain ⟨k1, h⟩ := h
      refine And.intro k1 ?_
      exact h
    · replace h := hb c1
      clear ha hb
      intro _
      exact h
set_option maxRecDepth 20000 in
theorem g_X10_load_0 {Q X : m_Po} {v0 v1 v2 v3 v4 : Int} {ε : m_E} {μ : m_M} (h : TY ε μ → i32 v1 → i32 v2 → i32 v3 → i32 v4 → kd ε v0 = 9 ∧ o_X10_archWithPlace [(2, v0), (0, v1), (0, v2)] ε μ (fun z ε_1 μ_1 => G cd_X10_load Q X 6 [(2, (0, v2)), (3, (0, v3)), (4, (0, v4))] [(2, z)] ε_1 μ_1) X) : G cd_X10_load Q X 0 [(0, (2, v0)), (1, (0, v1)), (2, (0, v2)), (3, (0, v3)), (4, (0, v4))] [] ε μ := by
  refine G_run (m_in [6, 40]) 7 _ _ _ _ ?_
  show m_ty [(0, (2, v0)), (1, (0, v1)), (2, (0, v2)), (3, (0, v3)), (4, (0, v4))] [] ε μ → (kd ε v0 = 9) ∧ o_X10_archWithPlace [(2, v0), (0, v1), (0, v2)] ε μ (fun z ε_1 μ_1 => G cd_X10_load Q X 6 [(2, (0, v2)), (3, (0, v3)), (4, (0, v4))] [(2, z)] ε_1 μ_1) X
  intro hty
  replace h := h hty.1 (hty.2.1 _ (List.mem_of_getElem? (i := 1) rfl)) (hty.2.1 _ (List.mem_of_getElem? (i := 2) rfl)) (hty.2.1 _ (List.mem_of_getElem? (i := 3) rfl)) (hty.2.1 _ (List.mem_of_getElem? (i := 4) rfl))
  obtain ⟨k1, h⟩ := h
  refine And.intro k1 ?_
  exact h
theorem e_X10_load {Q X : m_Po} {v0 v1 v2 v3 v4 : Int} {ε : m_E} {μ : m_M} (h : TY ε μ → i32 v1 → i32 v2 → i32 v3 → i32 v4 → kd ε v0 = 9 ∧ o_X10_archWithPlace [(2, v0), (0, v1), (0, v2)] ε μ (fun z ε_1 μ_1 => G cd_X10_load Q X 6 [(2, (0, v2)), (3, (0, v3)), (4, (0, v4))] [(2, z)] ε_1 μ_1) X) : o_X10_load [(2, v0), (0, v1), (0, v2), (0, v3), (0, v4)] ε μ Q X := And.intro rfl (g_X10_load_0 h)
/-! ArchYard.slope(III)V -/
set_option maxRecDepth 20000 in
theorem g_X10_slope_45 {Q X : m_Po} {ε : m_E} {μ : m_M} (h : TY ε μ → Q 0 ε μ) : G cd_X10_slope Q X 45 [] [] ε μ := by
  refine G_run (m_in [5, 45]) 9 _ _ _ _ ?_
  show m_ty [] [] ε μ → Q 0 ε μ
  intro hty
  replace h := h hty.1 
  exact h
set_option maxRecDepth 20000 in
theorem g_X10_slope_5 {Q X : m_Po} {v2 v3 t : Int} {ε : m_E} {μ : m_M} (h : TY ε μ → i32 v2 → i32 v3 → ∀ v4 : Int, v4 = t → (v2 < 0 → ∀ n : Int, nx ε ≤ n → X 2 (enx ε n) μ) ∧ (0 ≤ v2 → ((20 : Int) < v2 → ∀ n_1 : Int, nx ε ≤ n_1 → X 2 (enx ε n_1) μ) ∧ (v2 ≤ (20 : Int) → (v3 < (1 : Int) → ∀ n_2 : Int, nx ε ≤ n_2 → X 2 (enx ε n_2) μ) ∧ ((1 : Int) ≤ v3 → (v3 ≤ (20 : Int) → kd ε v4 = 0 ∧ o_X0_lean [(2, v4), (0, v2), (0, v3)] ε μ (fun z ε_1 μ_1 => G cd_X10_slope Q X 45 [] [] ε_1 μ_1) m_F) ∧ ((20 : Int) < v3 → ∀ n_3 : Int, nx ε ≤ n_3 → X 2 (enx ε n_3) μ))))) : G cd_X10_slope Q X 5 [(2, (0, v2)), (3, (0, v3))] [(2, t)] ε μ := by
  refine G_run (m_in [5, 45]) 9 _ _ _ _ ?_
  show m_ty [(2, (0, v2)), (3, (0, v3))] [(2, t)] ε μ → ∀ v4 : Int, v4 = t → (v2 < 0 → (m_ty [] [] ε μ → ∀ n : Int, nx ε ≤ n → X 2 (enx ε n) μ)) ∧ (0 ≤ v2 → (m_ty [(2, (0, v2)), (3, (0, v3)), (4, (2, v4))] [] ε μ → ((20 : Int) < v2 → (m_ty [] [] ε μ → ∀ n_1 : Int, nx ε ≤ n_1 → X 2 (enx ε n_1) μ)) ∧ (v2 ≤ (20 : Int) → (m_ty [(2, (0, v2)), (3, (0, v3)), (4, (2, v4))] [] ε μ → (v3 < (1 : Int) → (m_ty [] [] ε μ → ∀ n_2 : Int, nx ε ≤ n_2 → X 2 (enx ε n_2) μ)) ∧ ((1 : Int) ≤ v3 → (m_ty [(2, (0, v2)), (3, (0, v3)), (4, (2, v4))] [] ε μ → (v3 ≤ (20 : Int) → (m_ty [(2, (0, v2)), (3, (0, v3)), (4, (2, v4))] [] ε μ → (kd ε v4 = 0) ∧ o_X0_lean [(2, v4), (0, v2), (0, v3)] ε μ (fun z ε_1 μ_1 => G cd_X10_slope Q X 45 [] [] ε_1 μ_1) m_F)) ∧ ((20 : Int) < v3 → (m_ty [] [] ε μ → ∀ n_3 : Int, nx ε ≤ n_3 → X 2 (enx ε n_3) μ))))))))
  intro hty
  replace h := h hty.1 (hty.2.1 _ (List.mem_of_getElem? (i := 0) rfl)) (hty.2.1 _ (List.mem_of_getElem? (i := 1) rfl))
  intro v4 e_v4
  replace h := h v4 e_v4
  obtain ⟨ha, hb⟩ := h
  refine And.intro (fun c4 => ?_) (fun c4 => ?_)
  · replace h := ha c4
    clear ha hb
    intro _
    exact h
  · replace h := hb c4
    clear ha hb
    intro _
    obtain ⟨ha, hb⟩ := h
    refine And.intro (fun c3 => ?_) (fun c3 => ?_)
    · replace h := ha c3
      clear ha hb
      intro _
      exact h
    · replace h := hb c3
      clear ha hb
      intro _
      obtain ⟨ha, hb⟩ := h
      refine And.intro (fun c2 => ?_) (fun c2 => ?_)
      · replace h := ha c2
        clear ha hb
        intro _
        exact h
      · replace h := hb c2
        clear ha hb
        intro _
        obtain ⟨ha, hb⟩ := h
        refine And.intro (fun c1 => ?_) (fun c1 => ?_)
        · replace h := ha c1
          clear ha hb
          intro _
          obtain ⟨k1, h⟩ := h
          refine And.intro k1 ?_
          exact h
        · replace h := hb c1
          clear ha hb
          intro _
          exact h
set_option maxRecDepth 20000 in
theorem g_X10_slope_0 {Q X : m_Po} {v0 v1 v2 v3 : Int} {ε : m_E} {μ : m_M} (h : TY ε μ → i32 v1 → i32 v2 → i32 v3 → kd ε v0 = 9 ∧ o_X10_archAt [(2, v0), (0, v1)] ε μ (fun z ε_1 μ_1 => G cd_X10_slope Q X 5 [(2, (0, v2)), (3, (0, v3))] [(2, z)] ε_1 μ_1) X) : G cd_X10_slope Q X 0 [(0, (2, v0)), (1, (0, v1)), (2, (0, v2)), (3, (0, v3))] [] ε μ := by
  refine G_run (m_in [5, 45]) 9 _ _ _ _ ?_
  show m_ty [(0, (2, v0)), (1, (0, v1)), (2, (0, v2)), (3, (0, v3))] [] ε μ → (kd ε v0 = 9) ∧ o_X10_archAt [(2, v0), (0, v1)] ε μ (fun z ε_1 μ_1 => G cd_X10_slope Q X 5 [(2, (0, v2)), (3, (0, v3))] [(2, z)] ε_1 μ_1) X
  intro hty
  replace h := h hty.1 (hty.2.1 _ (List.mem_of_getElem? (i := 1) rfl)) (hty.2.1 _ (List.mem_of_getElem? (i := 2) rfl)) (hty.2.1 _ (List.mem_of_getElem? (i := 3) rfl))
  obtain ⟨k1, h⟩ := h
  refine And.intro k1 ?_
  exact h
theorem e_X10_slope {Q X : m_Po} {v0 v1 v2 v3 : Int} {ε : m_E} {μ : m_M} (h : TY ε μ → i32 v1 → i32 v2 → i32 v3 → kd ε v0 = 9 ∧ o_X10_archAt [(2, v0), (0, v1)] ε μ (fun z ε_1 μ_1 => G cd_X10_slope Q X 5 [(2, (0, v2)), (3, (0, v3))] [(2, z)] ε_1 μ_1) X) : o_X10_slope [(2, v0), (0, v1), (0, v2), (0, v3)] ε μ Q X := And.intro rfl (g_X10_slope_0 h)
/-! ArchYard.whole(I)I -/
set_option maxRecDepth 20000 in
theorem g_X10_whole_8 {Q X : m_Po} {t : Int} {ε : m_E} {μ : m_M} (h : TY ε μ → i32 t → Q t ε μ) : G cd_X10_whole Q X 8 [] [(0, t)] ε μ := by
  refine G_run (m_in [5, 8]) 4 _ _ _ _ ?_
  show m_ty [] [(0, t)] ε μ → Q t ε μ
  intro hty
  replace h := h hty.1 (hty.2.2 _ (List.mem_of_getElem? (i := 0) rfl))
  exact h
set_option maxRecDepth 20000 in
theorem g_X10_whole_5 {Q X : m_Po} {t : Int} {ε : m_E} {μ : m_M} (h : TY ε μ → kd ε t = 0 ∧ o_X0_fault [(2, t)] ε μ (fun z ε_1 μ_1 => G cd_X10_whole Q X 8 [] [(0, z)] ε_1 μ_1) m_F) : G cd_X10_whole Q X 5 [] [(2, t)] ε μ := by
  refine G_run (m_in [5, 8]) 4 _ _ _ _ ?_
  show m_ty [] [(2, t)] ε μ → (kd ε t = 0) ∧ o_X0_fault [(2, t)] ε μ (fun z ε_1 μ_1 => G cd_X10_whole Q X 8 [] [(0, z)] ε_1 μ_1) m_F
  intro hty
  replace h := h hty.1 
  obtain ⟨k1, h⟩ := h
  refine And.intro k1 ?_
  exact h
set_option maxRecDepth 20000 in
theorem g_X10_whole_0 {Q X : m_Po} {v0 v1 : Int} {ε : m_E} {μ : m_M} (h : TY ε μ → i32 v1 → kd ε v0 = 9 ∧ o_X10_archAt [(2, v0), (0, v1)] ε μ (fun z ε_1 μ_1 => G cd_X10_whole Q X 5 [] [(2, z)] ε_1 μ_1) X) : G cd_X10_whole Q X 0 [(0, (2, v0)), (1, (0, v1))] [] ε μ := by
  refine G_run (m_in [5, 8]) 4 _ _ _ _ ?_
  show m_ty [(0, (2, v0)), (1, (0, v1))] [] ε μ → (kd ε v0 = 9) ∧ o_X10_archAt [(2, v0), (0, v1)] ε μ (fun z ε_1 μ_1 => G cd_X10_whole Q X 5 [] [(2, z)] ε_1 μ_1) X
  intro hty
  replace h := h hty.1 (hty.2.1 _ (List.mem_of_getElem? (i := 1) rfl))
  obtain ⟨k1, h⟩ := h
  refine And.intro k1 ?_
  exact h
theorem e_X10_whole {Q X : m_Po} {v0 v1 : Int} {ε : m_E} {μ : m_M} (h : TY ε μ → i32 v1 → kd ε v0 = 9 ∧ o_X10_archAt [(2, v0), (0, v1)] ε μ (fun z ε_1 μ_1 => G cd_X10_whole Q X 5 [] [(2, z)] ε_1 μ_1) X) : o_X10_whole [(2, v0), (0, v1)] ε μ Q X := And.intro rfl (g_X10_whole_0 h)
/-! ArchYard.joint(III)I -/
set_option maxRecDepth 20000 in
theorem g_X10_joint_65 {Q X : m_Po} {t : Int} {ε : m_E} {μ : m_M} (h : TY ε μ → i32 t → Q t ε μ) : G cd_X10_joint Q X 65 [] [(0, t)] ε μ := by
  refine G_run (m_in [5, 55, 65]) 14 _ _ _ _ ?_
  show m_ty [] [(0, t)] ε μ → (m_ty [] [(0, t)] ε μ → Q t ε μ)
  intro hty
  replace h := h hty.1 (hty.2.2 _ (List.mem_of_getElem? (i := 0) rfl))
  intro _
  exact h
set_option maxRecDepth 20000 in
theorem g_X10_joint_55 {Q X : m_Po} {v2 v3 v4 t : Int} {ε : m_E} {μ : m_M} (h : TY ε μ → i32 v2 → i32 v3 → i32 t → (t = 0 → Q (-1000) ε μ) ∧ (t ≠ 0 → kd ε v4 = 0 ∧ o_X0_span [(2, v4), (0, v2), (0, v3)] ε μ (fun z ε_1 μ_1 => G cd_X10_joint Q X 65 [] [(0, z)] ε_1 μ_1) m_F)) : G cd_X10_joint Q X 55 [(2, (0, v2)), (3, (0, v3)), (4, (2, v4))] [(0, t)] ε μ := by
  refine G_run (m_in [5, 55, 65]) 14 _ _ _ _ ?_
  show m_ty [(2, (0, v2)), (3, (0, v3)), (4, (2, v4))] [(0, t)] ε μ → (t = 0 → (m_ty [] [] ε μ → (m_ty [] [(0, (-1000))] ε μ → Q (-1000) ε μ))) ∧ (t ≠ 0 → (m_ty [(2, (0, v2)), (3, (0, v3)), (4, (2, v4))] [] ε μ → (kd ε v4 = 0) ∧ o_X0_span [(2, v4), (0, v2), (0, v3)] ε μ (fun z ε_1 μ_1 => G cd_X10_joint Q X 65 [] [(0, z)] ε_1 μ_1) m_F))
  intro hty
  replace h := h hty.1 (hty.2.1 _ (List.mem_of_getElem? (i := 0) rfl)) (hty.2.1 _ (List.mem_of_getElem? (i := 1) rfl)) (hty.2.2 _ (List.mem_of_getElem? (i := 0) rfl))
  obtain ⟨ha, hb⟩ := h
  refine And.intro (fun c1 => ?_) (fun c1 => ?_)
  · replace h := ha c1
    clear ha hb
    intro _
    intro _
    exact h
  · replace h := hb c1
    clear ha hb
    intro _
    obtain ⟨k1, h⟩ := h
    refine And.intro k1 ?_
    exact h
set_option maxRecDepth 20000 in
theorem g_X10_joint_5 {Q X : m_Po} {v2 v3 t : Int} {ε : m_E} {μ : m_M} (h : TY ε μ → i32 v2 → i32 v3 → ∀ v4 : Int, v4 = t → (v2 < 0 → ∀ n : Int, nx ε ≤ n → X 1 (enx ε n) μ) ∧ (0 ≤ v2 → kd ε v4 = 0 ∧ (v2 ≤ (fn ε v4 0) → (v3 < 0 → ∀ n_1 : Int, nx ε ≤ n_1 → X 2 (enx ε n_1) μ) ∧ (0 ≤ v3 → (v3 ≤ (3 : Int) → o_X0_hasSpan [(2, v4), (0, v2)] ε μ (fun z ε_1 μ_1 => G cd_X10_joint Q X 55 [(2, (0, v2)), (3, (0, v3)), (4, (2, v4))] [(0, z)] ε_1 μ_1) m_F) ∧ ((3 : Int) < v3 → ∀ n_2 : Int, nx ε ≤ n_2 → X 2 (enx ε n_2) μ))) ∧ ((fn ε v4 0) < v2 → ∀ n_3 : Int, nx ε ≤ n_3 → X 1 (enx ε n_3) μ))) : G cd_X10_joint Q X 5 [(2, (0, v2)), (3, (0, v3))] [(2, t)] ε μ := by
  refine G_run (m_in [5, 55, 65]) 14 _ _ _ _ ?_
  show m_ty [(2, (0, v2)), (3, (0, v3))] [(2, t)] ε μ → ∀ v4 : Int, v4 = t → (v2 < 0 → (m_ty [] [] ε μ → ∀ n : Int, nx ε ≤ n → X 1 (enx ε n) μ)) ∧ (0 ≤ v2 → (m_ty [(2, (0, v2)), (3, (0, v3)), (4, (2, v4))] [] ε μ → (kd ε v4 = 0) ∧ (v2 ≤ (fn ε v4 0) → (m_ty [(2, (0, v2)), (3, (0, v3)), (4, (2, v4))] [] ε μ → (v3 < 0 → (m_ty [] [] ε μ → ∀ n_1 : Int, nx ε ≤ n_1 → X 2 (enx ε n_1) μ)) ∧ (0 ≤ v3 → (m_ty [(2, (0, v2)), (3, (0, v3)), (4, (2, v4))] [] ε μ → (v3 ≤ (3 : Int) → (m_ty [(2, (0, v2)), (3, (0, v3)), (4, (2, v4))] [] ε μ → (kd ε v4 = 0) ∧ o_X0_hasSpan [(2, v4), (0, v2)] ε μ (fun z ε_1 μ_1 => G cd_X10_joint Q X 55 [(2, (0, v2)), (3, (0, v3)), (4, (2, v4))] [(0, z)] ε_1 μ_1) m_F)) ∧ ((3 : Int) < v3 → (m_ty [] [] ε μ → ∀ n_2 : Int, nx ε ≤ n_2 → X 2 (enx ε n_2) μ)))))) ∧ ((fn ε v4 0) < v2 → (m_ty [] [] ε μ → ∀ n_3 : Int, nx ε ≤ n_3 → X 1 (enx ε n_3) μ))))
  intro hty
  replace h := h hty.1 (hty.2.1 _ (List.mem_of_getElem? (i := 0) rfl)) (hty.2.1 _ (List.mem_of_getElem? (i := 1) rfl))
  intro v4 e_v4
  replace h := h v4 e_v4
  obtain ⟨ha, hb⟩ := h
  refine And.intro (fun c4 => ?_) (fun c4 => ?_)
  · replace h := ha c4
    clear ha hb
    intro _
    exact h
  · replace h := hb c4
    clear ha hb
    intro _
    obtain ⟨k1, h⟩ := h
    refine And.intro k1 ?_
    obtain ⟨ha, hb⟩ := h
    refine And.intro (fun c3 => ?_) (fun c3 => ?_)
    · replace h := ha c3
      clear ha hb
      intro _
      obtain ⟨ha, hb⟩ := h
      refine And.intro (fun c2 => ?_) (fun c2 => ?_)
      · replace h := ha c2
        clear ha hb
        intro _
        exact h
      · replace h := hb c2
        clear ha hb
        intro _
        obtain ⟨ha, hb⟩ := h
        refine And.intro (fun c1 => ?_) (fun c1 => ?_)
        · replace h := ha c1
          clear ha hb
          intro _
          refine And.intro k1 ?_
          exact h
        · replace h := hb c1
          clear ha hb
          intro _
          exact h
    · replace h := hb c3
      clear ha hb
      intro _
      exact h
set_option maxRecDepth 20000 in
theorem g_X10_joint_0 {Q X : m_Po} {v0 v1 v2 v3 : Int} {ε : m_E} {μ : m_M} (h : TY ε μ → i32 v1 → i32 v2 → i32 v3 → kd ε v0 = 9 ∧ o_X10_archAt [(2, v0), (0, v1)] ε μ (fun z ε_1 μ_1 => G cd_X10_joint Q X 5 [(2, (0, v2)), (3, (0, v3))] [(2, z)] ε_1 μ_1) X) : G cd_X10_joint Q X 0 [(0, (2, v0)), (1, (0, v1)), (2, (0, v2)), (3, (0, v3))] [] ε μ := by
  refine G_run (m_in [5, 55, 65]) 14 _ _ _ _ ?_
  show m_ty [(0, (2, v0)), (1, (0, v1)), (2, (0, v2)), (3, (0, v3))] [] ε μ → (kd ε v0 = 9) ∧ o_X10_archAt [(2, v0), (0, v1)] ε μ (fun z ε_1 μ_1 => G cd_X10_joint Q X 5 [(2, (0, v2)), (3, (0, v3))] [(2, z)] ε_1 μ_1) X
  intro hty
  replace h := h hty.1 (hty.2.1 _ (List.mem_of_getElem? (i := 1) rfl)) (hty.2.1 _ (List.mem_of_getElem? (i := 2) rfl)) (hty.2.1 _ (List.mem_of_getElem? (i := 3) rfl))
  obtain ⟨k1, h⟩ := h
  refine And.intro k1 ?_
  exact h
theorem e_X10_joint {Q X : m_Po} {v0 v1 v2 v3 : Int} {ε : m_E} {μ : m_M} (h : TY ε μ → i32 v1 → i32 v2 → i32 v3 → kd ε v0 = 9 ∧ o_X10_archAt [(2, v0), (0, v1)] ε μ (fun z ε_1 μ_1 => G cd_X10_joint Q X 5 [(2, (0, v2)), (3, (0, v3))] [(2, z)] ε_1 μ_1) X) : o_X10_joint [(2, v0), (0, v1), (0, v2), (0, v3)] ε μ Q X := And.intro rfl (g_X10_joint_0 h)
