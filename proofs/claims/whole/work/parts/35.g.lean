/-! ArchYardModel.thrown()I -/
set_option maxRecDepth 20000 in
theorem g_X12_thrown_0 {Q X : m_Po} {v0 : Int} {ε : m_E} {μ : m_M} (h : TY ε μ → kd ε v0 = 11 ∧ Q (μ v0 0) ε μ) : G cd_X12_thrown Q X 0 [(0, (2, v0))] [] ε μ := by
  refine G_run (m_in []) 2 _ _ _ _ ?_
  show m_ty [(0, (2, v0))] [] ε μ → (kd ε v0 = 11) ∧ Q (μ v0 0) ε μ
  intro hty
  replace h := h hty.1 
  obtain ⟨k1, h⟩ := h
  refine And.intro k1 ?_
  exact h
theorem e_X12_thrown {Q X : m_Po} {v0 : Int} {ε : m_E} {μ : m_M} (h : TY ε μ → kd ε v0 = 11 ∧ Q (μ v0 0) ε μ) : o_X12_thrown [(2, v0)] ε μ Q X := And.intro rfl (g_X12_thrown_0 h)
/-! ArchYardModel.rack(I)I -/
set_option maxRecDepth 20000 in
theorem g_X12_rack_52 {Q X : m_Po} {v0 v2 : Int} {ε : m_E} {μ : m_M} (h : TY ε μ → i32 v2 → ((40 : Int) ≤ v2 → kd ε v0 = 11 ∧ ∀ μ_1 : m_M, μ_1 = st μ v0 4 (w32 ((μ v0 4) + 1)) → Q (w32 ((μ_1 v0 4) - 1)) ε μ_1) ∧ (v2 < (40 : Int) → kd ε v0 = 11 ∧ kd ε (fn ε v0 2) = 100 ∧ (0 : Int) ≤ w32 ((w32 (40 * (μ v0 4))) + v2) ∧ w32 ((w32 (40 * (μ v0 4))) + v2) < ln ε (fn ε v0 2) ∧ ∀ μ_2 : m_M, μ_2 = st μ (fn ε v0 2) (w32 ((w32 (40 * (μ v0 4))) + v2)) (-1) → ∀ v2_1 : Int, v2_1 = w32 (v2 + 1) → G cd_X12_rack Q X 52 [(0, (2, v0)), (2, (0, v2_1))] [] ε μ_2)) : G cd_X12_rack Q X 52 [(0, (2, v0)), (2, (0, v2))] [] ε μ := by
  refine G_run (m_in [28, 52]) 13 _ _ _ _ ?_
  show m_ty [(0, (2, v0)), (2, (0, v2))] [] ε μ → ((40 : Int) ≤ v2 → (m_ty [(0, (2, v0))] [] ε μ → (kd ε v0 = 11) ∧ (kd ε v0 = 11) ∧ ∀ μ_1 : m_M, μ_1 = st μ v0 4 (w32 ((μ v0 4) + 1)) → (kd ε v0 = 11) ∧ Q (w32 ((μ_1 v0 4) - 1)) ε μ_1)) ∧ (v2 < (40 : Int) → (m_ty [(0, (2, v0)), (2, (0, v2))] [] ε μ → (kd ε v0 = 11) ∧ (kd ε v0 = 11) ∧ (kd ε (fn ε v0 2) = 100) ∧ ((0 : Int) ≤ w32 ((w32 (40 * (μ v0 4))) + v2) ∧ w32 ((w32 (40 * (μ v0 4))) + v2) < ln ε (fn ε v0 2)) ∧ ∀ μ_2 : m_M, μ_2 = st μ (fn ε v0 2) (w32 ((w32 (40 * (μ v0 4))) + v2)) (-1) → ∀ v2_1 : Int, v2_1 = w32 (v2 + 1) → G cd_X12_rack Q X 52 [(0, (2, v0)), (2, (0, v2_1))] [] ε μ_2))
  intro hty
  replace h := h hty.1 (hty.2.1 _ (List.mem_of_getElem? (i := 1) rfl))
  obtain ⟨ha, hb⟩ := h
  refine And.intro (fun c5 => ?_) (fun c5 => ?_)
  · replace h := ha c5
    clear ha hb
    intro _
    obtain ⟨k1, h⟩ := h
    refine And.intro k1 ?_
    refine And.intro k1 ?_
    intro μ_1 e_μ_1
    replace h := h μ_1 e_μ_1
    refine And.intro k1 ?_
    exact h
  · replace h := hb c5
    clear ha hb
    intro _
    obtain ⟨k2, h⟩ := h
    refine And.intro k2 ?_
    refine And.intro k2 ?_
    obtain ⟨k3, h⟩ := h
    refine And.intro k3 ?_
    obtain ⟨k4, h⟩ := h
    obtain ⟨k5, h⟩ := h
    refine And.intro (And.intro k4 k5) ?_
    intro μ_2 e_μ_2
    replace h := h μ_2 e_μ_2
    intro v2_1 e_v2_1
    replace h := h v2_1 e_v2_1
    exact h
set_option maxRecDepth 20000 in
theorem g_X12_rack_28 {Q X : m_Po} {v0 v1 t t_1 : Int} {ε : m_E} {μ : m_M} (h : TY ε μ → i32 v1 → i32 t_1 → kd ε t = 11 ∧ ∀ μ_1 : m_M, μ_1 = st μ t 0 t_1 → kd ε v0 = 11 ∧ ((μ_1 v0 0) ≤ 0 → kd ε (fn ε v0 1) = 100 ∧ (0 : Int) ≤ μ_1 v0 4 ∧ μ_1 v0 4 < ln ε (fn ε v0 1) ∧ ∀ μ_2 : m_M, μ_2 = st μ_1 (fn ε v0 1) (μ_1 v0 4) v1 → ∀ v2 : Int, v2 = 0 → G cd_X12_rack Q X 52 [(0, (2, v0)), (2, (0, v2))] [] ε μ_2) ∧ (0 < (μ_1 v0 0) → Q 0 ε μ_1)) : G cd_X12_rack Q X 28 [(0, (2, v0)), (1, (0, v1))] [(0, t_1), (2, t)] ε μ := by
  refine G_run (m_in [28, 52]) 13 _ _ _ _ ?_
  show m_ty [(0, (2, v0)), (1, (0, v1))] [(0, t_1), (2, t)] ε μ → (kd ε t = 11) ∧ ∀ μ_1 : m_M, μ_1 = st μ t 0 t_1 → (kd ε v0 = 11) ∧ ((μ_1 v0 0) ≤ 0 → (m_ty [(0, (2, v0)), (1, (0, v1))] [] ε μ_1 → (kd ε v0 = 11) ∧ (kd ε v0 = 11) ∧ (kd ε (fn ε v0 1) = 100) ∧ ((0 : Int) ≤ μ_1 v0 4 ∧ μ_1 v0 4 < ln ε (fn ε v0 1)) ∧ ∀ μ_2 : m_M, μ_2 = st μ_1 (fn ε v0 1) (μ_1 v0 4) v1 → ∀ v2 : Int, v2 = 0 → G cd_X12_rack Q X 52 [(0, (2, v0)), (2, (0, v2))] [] ε μ_2)) ∧ (0 < (μ_1 v0 0) → (m_ty [] [] ε μ_1 → Q 0 ε μ_1))
  intro hty
  replace h := h hty.1 (hty.2.1 _ (List.mem_of_getElem? (i := 1) rfl)) (hty.2.2 _ (List.mem_of_getElem? (i := 0) rfl))
  obtain ⟨k1, h⟩ := h
  refine And.intro k1 ?_
  intro μ_1 e_μ_1
  replace h := h μ_1 e_μ_1
  obtain ⟨k2, h⟩ := h
  refine And.intro k2 ?_
  obtain ⟨ha, hb⟩ := h
  refine And.intro (fun c5 => ?_) (fun c5 => ?_)
  · replace h := ha c5
    clear ha hb
    intro _
    refine And.intro k2 ?_
    refine And.intro k2 ?_
    obtain ⟨k3, h⟩ := h
    refine And.intro k3 ?_
    obtain ⟨k4, h⟩ := h
    obtain ⟨k5, h⟩ := h
    refine And.intro (And.intro k4 k5) ?_
    intro μ_2 e_μ_2
    replace h := h μ_2 e_μ_2
    intro v2 e_v2
    replace h := h v2 e_v2
    exact h
  · replace h := hb c5
    clear ha hb
    intro _
    exact h
set_option maxRecDepth 20000 in
theorem g_X12_rack_0 {Q X : m_Po} {v0 v1 : Int} {ε : m_E} {μ : m_M} (h : TY ε μ → i32 v1 → ((0 ≤ v1 → (v1 ≤ (1 : Int) → kd ε v0 = 11))) ∧ ∀ t : Int, t = (if v1 < 0 then 1 else if v1 ≤ (1 : Int) then if (μ v0 4) = (8 : Int) then 2 else 0 else 1) → kd ε v0 = 11 ∧ ∀ μ_1 : m_M, μ_1 = st μ v0 0 t → kd ε v0 = 11 ∧ ((μ_1 v0 0) ≤ 0 → kd ε (fn ε v0 1) = 100 ∧ (0 : Int) ≤ μ_1 v0 4 ∧ μ_1 v0 4 < ln ε (fn ε v0 1) ∧ ∀ μ_2 : m_M, μ_2 = st μ_1 (fn ε v0 1) (μ_1 v0 4) v1 → ∀ v2 : Int, v2 = 0 → G cd_X12_rack Q X 52 [(0, (2, v0)), (2, (0, v2))] [] ε μ_2) ∧ (0 < (μ_1 v0 0) → Q 0 ε μ_1)) : G cd_X12_rack Q X 0 [(0, (2, v0)), (1, (0, v1))] [] ε μ := by
  refine G_run (m_in [28, 52]) 13 _ _ _ _ ?_
  show m_ty [(0, (2, v0)), (1, (0, v1))] [] ε μ → (v1 < 0 → (m_ty [(0, (2, v0)), (1, (0, v1))] [(2, v0)] ε μ → G cd_X12_rack Q X 28 [(0, (2, v0)), (1, (0, v1))] [(0, 1), (2, v0)] ε μ)) ∧ (0 ≤ v1 → (m_ty [(0, (2, v0)), (1, (0, v1))] [(2, v0)] ε μ → (v1 ≤ (1 : Int) → (m_ty [(0, (2, v0)), (1, (0, v1))] [(2, v0)] ε μ → (kd ε v0 = 11) ∧ ((μ v0 4) ≠ (8 : Int) → (m_ty [(0, (2, v0)), (1, (0, v1))] [(2, v0)] ε μ → G cd_X12_rack Q X 28 [(0, (2, v0)), (1, (0, v1))] [(0, 0), (2, v0)] ε μ)) ∧ ((μ v0 4) = (8 : Int) → (m_ty [(0, (2, v0)), (1, (0, v1))] [(2, v0)] ε μ → G cd_X12_rack Q X 28 [(0, (2, v0)), (1, (0, v1))] [(0, 2), (2, v0)] ε μ)))) ∧ ((1 : Int) < v1 → (m_ty [(0, (2, v0)), (1, (0, v1))] [(2, v0)] ε μ → G cd_X12_rack Q X 28 [(0, (2, v0)), (1, (0, v1))] [(0, 1), (2, v0)] ε μ))))
  intro hty
  replace h := h hty.1 (hty.2.1 _ (List.mem_of_getElem? (i := 1) rfl))
  obtain ⟨hc, hj⟩ := h
  refine And.intro (fun c0 => ?_) (fun c0 => ?_)
  · intro _
    exact g_X12_rack_28 (fun _ _ _ => (hj _ (((if_pos c0).trans rfl)).symm))
  · replace hc := hc c0
    intro _
    refine And.intro (fun c1 => ?_) (fun c1 => ?_)
    · replace hc := hc c1
      intro _
      have k3 := hc
      refine And.intro k3 ?_
      refine And.intro (fun c3 => ?_) (fun c3 => ?_)
      · intro _
        exact g_X12_rack_28 (fun _ _ _ => (hj _ (((if_neg (Int.not_lt.mpr c0)).trans ((if_pos c1).trans ((if_neg (c3)).trans rfl)))).symm))
      · intro _
        exact g_X12_rack_28 (fun _ _ _ => (hj _ (((if_neg (Int.not_lt.mpr c0)).trans ((if_pos c1).trans ((if_pos c3).trans rfl)))).symm))
    · intro _
      exact g_X12_rack_28 (fun _ _ _ => (hj _ (((if_neg (Int.not_lt.mpr c0)).trans ((if_neg (Int.not_le.mpr c1)).trans rfl))).symm))
theorem e_X12_rack {Q X : m_Po} {v0 v1 : Int} {ε : m_E} {μ : m_M} (h : TY ε μ → i32 v1 → ((0 ≤ v1 → (v1 ≤ (1 : Int) → kd ε v0 = 11))) ∧ ∀ t : Int, t = (if v1 < 0 then 1 else if v1 ≤ (1 : Int) then if (μ v0 4) = (8 : Int) then 2 else 0 else 1) → kd ε v0 = 11 ∧ ∀ μ_1 : m_M, μ_1 = st μ v0 0 t → kd ε v0 = 11 ∧ ((μ_1 v0 0) ≤ 0 → kd ε (fn ε v0 1) = 100 ∧ (0 : Int) ≤ μ_1 v0 4 ∧ μ_1 v0 4 < ln ε (fn ε v0 1) ∧ ∀ μ_2 : m_M, μ_2 = st μ_1 (fn ε v0 1) (μ_1 v0 4) v1 → ∀ v2 : Int, v2 = 0 → G cd_X12_rack Q X 52 [(0, (2, v0)), (2, (0, v2))] [] ε μ_2) ∧ (0 < (μ_1 v0 0) → Q 0 ε μ_1)) : o_X12_rack [(2, v0), (0, v1)] ε μ Q X := And.intro rfl (g_X12_rack_0 h)
/-! ArchYardModel.isRow(II)Z -/
set_option maxRecDepth 20000 in
theorem g_X12_isRow_43 {Q X : m_Po} {t : Int} {ε : m_E} {μ : m_M} (h : TY ε μ → i32 t → (t = 0 ∨ t = 1) ∧ Q t ε μ) : G cd_X12_isRow Q X 43 [] [(0, t)] ε μ := by
  refine G_run (m_in [28, 43]) 11 _ _ _ _ ?_
  show m_ty [] [(0, t)] ε μ → (t = 0 ∨ t = 1) ∧ Q t ε μ
  intro hty
  replace h := h hty.1 (hty.2.2 _ (List.mem_of_getElem? (i := 0) rfl))
  obtain ⟨k1, h⟩ := h
  refine And.intro k1 ?_
  exact h
set_option maxRecDepth 20000 in
theorem g_X12_isRow_28 {Q X : m_Po} {v0 t t_1 : Int} {ε : m_E} {μ : m_M} (h : TY ε μ → i32 t_1 → kd ε t = 11 ∧ ∀ μ_1 : m_M, μ_1 = st μ t 0 t_1 → kd ε v0 = 11 ∧ ∀ t_2 : Int, t_2 = (if (μ_1 v0 0) = 0 then 1 else 0) → Q t_2 ε μ_1) : G cd_X12_isRow Q X 28 [(0, (2, v0))] [(0, t_1), (2, t)] ε μ := by
  refine G_run (m_in [28, 43]) 11 _ _ _ _ ?_
  show m_ty [(0, (2, v0))] [(0, t_1), (2, t)] ε μ → (kd ε t = 11) ∧ ∀ μ_1 : m_M, μ_1 = st μ t 0 t_1 → (kd ε v0 = 11) ∧ ((μ_1 v0 0) ≠ 0 → (m_ty [] [] ε μ_1 → G cd_X12_isRow Q X 43 [] [(0, 0)] ε μ_1)) ∧ ((μ_1 v0 0) = 0 → (m_ty [] [] ε μ_1 → G cd_X12_isRow Q X 43 [] [(0, 1)] ε μ_1))
  intro hty
  replace h := h hty.1 (hty.2.2 _ (List.mem_of_getElem? (i := 0) rfl))
  obtain ⟨k1, h⟩ := h
  refine And.intro k1 ?_
  intro μ_1 e_μ_1
  replace h := h μ_1 e_μ_1
  obtain ⟨k2, h⟩ := h
  refine And.intro k2 ?_
  have hj := h
  refine And.intro (fun c2 => ?_) (fun c2 => ?_)
  · intro _
    exact g_X12_isRow_43 (fun _ _ => (And.intro (Or.inl rfl) (hj _ (((if_neg (c2)).trans rfl)).symm)))
  · intro _
    exact g_X12_isRow_43 (fun _ _ => (And.intro (Or.inr rfl) (hj _ (((if_pos c2).trans rfl)).symm)))
set_option maxRecDepth 20000 in
theorem g_X12_isRow_0 {Q X : m_Po} {v0 v1 v2 : Int} {ε : m_E} {μ : m_M} (h : TY ε μ → i32 v1 → i32 v2 → ((0 ≤ v1 → kd ε v0 = 11)) ∧ ∀ t : Int, t = (if v1 < 0 then 1 else if (μ v0 4) ≤ v1 then 1 else if v2 < 0 then 1 else if v2 ≤ (39 : Int) then 0 else 1) → kd ε v0 = 11 ∧ ∀ μ_1 : m_M, μ_1 = st μ v0 0 t → kd ε v0 = 11 ∧ ∀ t_1 : Int, t_1 = (if (μ_1 v0 0) = 0 then 1 else 0) → Q t_1 ε μ_1) : G cd_X12_isRow Q X 0 [(0, (2, v0)), (1, (0, v1)), (2, (0, v2))] [] ε μ := by
  refine G_run (m_in [28, 43]) 11 _ _ _ _ ?_
  show m_ty [(0, (2, v0)), (1, (0, v1)), (2, (0, v2))] [] ε μ → (v1 < 0 → (m_ty [(0, (2, v0))] [(2, v0)] ε μ → G cd_X12_isRow Q X 28 [(0, (2, v0))] [(0, 1), (2, v0)] ε μ)) ∧ (0 ≤ v1 → (m_ty [(0, (2, v0)), (1, (0, v1)), (2, (0, v2))] [(2, v0)] ε μ → (kd ε v0 = 11) ∧ ((μ v0 4) ≤ v1 → (m_ty [(0, (2, v0))] [(2, v0)] ε μ → G cd_X12_isRow Q X 28 [(0, (2, v0))] [(0, 1), (2, v0)] ε μ)) ∧ (v1 < (μ v0 4) → (m_ty [(0, (2, v0)), (2, (0, v2))] [(2, v0)] ε μ → (v2 < 0 → (m_ty [(0, (2, v0))] [(2, v0)] ε μ → G cd_X12_isRow Q X 28 [(0, (2, v0))] [(0, 1), (2, v0)] ε μ)) ∧ (0 ≤ v2 → (m_ty [(0, (2, v0)), (2, (0, v2))] [(2, v0)] ε μ → (v2 ≤ (39 : Int) → (m_ty [(0, (2, v0))] [(2, v0)] ε μ → G cd_X12_isRow Q X 28 [(0, (2, v0))] [(0, 0), (2, v0)] ε μ)) ∧ ((39 : Int) < v2 → (m_ty [(0, (2, v0))] [(2, v0)] ε μ → G cd_X12_isRow Q X 28 [(0, (2, v0))] [(0, 1), (2, v0)] ε μ))))))))
  intro hty
  replace h := h hty.1 (hty.2.1 _ (List.mem_of_getElem? (i := 1) rfl)) (hty.2.1 _ (List.mem_of_getElem? (i := 2) rfl))
  obtain ⟨hc, hj⟩ := h
  refine And.intro (fun c0 => ?_) (fun c0 => ?_)
  · intro _
    exact g_X12_isRow_28 (fun _ _ => (hj _ (((if_pos c0).trans rfl)).symm))
  · replace hc := hc c0
    intro _
    have k2 := hc
    refine And.intro k2 ?_
    refine And.intro (fun c2 => ?_) (fun c2 => ?_)
    · intro _
      exact g_X12_isRow_28 (fun _ _ => (hj _ (((if_neg (Int.not_lt.mpr c0)).trans ((if_pos c2).trans rfl))).symm))
    · intro _
      refine And.intro (fun c3 => ?_) (fun c3 => ?_)
      · intro _
        exact g_X12_isRow_28 (fun _ _ => (hj _ (((if_neg (Int.not_lt.mpr c0)).trans ((if_neg (Int.not_le.mpr c2)).trans ((if_pos c3).trans rfl)))).symm))
      · intro _
        refine And.intro (fun c4 => ?_) (fun c4 => ?_)
        · intro _
          exact g_X12_isRow_28 (fun _ _ => (hj _ (((if_neg (Int.not_lt.mpr c0)).trans ((if_neg (Int.not_le.mpr c2)).trans ((if_neg (Int.not_lt.mpr c3)).trans ((if_pos c4).trans rfl))))).symm))
        · intro _
          exact g_X12_isRow_28 (fun _ _ => (hj _ (((if_neg (Int.not_lt.mpr c0)).trans ((if_neg (Int.not_le.mpr c2)).trans ((if_neg (Int.not_lt.mpr c3)).trans ((if_neg (Int.not_le.mpr c4)).trans rfl))))).symm))
theorem e_X12_isRow {Q X : m_Po} {v0 v1 v2 : Int} {ε : m_E} {μ : m_M} (h : TY ε μ → i32 v1 → i32 v2 → ((0 ≤ v1 → kd ε v0 = 11)) ∧ ∀ t : Int, t = (if v1 < 0 then 1 else if (μ v0 4) ≤ v1 then 1 else if v2 < 0 then 1 else if v2 ≤ (39 : Int) then 0 else 1) → kd ε v0 = 11 ∧ ∀ μ_1 : m_M, μ_1 = st μ v0 0 t → kd ε v0 = 11 ∧ ∀ t_1 : Int, t_1 = (if (μ_1 v0 0) = 0 then 1 else 0) → Q t_1 ε μ_1) : o_X12_isRow [(2, v0), (0, v1), (0, v2)] ε μ Q X := And.intro rfl (g_X12_isRow_0 h)
/-! ArchYardModel.row(III)V -/
set_option maxRecDepth 20000 in
theorem g_X12_row_56 {Q X : m_Po} {v0 v4 v5 : Int} {ε : m_E} {μ : m_M} (h : TY ε μ → i32 v4 → i32 v5 → ((40 : Int) ≤ v5 → Q 0 ε μ) ∧ (v5 < (40 : Int) → kd ε v0 = 11 ∧ kd ε (fn ε v0 3) = 100 ∧ (0 : Int) ≤ w32 ((w32 (40 * v4)) + v5) ∧ w32 ((w32 (40 * v4)) + v5) < ln ε (fn ε v0 3) ∧ ∀ μ_1 : m_M, μ_1 = st μ (fn ε v0 3) (w32 ((w32 (40 * v4)) + v5)) 0 → ∀ v5_1 : Int, v5_1 = w32 (v5 + 1) → G cd_X12_row Q X 56 [(0, (2, v0)), (4, (0, v4)), (5, (0, v5_1))] [] ε μ_1)) : G cd_X12_row Q X 56 [(0, (2, v0)), (4, (0, v4)), (5, (0, v5))] [] ε μ := by
  refine G_run (m_in [6, 26, 56]) 14 _ _ _ _ ?_
  show m_ty [(0, (2, v0)), (4, (0, v4)), (5, (0, v5))] [] ε μ → ((40 : Int) ≤ v5 → (m_ty [] [] ε μ → Q 0 ε μ)) ∧ (v5 < (40 : Int) → (m_ty [(0, (2, v0)), (4, (0, v4)), (5, (0, v5))] [] ε μ → (kd ε v0 = 11) ∧ (kd ε (fn ε v0 3) = 100) ∧ ((0 : Int) ≤ w32 ((w32 (40 * v4)) + v5) ∧ w32 ((w32 (40 * v4)) + v5) < ln ε (fn ε v0 3)) ∧ ∀ μ_1 : m_M, μ_1 = st μ (fn ε v0 3) (w32 ((w32 (40 * v4)) + v5)) 0 → ∀ v5_1 : Int, v5_1 = w32 (v5 + 1) → G cd_X12_row Q X 56 [(0, (2, v0)), (4, (0, v4)), (5, (0, v5_1))] [] ε μ_1))
  intro hty
  replace h := h hty.1 (hty.2.1 _ (List.mem_of_getElem? (i := 1) rfl)) (hty.2.1 _ (List.mem_of_getElem? (i := 2) rfl))
  obtain ⟨ha, hb⟩ := h
  refine And.intro (fun c4 => ?_) (fun c4 => ?_)
  · replace h := ha c4
    clear ha hb
    intro _
    exact h
  · replace h := hb c4
    clear ha hb
    intro _
    obtain ⟨k1, h⟩ := h
    refine And.intro k1 ?_
    obtain ⟨k2, h⟩ := h
    refine And.intro k2 ?_
    obtain ⟨k3, h⟩ := h
    obtain ⟨k4, h⟩ := h
    refine And.intro (And.intro k3 k4) ?_
    intro μ_1 e_μ_1
    replace h := h μ_1 e_μ_1
    intro v5_1 e_v5_1
    replace h := h v5_1 e_v5_1
    exact h
set_option maxRecDepth 20000 in
theorem g_X12_row_26 {Q X : m_Po} {v0 v1 v2 v3 t t_1 : Int} {ε : m_E} {μ : m_M} (h : TY ε μ → i32 v1 → i32 v2 → i32 v3 → i32 t_1 → kd ε t = 11 ∧ ∀ μ_1 : m_M, μ_1 = st μ t 0 t_1 → kd ε v0 = 11 ∧ ((μ_1 v0 0) ≤ 0 → ∀ v4 : Int, v4 = w32 ((w32 (40 * v1)) + v2) → kd ε (fn ε v0 2) = 100 ∧ (0 : Int) ≤ v4 ∧ v4 < ln ε (fn ε v0 2) ∧ ∀ μ_2 : m_M, μ_2 = st μ_1 (fn ε v0 2) v4 v3 → ∀ v5 : Int, v5 = 0 → G cd_X12_row Q X 56 [(0, (2, v0)), (4, (0, v4)), (5, (0, v5))] [] ε μ_2) ∧ (0 < (μ_1 v0 0) → Q 0 ε μ_1)) : G cd_X12_row Q X 26 [(0, (2, v0)), (1, (0, v1)), (2, (0, v2)), (3, (0, v3))] [(0, t_1), (2, t)] ε μ := by
  refine G_run (m_in [6, 26, 56]) 14 _ _ _ _ ?_
  show m_ty [(0, (2, v0)), (1, (0, v1)), (2, (0, v2)), (3, (0, v3))] [(0, t_1), (2, t)] ε μ → (kd ε t = 11) ∧ ∀ μ_1 : m_M, μ_1 = st μ t 0 t_1 → (kd ε v0 = 11) ∧ ((μ_1 v0 0) ≤ 0 → (m_ty [(0, (2, v0)), (1, (0, v1)), (2, (0, v2)), (3, (0, v3))] [] ε μ_1 → ∀ v4 : Int, v4 = w32 ((w32 (40 * v1)) + v2) → (kd ε v0 = 11) ∧ (kd ε (fn ε v0 2) = 100) ∧ ((0 : Int) ≤ v4 ∧ v4 < ln ε (fn ε v0 2)) ∧ ∀ μ_2 : m_M, μ_2 = st μ_1 (fn ε v0 2) v4 v3 → ∀ v5 : Int, v5 = 0 → G cd_X12_row Q X 56 [(0, (2, v0)), (4, (0, v4)), (5, (0, v5))] [] ε μ_2)) ∧ (0 < (μ_1 v0 0) → (m_ty [] [] ε μ_1 → Q 0 ε μ_1))
  intro hty
  replace h := h hty.1 (hty.2.1 _ (List.mem_of_getElem? (i := 1) rfl)) (hty.2.1 _ (List.mem_of_getElem? (i := 2) rfl)) (hty.2.1 _ (List.mem_of_getElem? (i := 3) rfl)) (hty.2.2 _ (List.mem_of_getElem? (i := 0) rfl))
  obtain ⟨k1, h⟩ := h
  refine And.intro k1 ?_
  intro μ_1 e_μ_1
  replace h := h μ_1 e_μ_1
  obtain ⟨k2, h⟩ := h
  refine And.intro k2 ?_
  obtain ⟨ha, hb⟩ := h
  refine And.intro (fun c5 => ?_) (fun c5 => ?_)
  · replace h := ha c5
    clear ha hb
    intro _
    intro v4 e_v4
    replace h := h v4 e_v4
    refine And.intro k2 ?_
    obtain ⟨k3, h⟩ := h
    refine And.intro k3 ?_
    obtain ⟨k4, h⟩ := h
    obtain ⟨k5, h⟩ := h
    refine And.intro (And.intro k4 k5) ?_
    intro μ_2 e_μ_2
    replace h := h μ_2 e_μ_2
    intro v5 e_v5
    replace h := h v5 e_v5
    exact h
  · replace h := hb c5
    clear ha hb
    intro _
    exact h
set_option maxRecDepth 20000 in
theorem g_X12_row_6 {Q X : m_Po} {v0 v1 v2 v3 t : Int} {ε : m_E} {μ : m_M} (h : TY ε μ → i32 v1 → i32 v2 → i32 v3 → i32 t → (t ≠ 0 → ∀ t_1 : Int, t_1 = (if v3 < 0 then 2 else if v3 ≤ (40 : Int) then 0 else 2) → kd ε v0 = 11 ∧ ∀ μ_1 : m_M, μ_1 = st μ v0 0 t_1 → kd ε v0 = 11 ∧ ((μ_1 v0 0) ≤ 0 → ∀ v4 : Int, v4 = w32 ((w32 (40 * v1)) + v2) → kd ε (fn ε v0 2) = 100 ∧ (0 : Int) ≤ v4 ∧ v4 < ln ε (fn ε v0 2) ∧ ∀ μ_2 : m_M, μ_2 = st μ_1 (fn ε v0 2) v4 v3 → ∀ v5 : Int, v5 = 0 → G cd_X12_row Q X 56 [(0, (2, v0)), (4, (0, v4)), (5, (0, v5))] [] ε μ_2) ∧ (0 < (μ_1 v0 0) → Q 0 ε μ_1)) ∧ (t = 0 → Q 0 ε μ)) : G cd_X12_row Q X 6 [(0, (2, v0)), (1, (0, v1)), (2, (0, v2)), (3, (0, v3))] [(0, t)] ε μ := by
  refine G_run (m_in [6, 26, 56]) 14 _ _ _ _ ?_
  show m_ty [(0, (2, v0)), (1, (0, v1)), (2, (0, v2)), (3, (0, v3))] [(0, t)] ε μ → (t ≠ 0 → (m_ty [(0, (2, v0)), (1, (0, v1)), (2, (0, v2)), (3, (0, v3))] [] ε μ → (v3 < 0 → (m_ty [(0, (2, v0)), (1, (0, v1)), (2, (0, v2)), (3, (0, v3))] [(2, v0)] ε μ → G cd_X12_row Q X 26 [(0, (2, v0)), (1, (0, v1)), (2, (0, v2)), (3, (0, v3))] [(0, 2), (2, v0)] ε μ)) ∧ (0 ≤ v3 → (m_ty [(0, (2, v0)), (1, (0, v1)), (2, (0, v2)), (3, (0, v3))] [(2, v0)] ε μ → (v3 ≤ (40 : Int) → (m_ty [(0, (2, v0)), (1, (0, v1)), (2, (0, v2)), (3, (0, v3))] [(2, v0)] ε μ → G cd_X12_row Q X 26 [(0, (2, v0)), (1, (0, v1)), (2, (0, v2)), (3, (0, v3))] [(0, 0), (2, v0)] ε μ)) ∧ ((40 : Int) < v3 → (m_ty [(0, (2, v0)), (1, (0, v1)), (2, (0, v2)), (3, (0, v3))] [(2, v0)] ε μ → G cd_X12_row Q X 26 [(0, (2, v0)), (1, (0, v1)), (2, (0, v2)), (3, (0, v3))] [(0, 2), (2, v0)] ε μ)))))) ∧ (t = 0 → (m_ty [] [] ε μ → Q 0 ε μ))
  intro hty
  replace h := h hty.1 (hty.2.1 _ (List.mem_of_getElem? (i := 1) rfl)) (hty.2.1 _ (List.mem_of_getElem? (i := 2) rfl)) (hty.2.1 _ (List.mem_of_getElem? (i := 3) rfl)) (hty.2.2 _ (List.mem_of_getElem? (i := 0) rfl))
  obtain ⟨ha, hb⟩ := h
  refine And.intro (fun c8 => ?_) (fun c8 => ?_)
  · replace h := ha c8
    clear ha hb
    intro _
    have hj := h
    refine And.intro (fun c0 => ?_) (fun c0 => ?_)
    · intro _
      exact g_X12_row_26 (fun _ _ _ _ _ => (hj _ (((if_pos c0).trans rfl)).symm))
    · intro _
      refine And.intro (fun c1 => ?_) (fun c1 => ?_)
      · intro _
        exact g_X12_row_26 (fun _ _ _ _ _ => (hj _ (((if_neg (Int.not_lt.mpr c0)).trans ((if_pos c1).trans rfl))).symm))
      · intro _
        exact g_X12_row_26 (fun _ _ _ _ _ => (hj _ (((if_neg (Int.not_lt.mpr c0)).trans ((if_neg (Int.not_le.mpr c1)).trans rfl))).symm))
  · replace h := hb c8
    clear ha hb
    intro _
    exact h
set_option maxRecDepth 20000 in
theorem g_X12_row_0 {Q X : m_Po} {v0 v1 v2 v3 : Int} {ε : m_E} {μ : m_M} (h : TY ε μ → i32 v1 → i32 v2 → i32 v3 → kd ε v0 = 11 ∧ o_X12_isRow [(2, v0), (0, v1), (0, v2)] ε μ (fun z ε_1 μ_1 => G cd_X12_row Q X 6 [(0, (2, v0)), (1, (0, v1)), (2, (0, v2)), (3, (0, v3))] [(0, z)] ε_1 μ_1) m_F) : G cd_X12_row Q X 0 [(0, (2, v0)), (1, (0, v1)), (2, (0, v2)), (3, (0, v3))] [] ε μ := by
  refine G_run (m_in [6, 26, 56]) 14 _ _ _ _ ?_
  show m_ty [(0, (2, v0)), (1, (0, v1)), (2, (0, v2)), (3, (0, v3))] [] ε μ → (kd ε v0 = 11) ∧ o_X12_isRow [(2, v0), (0, v1), (0, v2)] ε μ (fun z ε_1 μ_1 => G cd_X12_row Q X 6 [(0, (2, v0)), (1, (0, v1)), (2, (0, v2)), (3, (0, v3))] [(0, z)] ε_1 μ_1) m_F
  intro hty
  replace h := h hty.1 (hty.2.1 _ (List.mem_of_getElem? (i := 1) rfl)) (hty.2.1 _ (List.mem_of_getElem? (i := 2) rfl)) (hty.2.1 _ (List.mem_of_getElem? (i := 3) rfl))
  obtain ⟨k1, h⟩ := h
  refine And.intro k1 ?_
  exact h
theorem e_X12_row {Q X : m_Po} {v0 v1 v2 v3 : Int} {ε : m_E} {μ : m_M} (h : TY ε μ → i32 v1 → i32 v2 → i32 v3 → kd ε v0 = 11 ∧ o_X12_isRow [(2, v0), (0, v1), (0, v2)] ε μ (fun z ε_1 μ_1 => G cd_X12_row Q X 6 [(0, (2, v0)), (1, (0, v1)), (2, (0, v2)), (3, (0, v3))] [(0, z)] ε_1 μ_1) m_F) : o_X12_row [(2, v0), (0, v1), (0, v2), (0, v3)] ε μ Q X := And.intro rfl (g_X12_row_0 h)
/-! ArchYardModel.put(IIII)I -/
set_option maxRecDepth 20000 in
theorem g_X12_put_79 {Q X : m_Po} {v6 t t_1 t_2 : Int} {ε : m_E} {μ : m_M} (h : TY ε μ → i32 v6 → i32 t_1 → i32 t_2 → kd ε t = 100 ∧ (0 : Int) ≤ t_1 ∧ t_1 < ln ε t ∧ ∀ μ_1 : m_M, μ_1 = st μ t t_1 t_2 → Q v6 ε μ_1) : G cd_X12_put Q X 79 [(6, (0, v6))] [(0, t_2), (0, t_1), (2, t)] ε μ := by
  refine G_run (m_in [6, 79]) 11 _ _ _ _ ?_
  show m_ty [(6, (0, v6))] [(0, t_2), (0, t_1), (2, t)] ε μ → (kd ε t = 100) ∧ ((0 : Int) ≤ t_1 ∧ t_1 < ln ε t) ∧ ∀ μ_1 : m_M, μ_1 = st μ t t_1 t_2 → Q v6 ε μ_1
  intro hty
  replace h := h hty.1 (hty.2.1 _ (List.mem_of_getElem? (i := 0) rfl)) (hty.2.2 _ (List.mem_of_getElem? (i := 1) rfl)) (hty.2.2 _ (List.mem_of_getElem? (i := 0) rfl))
  obtain ⟨k1, h⟩ := h
  refine And.intro k1 ?_
  obtain ⟨k2, h⟩ := h
  obtain ⟨k3, h⟩ := h
  refine And.intro (And.intro k2 k3) ?_
  intro μ_1 e_μ_1
  replace h := h μ_1 e_μ_1
  exact h
set_option maxRecDepth 20000 in
theorem g_X12_put_6 {Q X : m_Po} {v0 v1 v2 v3 v4 t : Int} {ε : m_E} {μ : m_M} (h : TY ε μ → i32 v1 → i32 v2 → i32 v3 → i32 v4 → i32 t → (t ≠ 0 → ∀ v5 : Int, v5 = w32 ((w32 (40 * v1)) + v2) → (v3 < 0 → Q (-2147483648) ε μ) ∧ (0 ≤ v3 → kd ε v0 = 11 ∧ kd ε (fn ε v0 2) = 100 ∧ (0 : Int) ≤ v5 ∧ v5 < ln ε (fn ε v0 2) ∧ (v3 < (μ (fn ε v0 2) v5) → kd ε (fn ε v0 3) = 100 ∧ (0 : Int) ≤ w32 ((w32 (40 * v5)) + v3) ∧ w32 ((w32 (40 * v5)) + v3) < ln ε (fn ε v0 3) ∧ ∀ v6 : Int, v6 = μ (fn ε v0 3) (w32 ((w32 (40 * v5)) + v3)) → kd ε (fn ε v0 1) = 100 ∧ (0 : Int) ≤ v1 ∧ v1 < ln ε (fn ε v0 1) ∧ ∀ t_1 : Int, t_1 = (if (μ (fn ε v0 1) v1) = 0 then w16 v4 else v4) → kd ε (fn ε v0 3) = 100 ∧ (0 : Int) ≤ (w32 ((w32 (40 * v5)) + v3)) ∧ (w32 ((w32 (40 * v5)) + v3)) < ln ε (fn ε v0 3) ∧ ∀ μ_1 : m_M, μ_1 = st μ (fn ε v0 3) (w32 ((w32 (40 * v5)) + v3)) t_1 → Q v6 ε μ_1) ∧ ((μ (fn ε v0 2) v5) ≤ v3 → Q (-2147483648) ε μ))) ∧ (t = 0 → Q 0 ε μ)) : G cd_X12_put Q X 6 [(0, (2, v0)), (1, (0, v1)), (2, (0, v2)), (3, (0, v3)), (4, (0, v4))] [(0, t)] ε μ := by
  refine G_run (m_in [6, 79]) 11 _ _ _ _ ?_
  show m_ty [(0, (2, v0)), (1, (0, v1)), (2, (0, v2)), (3, (0, v3)), (4, (0, v4))] [(0, t)] ε μ → (t ≠ 0 → (m_ty [(0, (2, v0)), (1, (0, v1)), (2, (0, v2)), (3, (0, v3)), (4, (0, v4))] [] ε μ → ∀ v5 : Int, v5 = w32 ((w32 (40 * v1)) + v2) → (v3 < 0 → (m_ty [] [] ε μ → Q (-2147483648) ε μ)) ∧ (0 ≤ v3 → (m_ty [(0, (2, v0)), (1, (0, v1)), (3, (0, v3)), (4, (0, v4)), (5, (0, v5))] [] ε μ → (kd ε v0 = 11) ∧ (kd ε (fn ε v0 2) = 100) ∧ ((0 : Int) ≤ v5 ∧ v5 < ln ε (fn ε v0 2)) ∧ (v3 < (μ (fn ε v0 2) v5) → (m_ty [(0, (2, v0)), (1, (0, v1)), (3, (0, v3)), (4, (0, v4)), (5, (0, v5))] [] ε μ → (kd ε v0 = 11) ∧ (kd ε (fn ε v0 3) = 100) ∧ ((0 : Int) ≤ w32 ((w32 (40 * v5)) + v3) ∧ w32 ((w32 (40 * v5)) + v3) < ln ε (fn ε v0 3)) ∧ ∀ v6 : Int, v6 = μ (fn ε v0 3) (w32 ((w32 (40 * v5)) + v3)) → (kd ε v0 = 11) ∧ (kd ε v0 = 11) ∧ (kd ε (fn ε v0 1) = 100) ∧ ((0 : Int) ≤ v1 ∧ v1 < ln ε (fn ε v0 1)) ∧ ((μ (fn ε v0 1) v1) ≠ 0 → (m_ty [(4, (0, v4)), (6, (0, v6))] [(0, w32 ((w32 (40 * v5)) + v3)), (2, fn ε v0 3)] ε μ → G cd_X12_put Q X 79 [(6, (0, v6))] [(0, v4), (0, w32 ((w32 (40 * v5)) + v3)), (2, fn ε v0 3)] ε μ)) ∧ ((μ (fn ε v0 1) v1) = 0 → (m_ty [(4, (0, v4)), (6, (0, v6))] [(0, w32 ((w32 (40 * v5)) + v3)), (2, fn ε v0 3)] ε μ → G cd_X12_put Q X 79 [(6, (0, v6))] [(0, w16 v4), (0, w32 ((w32 (40 * v5)) + v3)), (2, fn ε v0 3)] ε μ)))) ∧ ((μ (fn ε v0 2) v5) ≤ v3 → (m_ty [] [] ε μ → Q (-2147483648) ε μ)))))) ∧ (t = 0 → (m_ty [] [] ε μ → Q 0 ε μ))
  intro hty
  replace h := h hty.1 (hty.2.1 _ (List.mem_of_getElem? (i := 1) rfl)) (hty.2.1 _ (List.mem_of_getElem? (i := 2) rfl)) (hty.2.1 _ (List.mem_of_getElem? (i := 3) rfl)) (hty.2.1 _ (List.mem_of_getElem? (i := 4) rfl)) (hty.2.2 _ (List.mem_of_getElem? (i := 0) rfl))
  obtain ⟨ha, hb⟩ := h
  refine And.intro (fun c16 => ?_) (fun c16 => ?_)
  · replace h := ha c16
    clear ha hb
    intro _
    intro v5 e_v5
    replace h := h v5 e_v5
    obtain ⟨ha, hb⟩ := h
    refine And.intro (fun c15 => ?_) (fun c15 => ?_)
    · replace h := ha c15
      clear ha hb
      intro _
      exact h
    · replace h := hb c15
      clear ha hb
      intro _
      obtain ⟨k1, h⟩ := h
      refine And.intro k1 ?_
      obtain ⟨k2, h⟩ := h
      refine And.intro k2 ?_
      obtain ⟨k3, h⟩ := h
      obtain ⟨k4, h⟩ := h
      refine And.intro (And.intro k3 k4) ?_
      obtain ⟨ha, hb⟩ := h
      refine And.intro (fun c14 => ?_) (fun c14 => ?_)
      · replace h := ha c14
        clear ha hb
        intro _
        refine And.intro k1 ?_
        obtain ⟨k5, h⟩ := h
        refine And.intro k5 ?_
        obtain ⟨k6, h⟩ := h
        obtain ⟨k7, h⟩ := h
        refine And.intro (And.intro k6 k7) ?_
        intro v6 e_v6
        replace h := h v6 e_v6
        refine And.intro k1 ?_
        refine And.intro k1 ?_
        obtain ⟨k8, h⟩ := h
        refine And.intro k8 ?_
        obtain ⟨k9, h⟩ := h
        obtain ⟨k10, h⟩ := h
        refine And.intro (And.intro k9 k10) ?_
        have hj := h
        refine And.intro (fun c10 => ?_) (fun c10 => ?_)
        · intro _
          exact g_X12_put_79 (fun _ _ _ _ => (hj _ (((if_neg (c10)).trans rfl)).symm))
        · intro _
          exact g_X12_put_79 (fun _ _ _ _ => (hj _ (((if_pos c10).trans rfl)).symm))
      · replace h := hb c14
        clear ha hb
        intro _
        exact h
  · replace h := hb c16
    clear ha hb
    intro _
    exact h
set_option maxRecDepth 20000 in
theorem g_X12_put_0 {Q X : m_Po} {v0 v1 v2 v3 v4 : Int} {ε : m_E} {μ : m_M} (h : TY ε μ → i32 v1 → i32 v2 → i32 v3 → i32 v4 → kd ε v0 = 11 ∧ o_X12_isRow [(2, v0), (0, v1), (0, v2)] ε μ (fun z ε_1 μ_1 => G cd_X12_put Q X 6 [(0, (2, v0)), (1, (0, v1)), (2, (0, v2)), (3, (0, v3)), (4, (0, v4))] [(0, z)] ε_1 μ_1) m_F) : G cd_X12_put Q X 0 [(0, (2, v0)), (1, (0, v1)), (2, (0, v2)), (3, (0, v3)), (4, (0, v4))] [] ε μ := by
  refine G_run (m_in [6, 79]) 11 _ _ _ _ ?_
  show m_ty [(0, (2, v0)), (1, (0, v1)), (2, (0, v2)), (3, (0, v3)), (4, (0, v4))] [] ε μ → (kd ε v0 = 11) ∧ o_X12_isRow [(2, v0), (0, v1), (0, v2)] ε μ (fun z ε_1 μ_1 => G cd_X12_put Q X 6 [(0, (2, v0)), (1, (0, v1)), (2, (0, v2)), (3, (0, v3)), (4, (0, v4))] [(0, z)] ε_1 μ_1) m_F
  intro hty
  replace h := h hty.1 (hty.2.1 _ (List.mem_of_getElem? (i := 1) rfl)) (hty.2.1 _ (List.mem_of_getElem? (i := 2) rfl)) (hty.2.1 _ (List.mem_of_getElem? (i := 3) rfl)) (hty.2.1 _ (List.mem_of_getElem? (i := 4) rfl))
  obtain ⟨k1, h⟩ := h
  refine And.intro k1 ?_
  exact h
theorem e_X12_put {Q X : m_Po} {v0 v1 v2 v3 v4 : Int} {ε : m_E} {μ : m_M} (h : TY ε μ → i32 v1 → i32 v2 → i32 v3 → i32 v4 → kd ε v0 = 11 ∧ o_X12_isRow [(2, v0), (0, v1), (0, v2)] ε μ (fun z ε_1 μ_1 => G cd_X12_put Q X 6 [(0, (2, v0)), (1, (0, v1)), (2, (0, v2)), (3, (0, v3)), (4, (0, v4))] [(0, z)] ε_1 μ_1) m_F) : o_X12_put [(2, v0), (0, v1), (0, v2), (0, v3), (0, v4)] ε μ Q X := And.intro rfl (g_X12_put_0 h)
/-! ArchYardModel.tear(III)I -/
set_option maxRecDepth 20000 in
theorem g_X12_tear_6 {Q X : m_Po} {v0 v1 v2 v3 t : Int} {ε : m_E} {μ : m_M} (h : TY ε μ → i32 v1 → i32 v2 → i32 v3 → i32 t → (t ≠ 0 → ∀ v4 : Int, v4 = w32 ((w32 (40 * v1)) + v2) → (v3 < 0 → Q 0 ε μ) ∧ (0 ≤ v3 → kd ε v0 = 11 ∧ kd ε (fn ε v0 2) = 100 ∧ (0 : Int) ≤ v4 ∧ v4 < ln ε (fn ε v0 2) ∧ (v3 ≤ (μ (fn ε v0 2) v4) → ∀ μ_1 : m_M, μ_1 = st μ (fn ε v0 2) v4 v3 → Q 1 ε μ_1) ∧ ((μ (fn ε v0 2) v4) < v3 → Q 0 ε μ))) ∧ (t = 0 → Q 0 ε μ)) : G cd_X12_tear Q X 6 [(0, (2, v0)), (1, (0, v1)), (2, (0, v2)), (3, (0, v3))] [(0, t)] ε μ := by
  refine G_run (m_in [6]) 8 _ _ _ _ ?_
  show m_ty [(0, (2, v0)), (1, (0, v1)), (2, (0, v2)), (3, (0, v3))] [(0, t)] ε μ → (t ≠ 0 → (m_ty [(0, (2, v0)), (1, (0, v1)), (2, (0, v2)), (3, (0, v3))] [] ε μ → ∀ v4 : Int, v4 = w32 ((w32 (40 * v1)) + v2) → (v3 < 0 → (m_ty [] [] ε μ → Q 0 ε μ)) ∧ (0 ≤ v3 → (m_ty [(0, (2, v0)), (3, (0, v3)), (4, (0, v4))] [] ε μ → (kd ε v0 = 11) ∧ (kd ε (fn ε v0 2) = 100) ∧ ((0 : Int) ≤ v4 ∧ v4 < ln ε (fn ε v0 2)) ∧ (v3 ≤ (μ (fn ε v0 2) v4) → (m_ty [(0, (2, v0)), (3, (0, v3)), (4, (0, v4))] [] ε μ → (kd ε v0 = 11) ∧ (kd ε (fn ε v0 2) = 100) ∧ ((0 : Int) ≤ v4 ∧ v4 < ln ε (fn ε v0 2)) ∧ ∀ μ_1 : m_M, μ_1 = st μ (fn ε v0 2) v4 v3 → Q 1 ε μ_1)) ∧ ((μ (fn ε v0 2) v4) < v3 → (m_ty [] [] ε μ → Q 0 ε μ)))))) ∧ (t = 0 → (m_ty [] [] ε μ → Q 0 ε μ))
  intro hty
  replace h := h hty.1 (hty.2.1 _ (List.mem_of_getElem? (i := 1) rfl)) (hty.2.1 _ (List.mem_of_getElem? (i := 2) rfl)) (hty.2.1 _ (List.mem_of_getElem? (i := 3) rfl)) (hty.2.2 _ (List.mem_of_getElem? (i := 0) rfl))
  obtain ⟨ha, hb⟩ := h
  refine And.intro (fun c6 => ?_) (fun c6 => ?_)
  · replace h := ha c6
    clear ha hb
    intro _
    intro v4 e_v4
    replace h := h v4 e_v4
    obtain ⟨ha, hb⟩ := h
    refine And.intro (fun c5 => ?_) (fun c5 => ?_)
    · replace h := ha c5
      clear ha hb
      intro _
      exact h
    · replace h := hb c5
      clear ha hb
      intro _
      obtain ⟨k1, h⟩ := h
      refine And.intro k1 ?_
      obtain ⟨k2, h⟩ := h
      refine And.intro k2 ?_
      obtain ⟨k3, h⟩ := h
      obtain ⟨k4, h⟩ := h
      refine And.intro (And.intro k3 k4) ?_
      obtain ⟨ha, hb⟩ := h
      refine And.intro (fun c4 => ?_) (fun c4 => ?_)
      · replace h := ha c4
        clear ha hb
        intro _
        refine And.intro k1 ?_
        refine And.intro k2 ?_
        refine And.intro (And.intro k3 k4) ?_
        intro μ_1 e_μ_1
        replace h := h μ_1 e_μ_1
        exact h
      · replace h := hb c4
        clear ha hb
        intro _
        exact h
  · replace h := hb c6
    clear ha hb
    intro _
    exact h
set_option maxRecDepth 20000 in
theorem g_X12_tear_0 {Q X : m_Po} {v0 v1 v2 v3 : Int} {ε : m_E} {μ : m_M} (h : TY ε μ → i32 v1 → i32 v2 → i32 v3 → kd ε v0 = 11 ∧ o_X12_isRow [(2, v0), (0, v1), (0, v2)] ε μ (fun z ε_1 μ_1 => G cd_X12_tear Q X 6 [(0, (2, v0)), (1, (0, v1)), (2, (0, v2)), (3, (0, v3))] [(0, z)] ε_1 μ_1) m_F) : G cd_X12_tear Q X 0 [(0, (2, v0)), (1, (0, v1)), (2, (0, v2)), (3, (0, v3))] [] ε μ := by
  refine G_run (m_in [6]) 8 _ _ _ _ ?_
  show m_ty [(0, (2, v0)), (1, (0, v1)), (2, (0, v2)), (3, (0, v3))] [] ε μ → (kd ε v0 = 11) ∧ o_X12_isRow [(2, v0), (0, v1), (0, v2)] ε μ (fun z ε_1 μ_1 => G cd_X12_tear Q X 6 [(0, (2, v0)), (1, (0, v1)), (2, (0, v2)), (3, (0, v3))] [(0, z)] ε_1 μ_1) m_F
  intro hty
  replace h := h hty.1 (hty.2.1 _ (List.mem_of_getElem? (i := 1) rfl)) (hty.2.1 _ (List.mem_of_getElem? (i := 2) rfl)) (hty.2.1 _ (List.mem_of_getElem? (i := 3) rfl))
  obtain ⟨k1, h⟩ := h
  refine And.intro k1 ?_
  exact h
theorem e_X12_tear {Q X : m_Po} {v0 v1 v2 v3 : Int} {ε : m_E} {μ : m_M} (h : TY ε μ → i32 v1 → i32 v2 → i32 v3 → kd ε v0 = 11 ∧ o_X12_isRow [(2, v0), (0, v1), (0, v2)] ε μ (fun z ε_1 μ_1 => G cd_X12_tear Q X 6 [(0, (2, v0)), (1, (0, v1)), (2, (0, v2)), (3, (0, v3))] [(0, z)] ε_1 μ_1) m_F) : o_X12_tear [(2, v0), (0, v1), (0, v2), (0, v3)] ε μ Q X := And.intro rfl (g_X12_tear_0 h)
/-! ArchYardModel.gcd(JJ)J -/
set_option maxRecDepth 20000 in
theorem g_X12_gcd_46 {Q X : m_Po} {v4 v8 : Int} {ε : m_E} {μ : m_M} (h : TY ε μ → i64 v4 → i64 v8 → ∀ v6 : Int, v6 = v8 → G cd_X12_gcd Q X 28 [(4, (1, v4)), (6, (1, v6))] [] ε μ) : G cd_X12_gcd Q X 46 [(4, (1, v4)), (8, (1, v8))] [] ε μ := by
  refine G_run (m_in [12, 26, 28, 46]) 12 _ _ _ _ ?_
  show m_ty [(4, (1, v4)), (8, (1, v8))] [] ε μ → ∀ v6 : Int, v6 = v8 → G cd_X12_gcd Q X 28 [(4, (1, v4)), (6, (1, v6))] [] ε μ
  intro hty
  replace h := h hty.1 (hty.2.1 _ (List.mem_of_getElem? (i := 0) rfl)) (hty.2.1 _ (List.mem_of_getElem? (i := 1) rfl))
  intro v6 e_v6
  replace h := h v6 e_v6
  exact h
set_option maxRecDepth 20000 in
theorem g_X12_gcd_28 {Q X : m_Po} {v4 v6 : Int} {ε : m_E} {μ : m_M} (h : TY ε μ → i64 v4 → i64 v6 → (v6 = (0 : Int) → Q v4 ε μ) ∧ (v6 ≠ (0 : Int) → v6 ≠ 0 ∧ ∀ v8 : Int, v8 = Int.tmod v4 v6 → ∀ v4_1 : Int, v4_1 = v6 → ∀ v6_1 : Int, v6_1 = v8 → G cd_X12_gcd Q X 28 [(4, (1, v4_1)), (6, (1, v6_1))] [] ε μ)) : G cd_X12_gcd Q X 28 [(4, (1, v4)), (6, (1, v6))] [] ε μ := by
  refine G_run (m_in [12, 26, 28, 46]) 12 _ _ _ _ ?_
  show m_ty [(4, (1, v4)), (6, (1, v6))] [] ε μ → (v6 = (0 : Int) → (m_ty [(4, (1, v4))] [] ε μ → Q v4 ε μ)) ∧ (v6 ≠ (0 : Int) → (m_ty [(4, (1, v4)), (6, (1, v6))] [] ε μ → (v6 ≠ 0) ∧ ∀ v8 : Int, v8 = Int.tmod v4 v6 → ∀ v4_1 : Int, v4_1 = v6 → G cd_X12_gcd Q X 46 [(4, (1, v4_1)), (8, (1, v8))] [] ε μ))
  intro hty
  replace h := h hty.1 (hty.2.1 _ (List.mem_of_getElem? (i := 0) rfl)) (hty.2.1 _ (List.mem_of_getElem? (i := 1) rfl))
  obtain ⟨ha, hb⟩ := h
  refine And.intro (fun c1 => ?_) (fun c1 => ?_)
  · replace h := ha c1
    clear ha hb
    intro _
    exact h
  · replace h := hb c1
    clear ha hb
    intro _
    obtain ⟨k1, h⟩ := h
    refine And.intro k1 ?_
    intro v8 e_v8
    replace h := h v8 e_v8
    intro v4_1 e_v4_1
    replace h := h v4_1 e_v4_1
    exact g_X12_gcd_46 (fun _ _ _ => h)
set_option maxRecDepth 20000 in
theorem g_X12_gcd_26 {Q X : m_Po} {v4 t : Int} {ε : m_E} {μ : m_M} (h : TY ε μ → i64 v4 → i64 t → ∀ v6 : Int, v6 = t → G cd_X12_gcd Q X 28 [(4, (1, v4)), (6, (1, v6))] [] ε μ) : G cd_X12_gcd Q X 26 [(4, (1, v4))] [(1, t)] ε μ := by
  refine G_run (m_in [12, 26, 28, 46]) 12 _ _ _ _ ?_
  show m_ty [(4, (1, v4))] [(1, t)] ε μ → ∀ v6 : Int, v6 = t → G cd_X12_gcd Q X 28 [(4, (1, v4)), (6, (1, v6))] [] ε μ
  intro hty
  replace h := h hty.1 (hty.2.1 _ (List.mem_of_getElem? (i := 0) rfl)) (hty.2.2 _ (List.mem_of_getElem? (i := 0) rfl))
  intro v6 e_v6
  replace h := h v6 e_v6
  exact h
set_option maxRecDepth 20000 in
theorem g_X12_gcd_12 {Q X : m_Po} {v2 t : Int} {ε : m_E} {μ : m_M} (h : TY ε μ → i64 v2 → i64 t → ∀ v4 : Int, v4 = t → ∀ t_1 : Int, t_1 = (if (0 : Int) ≤ v2 then v2 else w64 (-v2)) → ∀ v6 : Int, v6 = t_1 → G cd_X12_gcd Q X 28 [(4, (1, v4)), (6, (1, v6))] [] ε μ) : G cd_X12_gcd Q X 12 [(2, (1, v2))] [(1, t)] ε μ := by
  refine G_run (m_in [12, 26, 28, 46]) 12 _ _ _ _ ?_
  show m_ty [(2, (1, v2))] [(1, t)] ε μ → ∀ v4 : Int, v4 = t → ((0 : Int) ≤ v2 → (m_ty [(2, (1, v2)), (4, (1, v4))] [] ε μ → G cd_X12_gcd Q X 26 [(4, (1, v4))] [(1, v2)] ε μ)) ∧ (v2 < (0 : Int) → (m_ty [(2, (1, v2)), (4, (1, v4))] [] ε μ → G cd_X12_gcd Q X 26 [(4, (1, v4))] [(1, w64 (-v2))] ε μ))
  intro hty
  replace h := h hty.1 (hty.2.1 _ (List.mem_of_getElem? (i := 0) rfl)) (hty.2.2 _ (List.mem_of_getElem? (i := 0) rfl))
  intro v4 e_v4
  replace h := h v4 e_v4
  have hj := h
  refine And.intro (fun c0 => ?_) (fun c0 => ?_)
  · intro _
    exact g_X12_gcd_26 (fun _ _ _ => (hj _ (((if_pos c0).trans rfl)).symm))
  · intro _
    exact g_X12_gcd_26 (fun _ _ _ => (hj _ (((if_neg (Int.not_le.mpr c0)).trans rfl)).symm))
set_option maxRecDepth 20000 in
theorem g_X12_gcd_0 {Q X : m_Po} {v0 v2 : Int} {ε : m_E} {μ : m_M} (h : TY ε μ → i64 v0 → i64 v2 → ∀ t : Int, t = (if (0 : Int) ≤ v0 then v0 else w64 (-v0)) → ∀ v4 : Int, v4 = t → ∀ t_1 : Int, t_1 = (if (0 : Int) ≤ v2 then v2 else w64 (-v2)) → ∀ v6 : Int, v6 = t_1 → G cd_X12_gcd Q X 28 [(4, (1, v4)), (6, (1, v6))] [] ε μ) : G cd_X12_gcd Q X 0 [(0, (1, v0)), (2, (1, v2))] [] ε μ := by
  refine G_run (m_in [12, 26, 28, 46]) 12 _ _ _ _ ?_
  show m_ty [(0, (1, v0)), (2, (1, v2))] [] ε μ → ((0 : Int) ≤ v0 → (m_ty [(0, (1, v0)), (2, (1, v2))] [] ε μ → G cd_X12_gcd Q X 12 [(2, (1, v2))] [(1, v0)] ε μ)) ∧ (v0 < (0 : Int) → (m_ty [(0, (1, v0)), (2, (1, v2))] [] ε μ → G cd_X12_gcd Q X 12 [(2, (1, v2))] [(1, w64 (-v0))] ε μ))
  intro hty
  replace h := h hty.1 (hty.2.1 _ (List.mem_of_getElem? (i := 0) rfl)) (hty.2.1 _ (List.mem_of_getElem? (i := 1) rfl))
  have hj := h
  refine And.intro (fun c0 => ?_) (fun c0 => ?_)
  · intro _
    exact g_X12_gcd_12 (fun _ _ _ => (hj _ (((if_pos c0).trans rfl)).symm))
  · intro _
    exact g_X12_gcd_12 (fun _ _ _ => (hj _ (((if_neg (Int.not_le.mpr c0)).trans rfl)).symm))
theorem e_X12_gcd {Q X : m_Po} {v0 v2 : Int} {ε : m_E} {μ : m_M} (h : TY ε μ → i64 v0 → i64 v2 → ∀ t : Int, t = (if (0 : Int) ≤ v0 then v0 else w64 (-v0)) → ∀ v4 : Int, v4 = t → ∀ t_1 : Int, t_1 = (if (0 : Int) ≤ v2 then v2 else w64 (-v2)) → ∀ v6 : Int, v6 = t_1 → G cd_X12_gcd Q X 28 [(4, (1, v4)), (6, (1, v6))] [] ε μ) : o_X12_gcd [(1, v0), (1, v2)] ε μ Q X := And.intro rfl (g_X12_gcd_0 h)
/-! ArchYardModel.turn(IIIIII)I -/
set_option maxRecDepth 20000 in
theorem g_X12_turn_0 {Q X : m_Po} {v0 v1 v2 v3 v4 v5 : Int} {ε : m_E} {μ : m_M} (h : TY ε μ → i32 v0 → i32 v1 → i32 v2 → i32 v3 → i32 v4 → i32 v5 → Q (w32 ((w32 ((w32 (v2 - v0)) * (w32 (v5 - v1)))) - (w32 ((w32 (v3 - v1)) * (w32 (v4 - v0)))))) ε μ) : G cd_X12_turn Q X 0 [(0, (0, v0)), (1, (0, v1)), (2, (0, v2)), (3, (0, v3)), (4, (0, v4)), (5, (0, v5))] [] ε μ := by
  refine G_run (m_in []) 2 _ _ _ _ ?_
  show m_ty [(0, (0, v0)), (1, (0, v1)), (2, (0, v2)), (3, (0, v3)), (4, (0, v4)), (5, (0, v5))] [] ε μ → Q (w32 ((w32 ((w32 (v2 - v0)) * (w32 (v5 - v1)))) - (w32 ((w32 (v3 - v1)) * (w32 (v4 - v0)))))) ε μ
  intro hty
  replace h := h hty.1 (hty.2.1 _ (List.mem_of_getElem? (i := 0) rfl)) (hty.2.1 _ (List.mem_of_getElem? (i := 1) rfl)) (hty.2.1 _ (List.mem_of_getElem? (i := 2) rfl)) (hty.2.1 _ (List.mem_of_getElem? (i := 3) rfl)) (hty.2.1 _ (List.mem_of_getElem? (i := 4) rfl)) (hty.2.1 _ (List.mem_of_getElem? (i := 5) rfl))
  exact h
theorem e_X12_turn {Q X : m_Po} {v0 v1 v2 v3 v4 v5 : Int} {ε : m_E} {μ : m_M} (h : TY ε μ → i32 v0 → i32 v1 → i32 v2 → i32 v3 → i32 v4 → i32 v5 → Q (w32 ((w32 ((w32 (v2 - v0)) * (w32 (v5 - v1)))) - (w32 ((w32 (v3 - v1)) * (w32 (v4 - v0)))))) ε μ) : o_X12_turn [(0, v0), (0, v1), (0, v2), (0, v3), (0, v4), (0, v5)] ε μ Q X := And.intro rfl (g_X12_turn_0 h)
/-! ArchYardModel.signOf(I)I -/
set_option maxRecDepth 20000 in
theorem g_X12_signOf_17 {Q X : m_Po} {t : Int} {ε : m_E} {μ : m_M} (h : TY ε μ → i32 t → Q t ε μ) : G cd_X12_signOf Q X 17 [] [(0, t)] ε μ := by
  refine G_run (m_in [17]) 7 _ _ _ _ ?_
  show m_ty [] [(0, t)] ε μ → Q t ε μ
  intro hty
  replace h := h hty.1 (hty.2.2 _ (List.mem_of_getElem? (i := 0) rfl))
  exact h
set_option maxRecDepth 20000 in
theorem g_X12_signOf_0 {Q X : m_Po} {v0 : Int} {ε : m_E} {μ : m_M} (h : TY ε μ → i32 v0 → ∀ t : Int, t = (if 0 ≤ v0 then if v0 ≤ 0 then 0 else 1 else (-1)) → Q t ε μ) : G cd_X12_signOf Q X 0 [(0, (0, v0))] [] ε μ := by
  refine G_run (m_in [17]) 7 _ _ _ _ ?_
  show m_ty [(0, (0, v0))] [] ε μ → (0 ≤ v0 → (m_ty [(0, (0, v0))] [] ε μ → (v0 ≤ 0 → (m_ty [] [] ε μ → G cd_X12_signOf Q X 17 [] [(0, 0)] ε μ)) ∧ (0 < v0 → (m_ty [] [] ε μ → G cd_X12_signOf Q X 17 [] [(0, 1)] ε μ)))) ∧ (v0 < 0 → (m_ty [] [] ε μ → G cd_X12_signOf Q X 17 [] [(0, (-1))] ε μ))
  intro hty
  replace h := h hty.1 (hty.2.1 _ (List.mem_of_getElem? (i := 0) rfl))
  have hj := h
  refine And.intro (fun c0 => ?_) (fun c0 => ?_)
  · intro _
    refine And.intro (fun c1 => ?_) (fun c1 => ?_)
    · intro _
      exact g_X12_signOf_17 (fun _ _ => (hj _ (((if_pos c0).trans ((if_pos c1).trans rfl))).symm))
    · intro _
      exact g_X12_signOf_17 (fun _ _ => (hj _ (((if_pos c0).trans ((if_neg (Int.not_le.mpr c1)).trans rfl))).symm))
  · intro _
    exact g_X12_signOf_17 (fun _ _ => (hj _ (((if_neg (Int.not_le.mpr c0)).trans rfl)).symm))
theorem e_X12_signOf {Q X : m_Po} {v0 : Int} {ε : m_E} {μ : m_M} (h : TY ε μ → i32 v0 → ∀ t : Int, t = (if 0 ≤ v0 then if v0 ≤ 0 then 0 else 1 else (-1)) → Q t ε μ) : o_X12_signOf [(0, v0)] ε μ Q X := And.intro rfl (g_X12_signOf_0 h)
/-! ArchYardModel.isBetween(IIIIII)Z -/
set_option maxRecDepth 20000 in
theorem g_X12_isBetween_64 {Q X : m_Po} {ε : m_E} {μ : m_M} (h : TY ε μ → Q 0 ε μ) : G cd_X12_isBetween Q X 64 [] [] ε μ := by
  refine G_run (m_in [12, 27, 42, 57, 64]) 20 _ _ _ _ ?_
  show m_ty [] [] ε μ → (m_ty [] [(0, 0)] ε μ → (0 = 0 ∨ 0 = 1) ∧ Q 0 ε μ)
  intro hty
  replace h := h hty.1 
  intro _
  refine And.intro (Or.inl rfl) ?_
  exact h
set_option maxRecDepth 20000 in
theorem g_X12_isBetween_57 {Q X : m_Po} {t t_1 : Int} {ε : m_E} {μ : m_M} (h : TY ε μ → i32 t → i32 t_1 → (t_1 < t → G cd_X12_isBetween Q X 64 [] [] ε μ) ∧ (t ≤ t_1 → Q 1 ε μ)) : G cd_X12_isBetween Q X 57 [] [(0, t_1), (0, t)] ε μ := by
  refine G_run (m_in [12, 27, 42, 57, 64]) 20 _ _ _ _ ?_
  show m_ty [] [(0, t_1), (0, t)] ε μ → (t_1 < t → G cd_X12_isBetween Q X 64 [] [] ε μ) ∧ (t ≤ t_1 → (m_ty [] [] ε μ → (m_ty [] [(0, 1)] ε μ → (1 = 0 ∨ 1 = 1) ∧ Q 1 ε μ)))
  intro hty
  replace h := h hty.1 (hty.2.2 _ (List.mem_of_getElem? (i := 1) rfl)) (hty.2.2 _ (List.mem_of_getElem? (i := 0) rfl))
  obtain ⟨ha, hb⟩ := h
  refine And.intro (fun c0 => ?_) (fun c0 => ?_)
  · replace h := ha c0
    clear ha hb
    exact h
  · replace h := hb c0
    clear ha hb
    intro _
    intro _
    refine And.intro (Or.inr rfl) ?_
    exact h
set_option maxRecDepth 20000 in
theorem g_X12_isBetween_42 {Q X : m_Po} {v1 v3 v5 t t_1 : Int} {ε : m_E} {μ : m_M} (h : TY ε μ → i32 v1 → i32 v3 → i32 v5 → i32 t → i32 t_1 → (t < t_1 → G cd_X12_isBetween Q X 64 [] [] ε μ) ∧ (t_1 ≤ t → ∀ t_2 : Int, t_2 = (if v1 ≤ v3 then v3 else v1) → (t_2 < v5 → G cd_X12_isBetween Q X 64 [] [] ε μ) ∧ (v5 ≤ t_2 → Q 1 ε μ))) : G cd_X12_isBetween Q X 42 [(1, (0, v1)), (3, (0, v3)), (5, (0, v5))] [(0, t_1), (0, t)] ε μ := by
  refine G_run (m_in [12, 27, 42, 57, 64]) 20 _ _ _ _ ?_
  show m_ty [(1, (0, v1)), (3, (0, v3)), (5, (0, v5))] [(0, t_1), (0, t)] ε μ → (t < t_1 → G cd_X12_isBetween Q X 64 [] [] ε μ) ∧ (t_1 ≤ t → (m_ty [(1, (0, v1)), (3, (0, v3)), (5, (0, v5))] [] ε μ → (v1 ≤ v3 → (m_ty [(3, (0, v3))] [(0, v5)] ε μ → G cd_X12_isBetween Q X 57 [] [(0, v3), (0, v5)] ε μ)) ∧ (v3 < v1 → (m_ty [(1, (0, v1))] [(0, v5)] ε μ → G cd_X12_isBetween Q X 57 [] [(0, v1), (0, v5)] ε μ))))
  intro hty
  replace h := h hty.1 (hty.2.1 _ (List.mem_of_getElem? (i := 0) rfl)) (hty.2.1 _ (List.mem_of_getElem? (i := 1) rfl)) (hty.2.1 _ (List.mem_of_getElem? (i := 2) rfl)) (hty.2.2 _ (List.mem_of_getElem? (i := 1) rfl)) (hty.2.2 _ (List.mem_of_getElem? (i := 0) rfl))
  obtain ⟨ha, hb⟩ := h
  refine And.intro (fun c2 => ?_) (fun c2 => ?_)
  · replace h := ha c2
    clear ha hb
    exact h
  · replace h := hb c2
    clear ha hb
    intro _
    have hj := h
    refine And.intro (fun c0 => ?_) (fun c0 => ?_)
    · intro _
      exact g_X12_isBetween_57 (fun _ _ _ => (hj _ (((if_pos c0).trans rfl)).symm))
    · intro _
      exact g_X12_isBetween_57 (fun _ _ _ => (hj _ (((if_neg (Int.not_le.mpr c0)).trans rfl)).symm))
set_option maxRecDepth 20000 in
theorem g_X12_isBetween_27 {Q X : m_Po} {v1 v3 v5 t t_1 : Int} {ε : m_E} {μ : m_M} (h : TY ε μ → i32 v1 → i32 v3 → i32 v5 → i32 t → i32 t_1 → (t_1 < t → G cd_X12_isBetween Q X 64 [] [] ε μ) ∧ (t ≤ t_1 → ∀ t_2 : Int, t_2 = (if v3 ≤ v1 then v3 else v1) → (v5 < t_2 → G cd_X12_isBetween Q X 64 [] [] ε μ) ∧ (t_2 ≤ v5 → ∀ t_3 : Int, t_3 = (if v1 ≤ v3 then v3 else v1) → (t_3 < v5 → G cd_X12_isBetween Q X 64 [] [] ε μ) ∧ (v5 ≤ t_3 → Q 1 ε μ)))) : G cd_X12_isBetween Q X 27 [(1, (0, v1)), (3, (0, v3)), (5, (0, v5))] [(0, t_1), (0, t)] ε μ := by
  refine G_run (m_in [12, 27, 42, 57, 64]) 20 _ _ _ _ ?_
  show m_ty [(1, (0, v1)), (3, (0, v3)), (5, (0, v5))] [(0, t_1), (0, t)] ε μ → (t_1 < t → G cd_X12_isBetween Q X 64 [] [] ε μ) ∧ (t ≤ t_1 → (m_ty [(1, (0, v1)), (3, (0, v3)), (5, (0, v5))] [] ε μ → (v3 ≤ v1 → (m_ty [(1, (0, v1)), (3, (0, v3)), (5, (0, v5))] [(0, v5)] ε μ → G cd_X12_isBetween Q X 42 [(1, (0, v1)), (3, (0, v3)), (5, (0, v5))] [(0, v3), (0, v5)] ε μ)) ∧ (v1 < v3 → (m_ty [(1, (0, v1)), (3, (0, v3)), (5, (0, v5))] [(0, v5)] ε μ → G cd_X12_isBetween Q X 42 [(1, (0, v1)), (3, (0, v3)), (5, (0, v5))] [(0, v1), (0, v5)] ε μ))))
  intro hty
  replace h := h hty.1 (hty.2.1 _ (List.mem_of_getElem? (i := 0) rfl)) (hty.2.1 _ (List.mem_of_getElem? (i := 1) rfl)) (hty.2.1 _ (List.mem_of_getElem? (i := 2) rfl)) (hty.2.2 _ (List.mem_of_getElem? (i := 1) rfl)) (hty.2.2 _ (List.mem_of_getElem? (i := 0) rfl))
  obtain ⟨ha, hb⟩ := h
  refine And.intro (fun c4 => ?_) (fun c4 => ?_)
  · replace h := ha c4
    clear ha hb
    exact h
  · replace h := hb c4
    clear ha hb
    intro _
    have hj := h
    refine And.intro (fun c0 => ?_) (fun c0 => ?_)
    · intro _
      exact g_X12_isBetween_42 (fun _ _ _ _ _ _ => (hj _ (((if_pos c0).trans rfl)).symm))
    · intro _
      exact g_X12_isBetween_42 (fun _ _ _ _ _ _ => (hj _ (((if_neg (Int.not_le.mpr c0)).trans rfl)).symm))
set_option maxRecDepth 20000 in
theorem g_X12_isBetween_12 {Q X : m_Po} {v0 v1 v2 v3 v4 v5 t t_1 : Int} {ε : m_E} {μ : m_M} (h : TY ε μ → i32 v0 → i32 v1 → i32 v2 → i32 v3 → i32 v4 → i32 v5 → i32 t → i32 t_1 → (t < t_1 → G cd_X12_isBetween Q X 64 [] [] ε μ) ∧ (t_1 ≤ t → ∀ t_2 : Int, t_2 = (if v0 ≤ v2 then v2 else v0) → (t_2 < v4 → G cd_X12_isBetween Q X 64 [] [] ε μ) ∧ (v4 ≤ t_2 → ∀ t_3 : Int, t_3 = (if v3 ≤ v1 then v3 else v1) → (v5 < t_3 → G cd_X12_isBetween Q X 64 [] [] ε μ) ∧ (t_3 ≤ v5 → ∀ t_4 : Int, t_4 = (if v1 ≤ v3 then v3 else v1) → (t_4 < v5 → G cd_X12_isBetween Q X 64 [] [] ε μ) ∧ (v5 ≤ t_4 → Q 1 ε μ))))) : G cd_X12_isBetween Q X 12 [(0, (0, v0)), (1, (0, v1)), (2, (0, v2)), (3, (0, v3)), (4, (0, v4)), (5, (0, v5))] [(0, t_1), (0, t)] ε μ := by
  refine G_run (m_in [12, 27, 42, 57, 64]) 20 _ _ _ _ ?_
  show m_ty [(0, (0, v0)), (1, (0, v1)), (2, (0, v2)), (3, (0, v3)), (4, (0, v4)), (5, (0, v5))] [(0, t_1), (0, t)] ε μ → (t < t_1 → G cd_X12_isBetween Q X 64 [] [] ε μ) ∧ (t_1 ≤ t → (m_ty [(0, (0, v0)), (1, (0, v1)), (2, (0, v2)), (3, (0, v3)), (4, (0, v4)), (5, (0, v5))] [] ε μ → (v0 ≤ v2 → (m_ty [(1, (0, v1)), (2, (0, v2)), (3, (0, v3)), (5, (0, v5))] [(0, v4)] ε μ → G cd_X12_isBetween Q X 27 [(1, (0, v1)), (3, (0, v3)), (5, (0, v5))] [(0, v2), (0, v4)] ε μ)) ∧ (v2 < v0 → (m_ty [(0, (0, v0)), (1, (0, v1)), (3, (0, v3)), (5, (0, v5))] [(0, v4)] ε μ → G cd_X12_isBetween Q X 27 [(1, (0, v1)), (3, (0, v3)), (5, (0, v5))] [(0, v0), (0, v4)] ε μ))))
  intro hty
  replace h := h hty.1 (hty.2.1 _ (List.mem_of_getElem? (i := 0) rfl)) (hty.2.1 _ (List.mem_of_getElem? (i := 1) rfl)) (hty.2.1 _ (List.mem_of_getElem? (i := 2) rfl)) (hty.2.1 _ (List.mem_of_getElem? (i := 3) rfl)) (hty.2.1 _ (List.mem_of_getElem? (i := 4) rfl)) (hty.2.1 _ (List.mem_of_getElem? (i := 5) rfl)) (hty.2.2 _ (List.mem_of_getElem? (i := 1) rfl)) (hty.2.2 _ (List.mem_of_getElem? (i := 0) rfl))
  obtain ⟨ha, hb⟩ := h
  refine And.intro (fun c6 => ?_) (fun c6 => ?_)
  · replace h := ha c6
    clear ha hb
    exact h
  · replace h := hb c6
    clear ha hb
    intro _
    have hj := h
    refine And.intro (fun c0 => ?_) (fun c0 => ?_)
    · intro _
      exact g_X12_isBetween_27 (fun _ _ _ _ _ _ => (hj _ (((if_pos c0).trans rfl)).symm))
    · intro _
      exact g_X12_isBetween_27 (fun _ _ _ _ _ _ => (hj _ (((if_neg (Int.not_le.mpr c0)).trans rfl)).symm))
set_option maxRecDepth 20000 in
theorem g_X12_isBetween_0 {Q X : m_Po} {v0 v1 v2 v3 v4 v5 : Int} {ε : m_E} {μ : m_M} (h : TY ε μ → i32 v0 → i32 v1 → i32 v2 → i32 v3 → i32 v4 → i32 v5 → ∀ t : Int, t = (if v2 ≤ v0 then v2 else v0) → (v4 < t → G cd_X12_isBetween Q X 64 [] [] ε μ) ∧ (t ≤ v4 → ∀ t_1 : Int, t_1 = (if v0 ≤ v2 then v2 else v0) → (t_1 < v4 → G cd_X12_isBetween Q X 64 [] [] ε μ) ∧ (v4 ≤ t_1 → ∀ t_2 : Int, t_2 = (if v3 ≤ v1 then v3 else v1) → (v5 < t_2 → G cd_X12_isBetween Q X 64 [] [] ε μ) ∧ (t_2 ≤ v5 → ∀ t_3 : Int, t_3 = (if v1 ≤ v3 then v3 else v1) → (t_3 < v5 → G cd_X12_isBetween Q X 64 [] [] ε μ) ∧ (v5 ≤ t_3 → Q 1 ε μ))))) : G cd_X12_isBetween Q X 0 [(0, (0, v0)), (1, (0, v1)), (2, (0, v2)), (3, (0, v3)), (4, (0, v4)), (5, (0, v5))] [] ε μ := by
  refine G_run (m_in [12, 27, 42, 57, 64]) 20 _ _ _ _ ?_
  show m_ty [(0, (0, v0)), (1, (0, v1)), (2, (0, v2)), (3, (0, v3)), (4, (0, v4)), (5, (0, v5))] [] ε μ → (v2 ≤ v0 → (m_ty [(0, (0, v0)), (1, (0, v1)), (2, (0, v2)), (3, (0, v3)), (4, (0, v4)), (5, (0, v5))] [(0, v4)] ε μ → G cd_X12_isBetween Q X 12 [(0, (0, v0)), (1, (0, v1)), (2, (0, v2)), (3, (0, v3)), (4, (0, v4)), (5, (0, v5))] [(0, v2), (0, v4)] ε μ)) ∧ (v0 < v2 → (m_ty [(0, (0, v0)), (1, (0, v1)), (2, (0, v2)), (3, (0, v3)), (4, (0, v4)), (5, (0, v5))] [(0, v4)] ε μ → G cd_X12_isBetween Q X 12 [(0, (0, v0)), (1, (0, v1)), (2, (0, v2)), (3, (0, v3)), (4, (0, v4)), (5, (0, v5))] [(0, v0), (0, v4)] ε μ))
  intro hty
  replace h := h hty.1 (hty.2.1 _ (List.mem_of_getElem? (i := 0) rfl)) (hty.2.1 _ (List.mem_of_getElem? (i := 1) rfl)) (hty.2.1 _ (List.mem_of_getElem? (i := 2) rfl)) (hty.2.1 _ (List.mem_of_getElem? (i := 3) rfl)) (hty.2.1 _ (List.mem_of_getElem? (i := 4) rfl)) (hty.2.1 _ (List.mem_of_getElem? (i := 5) rfl))
  have hj := h
  refine And.intro (fun c0 => ?_) (fun c0 => ?_)
  · intro _
    exact g_X12_isBetween_12 (fun _ _ _ _ _ _ _ _ _ => (hj _ (((if_pos c0).trans rfl)).symm))
  · intro _
    exact g_X12_isBetween_12 (fun _ _ _ _ _ _ _ _ _ => (hj _ (((if_neg (Int.not_le.mpr c0)).trans rfl)).symm))
theorem e_X12_isBetween {Q X : m_Po} {v0 v1 v2 v3 v4 v5 : Int} {ε : m_E} {μ : m_M} (h : TY ε μ → i32 v0 → i32 v1 → i32 v2 → i32 v3 → i32 v4 → i32 v5 → ∀ t : Int, t = (if v2 ≤ v0 then v2 else v0) → (v4 < t → G cd_X12_isBetween Q X 64 [] [] ε μ) ∧ (t ≤ v4 → ∀ t_1 : Int, t_1 = (if v0 ≤ v2 then v2 else v0) → (t_1 < v4 → G cd_X12_isBetween Q X 64 [] [] ε μ) ∧ (v4 ≤ t_1 → ∀ t_2 : Int, t_2 = (if v3 ≤ v1 then v3 else v1) → (v5 < t_2 → G cd_X12_isBetween Q X 64 [] [] ε μ) ∧ (t_2 ≤ v5 → ∀ t_3 : Int, t_3 = (if v1 ≤ v3 then v3 else v1) → (t_3 < v5 → G cd_X12_isBetween Q X 64 [] [] ε μ) ∧ (v5 ≤ t_3 → Q 1 ε μ))))) : o_X12_isBetween [(0, v0), (0, v1), (0, v2), (0, v3), (0, v4), (0, v5)] ε μ Q X := And.intro rfl (g_X12_isBetween_0 h)
/-! ArchYardModel.meet(III)Z -/
set_option maxRecDepth 20000 in
theorem g_X12_meet_490 {Q X : m_Po} {ε : m_E} {μ : m_M} (h : TY ε μ → Q 0 ε μ) : G cd_X12_meet Q X 490 [] [] ε μ := by
  refine G_run (m_in [16, 37, 86, 95, 98, 145, 148, 195, 198, 245, 248, 268, 318, 323, 373, 378, 428, 433, 483, 490]) 33 _ _ _ _ ?_
  show m_ty [] [] ε μ → (m_ty [] [(0, 0)] ε μ → (0 = 0 ∨ 0 = 1) ∧ Q 0 ε μ)
  intro hty
  replace h := h hty.1 
  intro _
  refine And.intro (Or.inl rfl) ?_
  exact h
set_option maxRecDepth 20000 in
theorem g_X12_meet_483 {Q X : m_Po} {t : Int} {ε : m_E} {μ : m_M} (h : TY ε μ → i32 t → (t = 0 → G cd_X12_meet Q X 490 [] [] ε μ) ∧ (t ≠ 0 → Q 1 ε μ)) : G cd_X12_meet Q X 483 [] [(0, t)] ε μ := by
  refine G_run (m_in [16, 37, 86, 95, 98, 145, 148, 195, 198, 245, 248, 268, 318, 323, 373, 378, 428, 433, 483, 490]) 33 _ _ _ _ ?_
  show m_ty [] [(0, t)] ε μ → (t = 0 → G cd_X12_meet Q X 490 [] [] ε μ) ∧ (t ≠ 0 → (m_ty [] [] ε μ → (m_ty [] [(0, 1)] ε μ → (1 = 0 ∨ 1 = 1) ∧ Q 1 ε μ)))
  intro hty
  replace h := h hty.1 (hty.2.2 _ (List.mem_of_getElem? (i := 0) rfl))
  obtain ⟨ha, hb⟩ := h
  refine And.intro (fun c0 => ?_) (fun c0 => ?_)
  · replace h := ha c0
    clear ha hb
    exact h
  · replace h := hb c0
    clear ha hb
    intro _
    intro _
    refine And.intro (Or.inr rfl) ?_
    exact h
set_option maxRecDepth 20000 in
theorem g_X12_meet_433 {Q X : m_Po} {v0 v6 v7 v8 v12 : Int} {ε : m_E} {μ : m_M} (h : TY ε μ → i32 v6 → i32 v7 → i32 v8 → i32 v12 → (v12 ≠ 0 → G cd_X12_meet Q X 490 [] [] ε μ) ∧ (v12 = 0 → kd ε v0 = 11 ∧ kd ε (fn ε v0 7) = 100 ∧ (0 : Int) ≤ v7 ∧ v7 < ln ε (fn ε v0 7) ∧ kd ε (fn ε v0 8) = 100 ∧ v7 < ln ε (fn ε v0 8) ∧ (0 : Int) ≤ v8 ∧ v8 < ln ε (fn ε v0 7) ∧ v8 < ln ε (fn ε v0 8) ∧ (0 : Int) ≤ v6 ∧ v6 < ln ε (fn ε v0 7) ∧ v6 < ln ε (fn ε v0 8) ∧ o_X12_isBetween [(0, μ (fn ε v0 7) v7), (0, μ (fn ε v0 8) v7), (0, μ (fn ε v0 7) v8), (0, μ (fn ε v0 8) v8), (0, μ (fn ε v0 7) v6), (0, μ (fn ε v0 8) v6)] ε μ (fun z ε_1 μ_1 => G cd_X12_meet Q X 483 [] [(0, z)] ε_1 μ_1) m_F)) : G cd_X12_meet Q X 433 [(0, (2, v0)), (6, (0, v6)), (7, (0, v7)), (8, (0, v8)), (12, (0, v12))] [] ε μ := by
  refine G_run (m_in [16, 37, 86, 95, 98, 145, 148, 195, 198, 245, 248, 268, 318, 323, 373, 378, 428, 433, 483, 490]) 33 _ _ _ _ ?_
  show m_ty [(0, (2, v0)), (6, (0, v6)), (7, (0, v7)), (8, (0, v8)), (12, (0, v12))] [] ε μ → (v12 ≠ 0 → G cd_X12_meet Q X 490 [] [] ε μ) ∧ (v12 = 0 → (m_ty [(0, (2, v0)), (6, (0, v6)), (7, (0, v7)), (8, (0, v8))] [] ε μ → (kd ε v0 = 11) ∧ (kd ε (fn ε v0 7) = 100) ∧ ((0 : Int) ≤ v7 ∧ v7 < ln ε (fn ε v0 7)) ∧ (kd ε v0 = 11) ∧ (kd ε (fn ε v0 8) = 100) ∧ ((0 : Int) ≤ v7 ∧ v7 < ln ε (fn ε v0 8)) ∧ (kd ε v0 = 11) ∧ (kd ε (fn ε v0 7) = 100) ∧ ((0 : Int) ≤ v8 ∧ v8 < ln ε (fn ε v0 7)) ∧ (kd ε v0 = 11) ∧ (kd ε (fn ε v0 8) = 100) ∧ ((0 : Int) ≤ v8 ∧ v8 < ln ε (fn ε v0 8)) ∧ (kd ε v0 = 11) ∧ (kd ε (fn ε v0 7) = 100) ∧ ((0 : Int) ≤ v6 ∧ v6 < ln ε (fn ε v0 7)) ∧ (kd ε v0 = 11) ∧ (kd ε (fn ε v0 8) = 100) ∧ ((0 : Int) ≤ v6 ∧ v6 < ln ε (fn ε v0 8)) ∧ o_X12_isBetween [(0, μ (fn ε v0 7) v7), (0, μ (fn ε v0 8) v7), (0, μ (fn ε v0 7) v8), (0, μ (fn ε v0 8) v8), (0, μ (fn ε v0 7) v6), (0, μ (fn ε v0 8) v6)] ε μ (fun z ε_1 μ_1 => G cd_X12_meet Q X 483 [] [(0, z)] ε_1 μ_1) m_F))
  intro hty
  replace h := h hty.1 (hty.2.1 _ (List.mem_of_getElem? (i := 1) rfl)) (hty.2.1 _ (List.mem_of_getElem? (i := 2) rfl)) (hty.2.1 _ (List.mem_of_getElem? (i := 3) rfl)) (hty.2.1 _ (List.mem_of_getElem? (i := 4) rfl))
  obtain ⟨ha, hb⟩ := h
  refine And.intro (fun c12 => ?_) (fun c12 => ?_)
  · replace h := ha c12
    clear ha hb
    exact h
  · replace h := hb c12
    clear ha hb
    intro _
    obtain ⟨k1, h⟩ := h
    refine And.intro k1 ?_
    obtain ⟨k2, h⟩ := h
    refine And.intro k2 ?_
    obtain ⟨k3, h⟩ := h
    obtain ⟨k4, h⟩ := h
    refine And.intro (And.intro k3 k4) ?_
    refine And.intro k1 ?_
    obtain ⟨k5, h⟩ := h
    refine And.intro k5 ?_
    obtain ⟨k6, h⟩ := h
    refine And.intro (And.intro k3 k6) ?_
    refine And.intro k1 ?_
    refine And.intro k2 ?_
    obtain ⟨k7, h⟩ := h
    obtain ⟨k8, h⟩ := h
    refine And.intro (And.intro k7 k8) ?_
    refine And.intro k1 ?_
    refine And.intro k5 ?_
    obtain ⟨k9, h⟩ := h
    refine And.intro (And.intro k7 k9) ?_
    refine And.intro k1 ?_
    refine And.intro k2 ?_
    obtain ⟨k10, h⟩ := h
    obtain ⟨k11, h⟩ := h
    refine And.intro (And.intro k10 k11) ?_
    refine And.intro k1 ?_
    refine And.intro k5 ?_
    obtain ⟨k12, h⟩ := h
    refine And.intro (And.intro k10 k12) ?_
    exact h
set_option maxRecDepth 20000 in
theorem g_X12_meet_428 {Q X : m_Po} {v0 v6 v7 v8 v12 t : Int} {ε : m_E} {μ : m_M} (h : TY ε μ → i32 v6 → i32 v7 → i32 v8 → i32 v12 → i32 t → (t = 0 → G cd_X12_meet Q X 433 [(0, (2, v0)), (6, (0, v6)), (7, (0, v7)), (8, (0, v8)), (12, (0, v12))] [] ε μ) ∧ (t ≠ 0 → Q 1 ε μ)) : G cd_X12_meet Q X 428 [(0, (2, v0)), (6, (0, v6)), (7, (0, v7)), (8, (0, v8)), (12, (0, v12))] [(0, t)] ε μ := by
  refine G_run (m_in [16, 37, 86, 95, 98, 145, 148, 195, 198, 245, 248, 268, 318, 323, 373, 378, 428, 433, 483, 490]) 33 _ _ _ _ ?_
  show m_ty [(0, (2, v0)), (6, (0, v6)), (7, (0, v7)), (8, (0, v8)), (12, (0, v12))] [(0, t)] ε μ → (t = 0 → G cd_X12_meet Q X 433 [(0, (2, v0)), (6, (0, v6)), (7, (0, v7)), (8, (0, v8)), (12, (0, v12))] [] ε μ) ∧ (t ≠ 0 → (m_ty [] [] ε μ → (1 = 0 ∨ 1 = 1) ∧ Q 1 ε μ))
  intro hty
  replace h := h hty.1 (hty.2.1 _ (List.mem_of_getElem? (i := 1) rfl)) (hty.2.1 _ (List.mem_of_getElem? (i := 2) rfl)) (hty.2.1 _ (List.mem_of_getElem? (i := 3) rfl)) (hty.2.1 _ (List.mem_of_getElem? (i := 4) rfl)) (hty.2.2 _ (List.mem_of_getElem? (i := 0) rfl))
  obtain ⟨ha, hb⟩ := h
  refine And.intro (fun c0 => ?_) (fun c0 => ?_)
  · replace h := ha c0
    clear ha hb
    exact h
  · replace h := hb c0
    clear ha hb
    intro _
    refine And.intro (Or.inr rfl) ?_
    exact h
set_option maxRecDepth 20000 in
theorem g_X12_meet_378 {Q X : m_Po} {v0 v5 v6 v7 v8 v11 v12 : Int} {ε : m_E} {μ : m_M} (h : TY ε μ → i32 v5 → i32 v6 → i32 v7 → i32 v8 → i32 v11 → i32 v12 → (v11 ≠ 0 → G cd_X12_meet Q X 433 [(0, (2, v0)), (6, (0, v6)), (7, (0, v7)), (8, (0, v8)), (12, (0, v12))] [] ε μ) ∧ (v11 = 0 → kd ε v0 = 11 ∧ kd ε (fn ε v0 7) = 100 ∧ (0 : Int) ≤ v7 ∧ v7 < ln ε (fn ε v0 7) ∧ kd ε (fn ε v0 8) = 100 ∧ v7 < ln ε (fn ε v0 8) ∧ (0 : Int) ≤ v8 ∧ v8 < ln ε (fn ε v0 7) ∧ v8 < ln ε (fn ε v0 8) ∧ (0 : Int) ≤ v5 ∧ v5 < ln ε (fn ε v0 7) ∧ v5 < ln ε (fn ε v0 8) ∧ o_X12_isBetween [(0, μ (fn ε v0 7) v7), (0, μ (fn ε v0 8) v7), (0, μ (fn ε v0 7) v8), (0, μ (fn ε v0 8) v8), (0, μ (fn ε v0 7) v5), (0, μ (fn ε v0 8) v5)] ε μ (fun z ε_1 μ_1 => G cd_X12_meet Q X 428 [(0, (2, v0)), (6, (0, v6)), (7, (0, v7)), (8, (0, v8)), (12, (0, v12))] [(0, z)] ε_1 μ_1) m_F)) : G cd_X12_meet Q X 378 [(0, (2, v0)), (5, (0, v5)), (6, (0, v6)), (7, (0, v7)), (8, (0, v8)), (11, (0, v11)), (12, (0, v12))] [] ε μ := by
  refine G_run (m_in [16, 37, 86, 95, 98, 145, 148, 195, 198, 245, 248, 268, 318, 323, 373, 378, 428, 433, 483, 490]) 33 _ _ _ _ ?_
  show m_ty [(0, (2, v0)), (5, (0, v5)), (6, (0, v6)), (7, (0, v7)), (8, (0, v8)), (11, (0, v11)), (12, (0, v12))] [] ε μ → (v11 ≠ 0 → G cd_X12_meet Q X 433 [(0, (2, v0)), (6, (0, v6)), (7, (0, v7)), (8, (0, v8)), (12, (0, v12))] [] ε μ) ∧ (v11 = 0 → (m_ty [(0, (2, v0)), (5, (0, v5)), (6, (0, v6)), (7, (0, v7)), (8, (0, v8)), (12, (0, v12))] [] ε μ → (kd ε v0 = 11) ∧ (kd ε (fn ε v0 7) = 100) ∧ ((0 : Int) ≤ v7 ∧ v7 < ln ε (fn ε v0 7)) ∧ (kd ε v0 = 11) ∧ (kd ε (fn ε v0 8) = 100) ∧ ((0 : Int) ≤ v7 ∧ v7 < ln ε (fn ε v0 8)) ∧ (kd ε v0 = 11) ∧ (kd ε (fn ε v0 7) = 100) ∧ ((0 : Int) ≤ v8 ∧ v8 < ln ε (fn ε v0 7)) ∧ (kd ε v0 = 11) ∧ (kd ε (fn ε v0 8) = 100) ∧ ((0 : Int) ≤ v8 ∧ v8 < ln ε (fn ε v0 8)) ∧ (kd ε v0 = 11) ∧ (kd ε (fn ε v0 7) = 100) ∧ ((0 : Int) ≤ v5 ∧ v5 < ln ε (fn ε v0 7)) ∧ (kd ε v0 = 11) ∧ (kd ε (fn ε v0 8) = 100) ∧ ((0 : Int) ≤ v5 ∧ v5 < ln ε (fn ε v0 8)) ∧ o_X12_isBetween [(0, μ (fn ε v0 7) v7), (0, μ (fn ε v0 8) v7), (0, μ (fn ε v0 7) v8), (0, μ (fn ε v0 8) v8), (0, μ (fn ε v0 7) v5), (0, μ (fn ε v0 8) v5)] ε μ (fun z ε_1 μ_1 => G cd_X12_meet Q X 428 [(0, (2, v0)), (6, (0, v6)), (7, (0, v7)), (8, (0, v8)), (12, (0, v12))] [(0, z)] ε_1 μ_1) m_F))
  intro hty
  replace h := h hty.1 (hty.2.1 _ (List.mem_of_getElem? (i := 1) rfl)) (hty.2.1 _ (List.mem_of_getElem? (i := 2) rfl)) (hty.2.1 _ (List.mem_of_getElem? (i := 3) rfl)) (hty.2.1 _ (List.mem_of_getElem? (i := 4) rfl)) (hty.2.1 _ (List.mem_of_getElem? (i := 5) rfl)) (hty.2.1 _ (List.mem_of_getElem? (i := 6) rfl))
  obtain ⟨ha, hb⟩ := h
  refine And.intro (fun c12 => ?_) (fun c12 => ?_)
  · replace h := ha c12
    clear ha hb
    exact h
  · replace h := hb c12
    clear ha hb
    intro _
    obtain ⟨k1, h⟩ := h
    refine And.intro k1 ?_
    obtain ⟨k2, h⟩ := h
    refine And.intro k2 ?_
    obtain ⟨k3, h⟩ := h
    obtain ⟨k4, h⟩ := h
    refine And.intro (And.intro k3 k4) ?_
    refine And.intro k1 ?_
    obtain ⟨k5, h⟩ := h
    refine And.intro k5 ?_
    obtain ⟨k6, h⟩ := h
    refine And.intro (And.intro k3 k6) ?_
    refine And.intro k1 ?_
    refine And.intro k2 ?_
    obtain ⟨k7, h⟩ := h
    obtain ⟨k8, h⟩ := h
    refine And.intro (And.intro k7 k8) ?_
    refine And.intro k1 ?_
    refine And.intro k5 ?_
    obtain ⟨k9, h⟩ := h
    refine And.intro (And.intro k7 k9) ?_
    refine And.intro k1 ?_
    refine And.intro k2 ?_
    obtain ⟨k10, h⟩ := h
    obtain ⟨k11, h⟩ := h
    refine And.intro (And.intro k10 k11) ?_
    refine And.intro k1 ?_
    refine And.intro k5 ?_
    obtain ⟨k12, h⟩ := h
    refine And.intro (And.intro k10 k12) ?_
    exact h
set_option maxRecDepth 20000 in
theorem g_X12_meet_373 {Q X : m_Po} {v0 v5 v6 v7 v8 v11 v12 t : Int} {ε : m_E} {μ : m_M} (h : TY ε μ → i32 v5 → i32 v6 → i32 v7 → i32 v8 → i32 v11 → i32 v12 → i32 t → (t = 0 → G cd_X12_meet Q X 378 [(0, (2, v0)), (5, (0, v5)), (6, (0, v6)), (7, (0, v7)), (8, (0, v8)), (11, (0, v11)), (12, (0, v12))] [] ε μ) ∧ (t ≠ 0 → Q 1 ε μ)) : G cd_X12_meet Q X 373 [(0, (2, v0)), (5, (0, v5)), (6, (0, v6)), (7, (0, v7)), (8, (0, v8)), (11, (0, v11)), (12, (0, v12))] [(0, t)] ε μ := by
  refine G_run (m_in [16, 37, 86, 95, 98, 145, 148, 195, 198, 245, 248, 268, 318, 323, 373, 378, 428, 433, 483, 490]) 33 _ _ _ _ ?_
  show m_ty [(0, (2, v0)), (5, (0, v5)), (6, (0, v6)), (7, (0, v7)), (8, (0, v8)), (11, (0, v11)), (12, (0, v12))] [(0, t)] ε μ → (t = 0 → G cd_X12_meet Q X 378 [(0, (2, v0)), (5, (0, v5)), (6, (0, v6)), (7, (0, v7)), (8, (0, v8)), (11, (0, v11)), (12, (0, v12))] [] ε μ) ∧ (t ≠ 0 → (m_ty [] [] ε μ → (1 = 0 ∨ 1 = 1) ∧ Q 1 ε μ))
  intro hty
  replace h := h hty.1 (hty.2.1 _ (List.mem_of_getElem? (i := 1) rfl)) (hty.2.1 _ (List.mem_of_getElem? (i := 2) rfl)) (hty.2.1 _ (List.mem_of_getElem? (i := 3) rfl)) (hty.2.1 _ (List.mem_of_getElem? (i := 4) rfl)) (hty.2.1 _ (List.mem_of_getElem? (i := 5) rfl)) (hty.2.1 _ (List.mem_of_getElem? (i := 6) rfl)) (hty.2.2 _ (List.mem_of_getElem? (i := 0) rfl))
  obtain ⟨ha, hb⟩ := h
  refine And.intro (fun c0 => ?_) (fun c0 => ?_)
  · replace h := ha c0
    clear ha hb
    exact h
  · replace h := hb c0
    clear ha hb
    intro _
    refine And.intro (Or.inr rfl) ?_
    exact h
set_option maxRecDepth 20000 in
theorem g_X12_meet_323 {Q X : m_Po} {v0 v5 v6 v7 v8 v10 v11 v12 : Int} {ε : m_E} {μ : m_M} (h : TY ε μ → i32 v5 → i32 v6 → i32 v7 → i32 v8 → i32 v10 → i32 v11 → i32 v12 → (v10 ≠ 0 → G cd_X12_meet Q X 378 [(0, (2, v0)), (5, (0, v5)), (6, (0, v6)), (7, (0, v7)), (8, (0, v8)), (11, (0, v11)), (12, (0, v12))] [] ε μ) ∧ (v10 = 0 → kd ε v0 = 11 ∧ kd ε (fn ε v0 7) = 100 ∧ (0 : Int) ≤ v5 ∧ v5 < ln ε (fn ε v0 7) ∧ kd ε (fn ε v0 8) = 100 ∧ v5 < ln ε (fn ε v0 8) ∧ (0 : Int) ≤ v6 ∧ v6 < ln ε (fn ε v0 7) ∧ v6 < ln ε (fn ε v0 8) ∧ (0 : Int) ≤ v8 ∧ v8 < ln ε (fn ε v0 7) ∧ v8 < ln ε (fn ε v0 8) ∧ o_X12_isBetween [(0, μ (fn ε v0 7) v5), (0, μ (fn ε v0 8) v5), (0, μ (fn ε v0 7) v6), (0, μ (fn ε v0 8) v6), (0, μ (fn ε v0 7) v8), (0, μ (fn ε v0 8) v8)] ε μ (fun z ε_1 μ_1 => G cd_X12_meet Q X 373 [(0, (2, v0)), (5, (0, v5)), (6, (0, v6)), (7, (0, v7)), (8, (0, v8)), (11, (0, v11)), (12, (0, v12))] [(0, z)] ε_1 μ_1) m_F)) : G cd_X12_meet Q X 323 [(0, (2, v0)), (5, (0, v5)), (6, (0, v6)), (7, (0, v7)), (8, (0, v8)), (10, (0, v10)), (11, (0, v11)), (12, (0, v12))] [] ε μ := by
  refine G_run (m_in [16, 37, 86, 95, 98, 145, 148, 195, 198, 245, 248, 268, 318, 323, 373, 378, 428, 433, 483, 490]) 33 _ _ _ _ ?_
  show m_ty [(0, (2, v0)), (5, (0, v5)), (6, (0, v6)), (7, (0, v7)), (8, (0, v8)), (10, (0, v10)), (11, (0, v11)), (12, (0, v12))] [] ε μ → (v10 ≠ 0 → G cd_X12_meet Q X 378 [(0, (2, v0)), (5, (0, v5)), (6, (0, v6)), (7, (0, v7)), (8, (0, v8)), (11, (0, v11)), (12, (0, v12))] [] ε μ) ∧ (v10 = 0 → (m_ty [(0, (2, v0)), (5, (0, v5)), (6, (0, v6)), (7, (0, v7)), (8, (0, v8)), (11, (0, v11)), (12, (0, v12))] [] ε μ → (kd ε v0 = 11) ∧ (kd ε (fn ε v0 7) = 100) ∧ ((0 : Int) ≤ v5 ∧ v5 < ln ε (fn ε v0 7)) ∧ (kd ε v0 = 11) ∧ (kd ε (fn ε v0 8) = 100) ∧ ((0 : Int) ≤ v5 ∧ v5 < ln ε (fn ε v0 8)) ∧ (kd ε v0 = 11) ∧ (kd ε (fn ε v0 7) = 100) ∧ ((0 : Int) ≤ v6 ∧ v6 < ln ε (fn ε v0 7)) ∧ (kd ε v0 = 11) ∧ (kd ε (fn ε v0 8) = 100) ∧ ((0 : Int) ≤ v6 ∧ v6 < ln ε (fn ε v0 8)) ∧ (kd ε v0 = 11) ∧ (kd ε (fn ε v0 7) = 100) ∧ ((0 : Int) ≤ v8 ∧ v8 < ln ε (fn ε v0 7)) ∧ (kd ε v0 = 11) ∧ (kd ε (fn ε v0 8) = 100) ∧ ((0 : Int) ≤ v8 ∧ v8 < ln ε (fn ε v0 8)) ∧ o_X12_isBetween [(0, μ (fn ε v0 7) v5), (0, μ (fn ε v0 8) v5), (0, μ (fn ε v0 7) v6), (0, μ (fn ε v0 8) v6), (0, μ (fn ε v0 7) v8), (0, μ (fn ε v0 8) v8)] ε μ (fun z ε_1 μ_1 => G cd_X12_meet Q X 373 [(0, (2, v0)), (5, (0, v5)), (6, (0, v6)), (7, (0, v7)), (8, (0, v8)), (11, (0, v11)), (12, (0, v12))] [(0, z)] ε_1 μ_1) m_F))
  intro hty
  replace h := h hty.1 (hty.2.1 _ (List.mem_of_getElem? (i := 1) rfl)) (hty.2.1 _ (List.mem_of_getElem? (i := 2) rfl)) (hty.2.1 _ (List.mem_of_getElem? (i := 3) rfl)) (hty.2.1 _ (List.mem_of_getElem? (i := 4) rfl)) (hty.2.1 _ (List.mem_of_getElem? (i := 5) rfl)) (hty.2.1 _ (List.mem_of_getElem? (i := 6) rfl)) (hty.2.1 _ (List.mem_of_getElem? (i := 7) rfl))
  obtain ⟨ha, hb⟩ := h
  refine And.intro (fun c12 => ?_) (fun c12 => ?_)
  · replace h := ha c12
    clear ha hb
    exact h
  · replace h := hb c12
    clear ha hb
    intro _
    obtain ⟨k1, h⟩ := h
    refine And.intro k1 ?_
    obtain ⟨k2, h⟩ := h
    refine And.intro k2 ?_
    obtain ⟨k3, h⟩ := h
    obtain ⟨k4, h⟩ := h
    refine And.intro (And.intro k3 k4) ?_
    refine And.intro k1 ?_
    obtain ⟨k5, h⟩ := h
    refine And.intro k5 ?_
    obtain ⟨k6, h⟩ := h
    refine And.intro (And.intro k3 k6) ?_
    refine And.intro k1 ?_
    refine And.intro k2 ?_
    obtain ⟨k7, h⟩ := h
    obtain ⟨k8, h⟩ := h
    refine And.intro (And.intro k7 k8) ?_
    refine And.intro k1 ?_
    refine And.intro k5 ?_
    obtain ⟨k9, h⟩ := h
    refine And.intro (And.intro k7 k9) ?_
    refine And.intro k1 ?_
    refine And.intro k2 ?_
    obtain ⟨k10, h⟩ := h
    obtain ⟨k11, h⟩ := h
    refine And.intro (And.intro k10 k11) ?_
    refine And.intro k1 ?_
    refine And.intro k5 ?_
    obtain ⟨k12, h⟩ := h
    refine And.intro (And.intro k10 k12) ?_
    exact h
set_option maxRecDepth 20000 in
theorem g_X12_meet_318 {Q X : m_Po} {v0 v5 v6 v7 v8 v10 v11 v12 t : Int} {ε : m_E} {μ : m_M} (h : TY ε μ → i32 v5 → i32 v6 → i32 v7 → i32 v8 → i32 v10 → i32 v11 → i32 v12 → i32 t → (t = 0 → G cd_X12_meet Q X 323 [(0, (2, v0)), (5, (0, v5)), (6, (0, v6)), (7, (0, v7)), (8, (0, v8)), (10, (0, v10)), (11, (0, v11)), (12, (0, v12))] [] ε μ) ∧ (t ≠ 0 → Q 1 ε μ)) : G cd_X12_meet Q X 318 [(0, (2, v0)), (5, (0, v5)), (6, (0, v6)), (7, (0, v7)), (8, (0, v8)), (10, (0, v10)), (11, (0, v11)), (12, (0, v12))] [(0, t)] ε μ := by
  refine G_run (m_in [16, 37, 86, 95, 98, 145, 148, 195, 198, 245, 248, 268, 318, 323, 373, 378, 428, 433, 483, 490]) 33 _ _ _ _ ?_
  show m_ty [(0, (2, v0)), (5, (0, v5)), (6, (0, v6)), (7, (0, v7)), (8, (0, v8)), (10, (0, v10)), (11, (0, v11)), (12, (0, v12))] [(0, t)] ε μ → (t = 0 → G cd_X12_meet Q X 323 [(0, (2, v0)), (5, (0, v5)), (6, (0, v6)), (7, (0, v7)), (8, (0, v8)), (10, (0, v10)), (11, (0, v11)), (12, (0, v12))] [] ε μ) ∧ (t ≠ 0 → (m_ty [] [] ε μ → (1 = 0 ∨ 1 = 1) ∧ Q 1 ε μ))
  intro hty
  replace h := h hty.1 (hty.2.1 _ (List.mem_of_getElem? (i := 1) rfl)) (hty.2.1 _ (List.mem_of_getElem? (i := 2) rfl)) (hty.2.1 _ (List.mem_of_getElem? (i := 3) rfl)) (hty.2.1 _ (List.mem_of_getElem? (i := 4) rfl)) (hty.2.1 _ (List.mem_of_getElem? (i := 5) rfl)) (hty.2.1 _ (List.mem_of_getElem? (i := 6) rfl)) (hty.2.1 _ (List.mem_of_getElem? (i := 7) rfl)) (hty.2.2 _ (List.mem_of_getElem? (i := 0) rfl))
  obtain ⟨ha, hb⟩ := h
  refine And.intro (fun c0 => ?_) (fun c0 => ?_)
  · replace h := ha c0
    clear ha hb
    exact h
  · replace h := hb c0
    clear ha hb
    intro _
    refine And.intro (Or.inr rfl) ?_
    exact h
set_option maxRecDepth 20000 in
theorem g_X12_meet_268 {Q X : m_Po} {v0 v5 v6 v7 v8 v9 v10 v11 v12 : Int} {ε : m_E} {μ : m_M} (h : TY ε μ → i32 v5 → i32 v6 → i32 v7 → i32 v8 → i32 v9 → i32 v10 → i32 v11 → i32 v12 → (v9 ≠ 0 → G cd_X12_meet Q X 323 [(0, (2, v0)), (5, (0, v5)), (6, (0, v6)), (7, (0, v7)), (8, (0, v8)), (10, (0, v10)), (11, (0, v11)), (12, (0, v12))] [] ε μ) ∧ (v9 = 0 → kd ε v0 = 11 ∧ kd ε (fn ε v0 7) = 100 ∧ (0 : Int) ≤ v5 ∧ v5 < ln ε (fn ε v0 7) ∧ kd ε (fn ε v0 8) = 100 ∧ v5 < ln ε (fn ε v0 8) ∧ (0 : Int) ≤ v6 ∧ v6 < ln ε (fn ε v0 7) ∧ v6 < ln ε (fn ε v0 8) ∧ (0 : Int) ≤ v7 ∧ v7 < ln ε (fn ε v0 7) ∧ v7 < ln ε (fn ε v0 8) ∧ o_X12_isBetween [(0, μ (fn ε v0 7) v5), (0, μ (fn ε v0 8) v5), (0, μ (fn ε v0 7) v6), (0, μ (fn ε v0 8) v6), (0, μ (fn ε v0 7) v7), (0, μ (fn ε v0 8) v7)] ε μ (fun z ε_1 μ_1 => G cd_X12_meet Q X 318 [(0, (2, v0)), (5, (0, v5)), (6, (0, v6)), (7, (0, v7)), (8, (0, v8)), (10, (0, v10)), (11, (0, v11)), (12, (0, v12))] [(0, z)] ε_1 μ_1) m_F)) : G cd_X12_meet Q X 268 [(0, (2, v0)), (5, (0, v5)), (6, (0, v6)), (7, (0, v7)), (8, (0, v8)), (9, (0, v9)), (10, (0, v10)), (11, (0, v11)), (12, (0, v12))] [] ε μ := by
  refine G_run (m_in [16, 37, 86, 95, 98, 145, 148, 195, 198, 245, 248, 268, 318, 323, 373, 378, 428, 433, 483, 490]) 33 _ _ _ _ ?_
  show m_ty [(0, (2, v0)), (5, (0, v5)), (6, (0, v6)), (7, (0, v7)), (8, (0, v8)), (9, (0, v9)), (10, (0, v10)), (11, (0, v11)), (12, (0, v12))] [] ε μ → (v9 ≠ 0 → G cd_X12_meet Q X 323 [(0, (2, v0)), (5, (0, v5)), (6, (0, v6)), (7, (0, v7)), (8, (0, v8)), (10, (0, v10)), (11, (0, v11)), (12, (0, v12))] [] ε μ) ∧ (v9 = 0 → (m_ty [(0, (2, v0)), (5, (0, v5)), (6, (0, v6)), (7, (0, v7)), (8, (0, v8)), (10, (0, v10)), (11, (0, v11)), (12, (0, v12))] [] ε μ → (kd ε v0 = 11) ∧ (kd ε (fn ε v0 7) = 100) ∧ ((0 : Int) ≤ v5 ∧ v5 < ln ε (fn ε v0 7)) ∧ (kd ε v0 = 11) ∧ (kd ε (fn ε v0 8) = 100) ∧ ((0 : Int) ≤ v5 ∧ v5 < ln ε (fn ε v0 8)) ∧ (kd ε v0 = 11) ∧ (kd ε (fn ε v0 7) = 100) ∧ ((0 : Int) ≤ v6 ∧ v6 < ln ε (fn ε v0 7)) ∧ (kd ε v0 = 11) ∧ (kd ε (fn ε v0 8) = 100) ∧ ((0 : Int) ≤ v6 ∧ v6 < ln ε (fn ε v0 8)) ∧ (kd ε v0 = 11) ∧ (kd ε (fn ε v0 7) = 100) ∧ ((0 : Int) ≤ v7 ∧ v7 < ln ε (fn ε v0 7)) ∧ (kd ε v0 = 11) ∧ (kd ε (fn ε v0 8) = 100) ∧ ((0 : Int) ≤ v7 ∧ v7 < ln ε (fn ε v0 8)) ∧ o_X12_isBetween [(0, μ (fn ε v0 7) v5), (0, μ (fn ε v0 8) v5), (0, μ (fn ε v0 7) v6), (0, μ (fn ε v0 8) v6), (0, μ (fn ε v0 7) v7), (0, μ (fn ε v0 8) v7)] ε μ (fun z ε_1 μ_1 => G cd_X12_meet Q X 318 [(0, (2, v0)), (5, (0, v5)), (6, (0, v6)), (7, (0, v7)), (8, (0, v8)), (10, (0, v10)), (11, (0, v11)), (12, (0, v12))] [(0, z)] ε_1 μ_1) m_F))
  intro hty
  replace h := h hty.1 (hty.2.1 _ (List.mem_of_getElem? (i := 1) rfl)) (hty.2.1 _ (List.mem_of_getElem? (i := 2) rfl)) (hty.2.1 _ (List.mem_of_getElem? (i := 3) rfl)) (hty.2.1 _ (List.mem_of_getElem? (i := 4) rfl)) (hty.2.1 _ (List.mem_of_getElem? (i := 5) rfl)) (hty.2.1 _ (List.mem_of_getElem? (i := 6) rfl)) (hty.2.1 _ (List.mem_of_getElem? (i := 7) rfl)) (hty.2.1 _ (List.mem_of_getElem? (i := 8) rfl))
  obtain ⟨ha, hb⟩ := h
  refine And.intro (fun c12 => ?_) (fun c12 => ?_)
  · replace h := ha c12
    clear ha hb
    exact h
  · replace h := hb c12
    clear ha hb
    intro _
    obtain ⟨k1, h⟩ := h
    refine And.intro k1 ?_
    obtain ⟨k2, h⟩ := h
    refine And.intro k2 ?_
    obtain ⟨k3, h⟩ := h
    obtain ⟨k4, h⟩ := h
    refine And.intro (And.intro k3 k4) ?_
    refine And.intro k1 ?_
    obtain ⟨k5, h⟩ := h
    refine And.intro k5 ?_
    obtain ⟨k6, h⟩ := h
    refine And.intro (And.intro k3 k6) ?_
    refine And.intro k1 ?_
    refine And.intro k2 ?_
    obtain ⟨k7, h⟩ := h
    obtain ⟨k8, h⟩ := h
    refine And.intro (And.intro k7 k8) ?_
    refine And.intro k1 ?_
    refine And.intro k5 ?_
    obtain ⟨k9, h⟩ := h
    refine And.intro (And.intro k7 k9) ?_
    refine And.intro k1 ?_
    refine And.intro k2 ?_
    obtain ⟨k10, h⟩ := h
    obtain ⟨k11, h⟩ := h
    refine And.intro (And.intro k10 k11) ?_
    refine And.intro k1 ?_
    refine And.intro k5 ?_
    obtain ⟨k12, h⟩ := h
    refine And.intro (And.intro k10 k12) ?_
    exact h
set_option maxRecDepth 20000 in
theorem g_X12_meet_248 {Q X : m_Po} {v0 v5 v6 v7 v8 v9 v10 v11 t : Int} {ε : m_E} {μ : m_M} (h : TY ε μ → i32 v5 → i32 v6 → i32 v7 → i32 v8 → i32 v9 → i32 v10 → i32 v11 → i32 t → ∀ v12 : Int, v12 = t → (0 ≤ (w32 (v9 * v10)) → G cd_X12_meet Q X 268 [(0, (2, v0)), (5, (0, v5)), (6, (0, v6)), (7, (0, v7)), (8, (0, v8)), (9, (0, v9)), (10, (0, v10)), (11, (0, v11)), (12, (0, v12))] [] ε μ) ∧ ((w32 (v9 * v10)) < 0 → (0 ≤ (w32 (v11 * v12)) → G cd_X12_meet Q X 268 [(0, (2, v0)), (5, (0, v5)), (6, (0, v6)), (7, (0, v7)), (8, (0, v8)), (9, (0, v9)), (10, (0, v10)), (11, (0, v11)), (12, (0, v12))] [] ε μ) ∧ ((w32 (v11 * v12)) < 0 → Q 1 ε μ))) : G cd_X12_meet Q X 248 [(0, (2, v0)), (5, (0, v5)), (6, (0, v6)), (7, (0, v7)), (8, (0, v8)), (9, (0, v9)), (10, (0, v10)), (11, (0, v11))] [(0, t)] ε μ := by
  refine G_run (m_in [16, 37, 86, 95, 98, 145, 148, 195, 198, 245, 248, 268, 318, 323, 373, 378, 428, 433, 483, 490]) 33 _ _ _ _ ?_
  show m_ty [(0, (2, v0)), (5, (0, v5)), (6, (0, v6)), (7, (0, v7)), (8, (0, v8)), (9, (0, v9)), (10, (0, v10)), (11, (0, v11))] [(0, t)] ε μ → ∀ v12 : Int, v12 = t → (0 ≤ (w32 (v9 * v10)) → G cd_X12_meet Q X 268 [(0, (2, v0)), (5, (0, v5)), (6, (0, v6)), (7, (0, v7)), (8, (0, v8)), (9, (0, v9)), (10, (0, v10)), (11, (0, v11)), (12, (0, v12))] [] ε μ) ∧ ((w32 (v9 * v10)) < 0 → (m_ty [(0, (2, v0)), (5, (0, v5)), (6, (0, v6)), (7, (0, v7)), (8, (0, v8)), (9, (0, v9)), (10, (0, v10)), (11, (0, v11)), (12, (0, v12))] [] ε μ → (0 ≤ (w32 (v11 * v12)) → G cd_X12_meet Q X 268 [(0, (2, v0)), (5, (0, v5)), (6, (0, v6)), (7, (0, v7)), (8, (0, v8)), (9, (0, v9)), (10, (0, v10)), (11, (0, v11)), (12, (0, v12))] [] ε μ) ∧ ((w32 (v11 * v12)) < 0 → (m_ty [] [] ε μ → (1 = 0 ∨ 1 = 1) ∧ Q 1 ε μ))))
  intro hty
  replace h := h hty.1 (hty.2.1 _ (List.mem_of_getElem? (i := 1) rfl)) (hty.2.1 _ (List.mem_of_getElem? (i := 2) rfl)) (hty.2.1 _ (List.mem_of_getElem? (i := 3) rfl)) (hty.2.1 _ (List.mem_of_getElem? (i := 4) rfl)) (hty.2.1 _ (List.mem_of_getElem? (i := 5) rfl)) (hty.2.1 _ (List.mem_of_getElem? (i := 6) rfl)) (hty.2.1 _ (List.mem_of_getElem? (i := 7) rfl)) (hty.2.2 _ (List.mem_of_getElem? (i := 0) rfl))
  intro v12 e_v12
  replace h := h v12 e_v12
  obtain ⟨ha, hb⟩ := h
  refine And.intro (fun c1 => ?_) (fun c1 => ?_)
  · replace h := ha c1
    clear ha hb
    exact h
  · replace h := hb c1
    clear ha hb
    intro _
    obtain ⟨ha, hb⟩ := h
    refine And.intro (fun c0 => ?_) (fun c0 => ?_)
    · replace h := ha c0
      clear ha hb
      exact h
    · replace h := hb c0
      clear ha hb
      intro _
      refine And.intro (Or.inr rfl) ?_
      exact h
set_option maxRecDepth 20000 in
theorem g_X12_meet_245 {Q X : m_Po} {v0 v5 v6 v7 v8 v9 v10 v11 t : Int} {ε : m_E} {μ : m_M} (h : TY ε μ → i32 v5 → i32 v6 → i32 v7 → i32 v8 → i32 v9 → i32 v10 → i32 v11 → i32 t → o_X12_signOf [(0, t)] ε μ (fun z ε_1 μ_1 => G cd_X12_meet Q X 248 [(0, (2, v0)), (5, (0, v5)), (6, (0, v6)), (7, (0, v7)), (8, (0, v8)), (9, (0, v9)), (10, (0, v10)), (11, (0, v11))] [(0, z)] ε_1 μ_1) m_F) : G cd_X12_meet Q X 245 [(0, (2, v0)), (5, (0, v5)), (6, (0, v6)), (7, (0, v7)), (8, (0, v8)), (9, (0, v9)), (10, (0, v10)), (11, (0, v11))] [(0, t)] ε μ := by
  refine G_run (m_in [16, 37, 86, 95, 98, 145, 148, 195, 198, 245, 248, 268, 318, 323, 373, 378, 428, 433, 483, 490]) 33 _ _ _ _ ?_
  show m_ty [(0, (2, v0)), (5, (0, v5)), (6, (0, v6)), (7, (0, v7)), (8, (0, v8)), (9, (0, v9)), (10, (0, v10)), (11, (0, v11))] [(0, t)] ε μ → o_X12_signOf [(0, t)] ε μ (fun z ε_1 μ_1 => G cd_X12_meet Q X 248 [(0, (2, v0)), (5, (0, v5)), (6, (0, v6)), (7, (0, v7)), (8, (0, v8)), (9, (0, v9)), (10, (0, v10)), (11, (0, v11))] [(0, z)] ε_1 μ_1) m_F
  intro hty
  replace h := h hty.1 (hty.2.1 _ (List.mem_of_getElem? (i := 1) rfl)) (hty.2.1 _ (List.mem_of_getElem? (i := 2) rfl)) (hty.2.1 _ (List.mem_of_getElem? (i := 3) rfl)) (hty.2.1 _ (List.mem_of_getElem? (i := 4) rfl)) (hty.2.1 _ (List.mem_of_getElem? (i := 5) rfl)) (hty.2.1 _ (List.mem_of_getElem? (i := 6) rfl)) (hty.2.1 _ (List.mem_of_getElem? (i := 7) rfl)) (hty.2.2 _ (List.mem_of_getElem? (i := 0) rfl))
  exact h
set_option maxRecDepth 20000 in
theorem g_X12_meet_198 {Q X : m_Po} {v0 v5 v6 v7 v8 v9 v10 t : Int} {ε : m_E} {μ : m_M} (h : TY ε μ → i32 v5 → i32 v6 → i32 v7 → i32 v8 → i32 v9 → i32 v10 → i32 t → ∀ v11 : Int, v11 = t → kd ε v0 = 11 ∧ kd ε (fn ε v0 7) = 100 ∧ (0 : Int) ≤ v7 ∧ v7 < ln ε (fn ε v0 7) ∧ kd ε (fn ε v0 8) = 100 ∧ v7 < ln ε (fn ε v0 8) ∧ (0 : Int) ≤ v8 ∧ v8 < ln ε (fn ε v0 7) ∧ v8 < ln ε (fn ε v0 8) ∧ (0 : Int) ≤ v6 ∧ v6 < ln ε (fn ε v0 7) ∧ v6 < ln ε (fn ε v0 8) ∧ o_X12_turn [(0, μ (fn ε v0 7) v7), (0, μ (fn ε v0 8) v7), (0, μ (fn ε v0 7) v8), (0, μ (fn ε v0 8) v8), (0, μ (fn ε v0 7) v6), (0, μ (fn ε v0 8) v6)] ε μ (fun z ε_1 μ_1 => G cd_X12_meet Q X 245 [(0, (2, v0)), (5, (0, v5)), (6, (0, v6)), (7, (0, v7)), (8, (0, v8)), (9, (0, v9)), (10, (0, v10)), (11, (0, v11))] [(0, z)] ε_1 μ_1) m_F) : G cd_X12_meet Q X 198 [(0, (2, v0)), (5, (0, v5)), (6, (0, v6)), (7, (0, v7)), (8, (0, v8)), (9, (0, v9)), (10, (0, v10))] [(0, t)] ε μ := by
  refine G_run (m_in [16, 37, 86, 95, 98, 145, 148, 195, 198, 245, 248, 268, 318, 323, 373, 378, 428, 433, 483, 490]) 33 _ _ _ _ ?_
  show m_ty [(0, (2, v0)), (5, (0, v5)), (6, (0, v6)), (7, (0, v7)), (8, (0, v8)), (9, (0, v9)), (10, (0, v10))] [(0, t)] ε μ → ∀ v11 : Int, v11 = t → (kd ε v0 = 11) ∧ (kd ε (fn ε v0 7) = 100) ∧ ((0 : Int) ≤ v7 ∧ v7 < ln ε (fn ε v0 7)) ∧ (kd ε v0 = 11) ∧ (kd ε (fn ε v0 8) = 100) ∧ ((0 : Int) ≤ v7 ∧ v7 < ln ε (fn ε v0 8)) ∧ (kd ε v0 = 11) ∧ (kd ε (fn ε v0 7) = 100) ∧ ((0 : Int) ≤ v8 ∧ v8 < ln ε (fn ε v0 7)) ∧ (kd ε v0 = 11) ∧ (kd ε (fn ε v0 8) = 100) ∧ ((0 : Int) ≤ v8 ∧ v8 < ln ε (fn ε v0 8)) ∧ (kd ε v0 = 11) ∧ (kd ε (fn ε v0 7) = 100) ∧ ((0 : Int) ≤ v6 ∧ v6 < ln ε (fn ε v0 7)) ∧ (kd ε v0 = 11) ∧ (kd ε (fn ε v0 8) = 100) ∧ ((0 : Int) ≤ v6 ∧ v6 < ln ε (fn ε v0 8)) ∧ o_X12_turn [(0, μ (fn ε v0 7) v7), (0, μ (fn ε v0 8) v7), (0, μ (fn ε v0 7) v8), (0, μ (fn ε v0 8) v8), (0, μ (fn ε v0 7) v6), (0, μ (fn ε v0 8) v6)] ε μ (fun z ε_1 μ_1 => G cd_X12_meet Q X 245 [(0, (2, v0)), (5, (0, v5)), (6, (0, v6)), (7, (0, v7)), (8, (0, v8)), (9, (0, v9)), (10, (0, v10)), (11, (0, v11))] [(0, z)] ε_1 μ_1) m_F
  intro hty
  replace h := h hty.1 (hty.2.1 _ (List.mem_of_getElem? (i := 1) rfl)) (hty.2.1 _ (List.mem_of_getElem? (i := 2) rfl)) (hty.2.1 _ (List.mem_of_getElem? (i := 3) rfl)) (hty.2.1 _ (List.mem_of_getElem? (i := 4) rfl)) (hty.2.1 _ (List.mem_of_getElem? (i := 5) rfl)) (hty.2.1 _ (List.mem_of_getElem? (i := 6) rfl)) (hty.2.2 _ (List.mem_of_getElem? (i := 0) rfl))
  intro v11 e_v11
  replace h := h v11 e_v11
  obtain ⟨k1, h⟩ := h
  refine And.intro k1 ?_
  obtain ⟨k2, h⟩ := h
  refine And.intro k2 ?_
  obtain ⟨k3, h⟩ := h
  obtain ⟨k4, h⟩ := h
  refine And.intro (And.intro k3 k4) ?_
  refine And.intro k1 ?_
  obtain ⟨k5, h⟩ := h
  refine And.intro k5 ?_
  obtain ⟨k6, h⟩ := h
  refine And.intro (And.intro k3 k6) ?_
  refine And.intro k1 ?_
  refine And.intro k2 ?_
  obtain ⟨k7, h⟩ := h
  obtain ⟨k8, h⟩ := h
  refine And.intro (And.intro k7 k8) ?_
  refine And.intro k1 ?_
  refine And.intro k5 ?_
  obtain ⟨k9, h⟩ := h
  refine And.intro (And.intro k7 k9) ?_
  refine And.intro k1 ?_
  refine And.intro k2 ?_
  obtain ⟨k10, h⟩ := h
  obtain ⟨k11, h⟩ := h
  refine And.intro (And.intro k10 k11) ?_
  refine And.intro k1 ?_
  refine And.intro k5 ?_
  obtain ⟨k12, h⟩ := h
  refine And.intro (And.intro k10 k12) ?_
  exact h
set_option maxRecDepth 20000 in
theorem g_X12_meet_195 {Q X : m_Po} {v0 v5 v6 v7 v8 v9 v10 t : Int} {ε : m_E} {μ : m_M} (h : TY ε μ → i32 v5 → i32 v6 → i32 v7 → i32 v8 → i32 v9 → i32 v10 → i32 t → o_X12_signOf [(0, t)] ε μ (fun z ε_1 μ_1 => G cd_X12_meet Q X 198 [(0, (2, v0)), (5, (0, v5)), (6, (0, v6)), (7, (0, v7)), (8, (0, v8)), (9, (0, v9)), (10, (0, v10))] [(0, z)] ε_1 μ_1) m_F) : G cd_X12_meet Q X 195 [(0, (2, v0)), (5, (0, v5)), (6, (0, v6)), (7, (0, v7)), (8, (0, v8)), (9, (0, v9)), (10, (0, v10))] [(0, t)] ε μ := by
  refine G_run (m_in [16, 37, 86, 95, 98, 145, 148, 195, 198, 245, 248, 268, 318, 323, 373, 378, 428, 433, 483, 490]) 33 _ _ _ _ ?_
  show m_ty [(0, (2, v0)), (5, (0, v5)), (6, (0, v6)), (7, (0, v7)), (8, (0, v8)), (9, (0, v9)), (10, (0, v10))] [(0, t)] ε μ → o_X12_signOf [(0, t)] ε μ (fun z ε_1 μ_1 => G cd_X12_meet Q X 198 [(0, (2, v0)), (5, (0, v5)), (6, (0, v6)), (7, (0, v7)), (8, (0, v8)), (9, (0, v9)), (10, (0, v10))] [(0, z)] ε_1 μ_1) m_F
  intro hty
  replace h := h hty.1 (hty.2.1 _ (List.mem_of_getElem? (i := 1) rfl)) (hty.2.1 _ (List.mem_of_getElem? (i := 2) rfl)) (hty.2.1 _ (List.mem_of_getElem? (i := 3) rfl)) (hty.2.1 _ (List.mem_of_getElem? (i := 4) rfl)) (hty.2.1 _ (List.mem_of_getElem? (i := 5) rfl)) (hty.2.1 _ (List.mem_of_getElem? (i := 6) rfl)) (hty.2.2 _ (List.mem_of_getElem? (i := 0) rfl))
  exact h
set_option maxRecDepth 20000 in
theorem g_X12_meet_148 {Q X : m_Po} {v0 v5 v6 v7 v8 v9 t : Int} {ε : m_E} {μ : m_M} (h : TY ε μ → i32 v5 → i32 v6 → i32 v7 → i32 v8 → i32 v9 → i32 t → ∀ v10 : Int, v10 = t → kd ε v0 = 11 ∧ kd ε (fn ε v0 7) = 100 ∧ (0 : Int) ≤ v7 ∧ v7 < ln ε (fn ε v0 7) ∧ kd ε (fn ε v0 8) = 100 ∧ v7 < ln ε (fn ε v0 8) ∧ (0 : Int) ≤ v8 ∧ v8 < ln ε (fn ε v0 7) ∧ v8 < ln ε (fn ε v0 8) ∧ (0 : Int) ≤ v5 ∧ v5 < ln ε (fn ε v0 7) ∧ v5 < ln ε (fn ε v0 8) ∧ o_X12_turn [(0, μ (fn ε v0 7) v7), (0, μ (fn ε v0 8) v7), (0, μ (fn ε v0 7) v8), (0, μ (fn ε v0 8) v8), (0, μ (fn ε v0 7) v5), (0, μ (fn ε v0 8) v5)] ε μ (fun z ε_1 μ_1 => G cd_X12_meet Q X 195 [(0, (2, v0)), (5, (0, v5)), (6, (0, v6)), (7, (0, v7)), (8, (0, v8)), (9, (0, v9)), (10, (0, v10))] [(0, z)] ε_1 μ_1) m_F) : G cd_X12_meet Q X 148 [(0, (2, v0)), (5, (0, v5)), (6, (0, v6)), (7, (0, v7)), (8, (0, v8)), (9, (0, v9))] [(0, t)] ε μ := by
  refine G_run (m_in [16, 37, 86, 95, 98, 145, 148, 195, 198, 245, 248, 268, 318, 323, 373, 378, 428, 433, 483, 490]) 33 _ _ _ _ ?_
  show m_ty [(0, (2, v0)), (5, (0, v5)), (6, (0, v6)), (7, (0, v7)), (8, (0, v8)), (9, (0, v9))] [(0, t)] ε μ → ∀ v10 : Int, v10 = t → (kd ε v0 = 11) ∧ (kd ε (fn ε v0 7) = 100) ∧ ((0 : Int) ≤ v7 ∧ v7 < ln ε (fn ε v0 7)) ∧ (kd ε v0 = 11) ∧ (kd ε (fn ε v0 8) = 100) ∧ ((0 : Int) ≤ v7 ∧ v7 < ln ε (fn ε v0 8)) ∧ (kd ε v0 = 11) ∧ (kd ε (fn ε v0 7) = 100) ∧ ((0 : Int) ≤ v8 ∧ v8 < ln ε (fn ε v0 7)) ∧ (kd ε v0 = 11) ∧ (kd ε (fn ε v0 8) = 100) ∧ ((0 : Int) ≤ v8 ∧ v8 < ln ε (fn ε v0 8)) ∧ (kd ε v0 = 11) ∧ (kd ε (fn ε v0 7) = 100) ∧ ((0 : Int) ≤ v5 ∧ v5 < ln ε (fn ε v0 7)) ∧ (kd ε v0 = 11) ∧ (kd ε (fn ε v0 8) = 100) ∧ ((0 : Int) ≤ v5 ∧ v5 < ln ε (fn ε v0 8)) ∧ o_X12_turn [(0, μ (fn ε v0 7) v7), (0, μ (fn ε v0 8) v7), (0, μ (fn ε v0 7) v8), (0, μ (fn ε v0 8) v8), (0, μ (fn ε v0 7) v5), (0, μ (fn ε v0 8) v5)] ε μ (fun z ε_1 μ_1 => G cd_X12_meet Q X 195 [(0, (2, v0)), (5, (0, v5)), (6, (0, v6)), (7, (0, v7)), (8, (0, v8)), (9, (0, v9)), (10, (0, v10))] [(0, z)] ε_1 μ_1) m_F
  intro hty
  replace h := h hty.1 (hty.2.1 _ (List.mem_of_getElem? (i := 1) rfl)) (hty.2.1 _ (List.mem_of_getElem? (i := 2) rfl)) (hty.2.1 _ (List.mem_of_getElem? (i := 3) rfl)) (hty.2.1 _ (List.mem_of_getElem? (i := 4) rfl)) (hty.2.1 _ (List.mem_of_getElem? (i := 5) rfl)) (hty.2.2 _ (List.mem_of_getElem? (i := 0) rfl))
  intro v10 e_v10
  replace h := h v10 e_v10
  obtain ⟨k1, h⟩ := h
  refine And.intro k1 ?_
  obtain ⟨k2, h⟩ := h
  refine And.intro k2 ?_
  obtain ⟨k3, h⟩ := h
  obtain ⟨k4, h⟩ := h
  refine And.intro (And.intro k3 k4) ?_
  refine And.intro k1 ?_
  obtain ⟨k5, h⟩ := h
  refine And.intro k5 ?_
  obtain ⟨k6, h⟩ := h
  refine And.intro (And.intro k3 k6) ?_
  refine And.intro k1 ?_
  refine And.intro k2 ?_
  obtain ⟨k7, h⟩ := h
  obtain ⟨k8, h⟩ := h
  refine And.intro (And.intro k7 k8) ?_
  refine And.intro k1 ?_
  refine And.intro k5 ?_
  obtain ⟨k9, h⟩ := h
  refine And.intro (And.intro k7 k9) ?_
  refine And.intro k1 ?_
  refine And.intro k2 ?_
  obtain ⟨k10, h⟩ := h
  obtain ⟨k11, h⟩ := h
  refine And.intro (And.intro k10 k11) ?_
  refine And.intro k1 ?_
  refine And.intro k5 ?_
  obtain ⟨k12, h⟩ := h
  refine And.intro (And.intro k10 k12) ?_
  exact h
set_option maxRecDepth 20000 in
theorem g_X12_meet_145 {Q X : m_Po} {v0 v5 v6 v7 v8 v9 t : Int} {ε : m_E} {μ : m_M} (h : TY ε μ → i32 v5 → i32 v6 → i32 v7 → i32 v8 → i32 v9 → i32 t → o_X12_signOf [(0, t)] ε μ (fun z ε_1 μ_1 => G cd_X12_meet Q X 148 [(0, (2, v0)), (5, (0, v5)), (6, (0, v6)), (7, (0, v7)), (8, (0, v8)), (9, (0, v9))] [(0, z)] ε_1 μ_1) m_F) : G cd_X12_meet Q X 145 [(0, (2, v0)), (5, (0, v5)), (6, (0, v6)), (7, (0, v7)), (8, (0, v8)), (9, (0, v9))] [(0, t)] ε μ := by
  refine G_run (m_in [16, 37, 86, 95, 98, 145, 148, 195, 198, 245, 248, 268, 318, 323, 373, 378, 428, 433, 483, 490]) 33 _ _ _ _ ?_
  show m_ty [(0, (2, v0)), (5, (0, v5)), (6, (0, v6)), (7, (0, v7)), (8, (0, v8)), (9, (0, v9))] [(0, t)] ε μ → o_X12_signOf [(0, t)] ε μ (fun z ε_1 μ_1 => G cd_X12_meet Q X 148 [(0, (2, v0)), (5, (0, v5)), (6, (0, v6)), (7, (0, v7)), (8, (0, v8)), (9, (0, v9))] [(0, z)] ε_1 μ_1) m_F
  intro hty
  replace h := h hty.1 (hty.2.1 _ (List.mem_of_getElem? (i := 1) rfl)) (hty.2.1 _ (List.mem_of_getElem? (i := 2) rfl)) (hty.2.1 _ (List.mem_of_getElem? (i := 3) rfl)) (hty.2.1 _ (List.mem_of_getElem? (i := 4) rfl)) (hty.2.1 _ (List.mem_of_getElem? (i := 5) rfl)) (hty.2.2 _ (List.mem_of_getElem? (i := 0) rfl))
  exact h
set_option maxRecDepth 20000 in
theorem g_X12_meet_98 {Q X : m_Po} {v0 v5 v6 v7 v8 t : Int} {ε : m_E} {μ : m_M} (h : TY ε μ → i32 v5 → i32 v6 → i32 v7 → i32 v8 → i32 t → ∀ v9 : Int, v9 = t → kd ε v0 = 11 ∧ kd ε (fn ε v0 7) = 100 ∧ (0 : Int) ≤ v5 ∧ v5 < ln ε (fn ε v0 7) ∧ kd ε (fn ε v0 8) = 100 ∧ v5 < ln ε (fn ε v0 8) ∧ (0 : Int) ≤ v6 ∧ v6 < ln ε (fn ε v0 7) ∧ v6 < ln ε (fn ε v0 8) ∧ (0 : Int) ≤ v8 ∧ v8 < ln ε (fn ε v0 7) ∧ v8 < ln ε (fn ε v0 8) ∧ o_X12_turn [(0, μ (fn ε v0 7) v5), (0, μ (fn ε v0 8) v5), (0, μ (fn ε v0 7) v6), (0, μ (fn ε v0 8) v6), (0, μ (fn ε v0 7) v8), (0, μ (fn ε v0 8) v8)] ε μ (fun z ε_1 μ_1 => G cd_X12_meet Q X 145 [(0, (2, v0)), (5, (0, v5)), (6, (0, v6)), (7, (0, v7)), (8, (0, v8)), (9, (0, v9))] [(0, z)] ε_1 μ_1) m_F) : G cd_X12_meet Q X 98 [(0, (2, v0)), (5, (0, v5)), (6, (0, v6)), (7, (0, v7)), (8, (0, v8))] [(0, t)] ε μ := by
  refine G_run (m_in [16, 37, 86, 95, 98, 145, 148, 195, 198, 245, 248, 268, 318, 323, 373, 378, 428, 433, 483, 490]) 33 _ _ _ _ ?_
  show m_ty [(0, (2, v0)), (5, (0, v5)), (6, (0, v6)), (7, (0, v7)), (8, (0, v8))] [(0, t)] ε μ → ∀ v9 : Int, v9 = t → (kd ε v0 = 11) ∧ (kd ε (fn ε v0 7) = 100) ∧ ((0 : Int) ≤ v5 ∧ v5 < ln ε (fn ε v0 7)) ∧ (kd ε v0 = 11) ∧ (kd ε (fn ε v0 8) = 100) ∧ ((0 : Int) ≤ v5 ∧ v5 < ln ε (fn ε v0 8)) ∧ (kd ε v0 = 11) ∧ (kd ε (fn ε v0 7) = 100) ∧ ((0 : Int) ≤ v6 ∧ v6 < ln ε (fn ε v0 7)) ∧ (kd ε v0 = 11) ∧ (kd ε (fn ε v0 8) = 100) ∧ ((0 : Int) ≤ v6 ∧ v6 < ln ε (fn ε v0 8)) ∧ (kd ε v0 = 11) ∧ (kd ε (fn ε v0 7) = 100) ∧ ((0 : Int) ≤ v8 ∧ v8 < ln ε (fn ε v0 7)) ∧ (kd ε v0 = 11) ∧ (kd ε (fn ε v0 8) = 100) ∧ ((0 : Int) ≤ v8 ∧ v8 < ln ε (fn ε v0 8)) ∧ o_X12_turn [(0, μ (fn ε v0 7) v5), (0, μ (fn ε v0 8) v5), (0, μ (fn ε v0 7) v6), (0, μ (fn ε v0 8) v6), (0, μ (fn ε v0 7) v8), (0, μ (fn ε v0 8) v8)] ε μ (fun z ε_1 μ_1 => G cd_X12_meet Q X 145 [(0, (2, v0)), (5, (0, v5)), (6, (0, v6)), (7, (0, v7)), (8, (0, v8)), (9, (0, v9))] [(0, z)] ε_1 μ_1) m_F
  intro hty
  replace h := h hty.1 (hty.2.1 _ (List.mem_of_getElem? (i := 1) rfl)) (hty.2.1 _ (List.mem_of_getElem? (i := 2) rfl)) (hty.2.1 _ (List.mem_of_getElem? (i := 3) rfl)) (hty.2.1 _ (List.mem_of_getElem? (i := 4) rfl)) (hty.2.2 _ (List.mem_of_getElem? (i := 0) rfl))
  intro v9 e_v9
  replace h := h v9 e_v9
  obtain ⟨k1, h⟩ := h
  refine And.intro k1 ?_
  obtain ⟨k2, h⟩ := h
  refine And.intro k2 ?_
  obtain ⟨k3, h⟩ := h
  obtain ⟨k4, h⟩ := h
  refine And.intro (And.intro k3 k4) ?_
  refine And.intro k1 ?_
  obtain ⟨k5, h⟩ := h
  refine And.intro k5 ?_
  obtain ⟨k6, h⟩ := h
  refine And.intro (And.intro k3 k6) ?_
  refine And.intro k1 ?_
  refine And.intro k2 ?_
  obtain ⟨k7, h⟩ := h
  obtain ⟨k8, h⟩ := h
  refine And.intro (And.intro k7 k8) ?_
  refine And.intro k1 ?_
  refine And.intro k5 ?_
  obtain ⟨k9, h⟩ := h
  refine And.intro (And.intro k7 k9) ?_
  refine And.intro k1 ?_
  refine And.intro k2 ?_
  obtain ⟨k10, h⟩ := h
  obtain ⟨k11, h⟩ := h
  refine And.intro (And.intro k10 k11) ?_
  refine And.intro k1 ?_
  refine And.intro k5 ?_
  obtain ⟨k12, h⟩ := h
  refine And.intro (And.intro k10 k12) ?_
  exact h
set_option maxRecDepth 20000 in
theorem g_X12_meet_95 {Q X : m_Po} {v0 v5 v6 v7 v8 t : Int} {ε : m_E} {μ : m_M} (h : TY ε μ → i32 v5 → i32 v6 → i32 v7 → i32 v8 → i32 t → o_X12_signOf [(0, t)] ε μ (fun z ε_1 μ_1 => G cd_X12_meet Q X 98 [(0, (2, v0)), (5, (0, v5)), (6, (0, v6)), (7, (0, v7)), (8, (0, v8))] [(0, z)] ε_1 μ_1) m_F) : G cd_X12_meet Q X 95 [(0, (2, v0)), (5, (0, v5)), (6, (0, v6)), (7, (0, v7)), (8, (0, v8))] [(0, t)] ε μ := by
  refine G_run (m_in [16, 37, 86, 95, 98, 145, 148, 195, 198, 245, 248, 268, 318, 323, 373, 378, 428, 433, 483, 490]) 33 _ _ _ _ ?_
  show m_ty [(0, (2, v0)), (5, (0, v5)), (6, (0, v6)), (7, (0, v7)), (8, (0, v8))] [(0, t)] ε μ → o_X12_signOf [(0, t)] ε μ (fun z ε_1 μ_1 => G cd_X12_meet Q X 98 [(0, (2, v0)), (5, (0, v5)), (6, (0, v6)), (7, (0, v7)), (8, (0, v8))] [(0, z)] ε_1 μ_1) m_F
  intro hty
  replace h := h hty.1 (hty.2.1 _ (List.mem_of_getElem? (i := 1) rfl)) (hty.2.1 _ (List.mem_of_getElem? (i := 2) rfl)) (hty.2.1 _ (List.mem_of_getElem? (i := 3) rfl)) (hty.2.1 _ (List.mem_of_getElem? (i := 4) rfl)) (hty.2.2 _ (List.mem_of_getElem? (i := 0) rfl))
  exact h
set_option maxRecDepth 20000 in
theorem g_X12_meet_86 {Q X : m_Po} {v0 v5 v6 v7 v8 t t_1 t_2 t_3 t_4 t_5 : Int} {ε : m_E} {μ : m_M} (h : TY ε μ → i32 v5 → i32 v6 → i32 v7 → i32 v8 → i32 t → i32 t_1 → i32 t_2 → i32 t_3 → i32 t_4 → kd ε t_5 = 11 ∧ kd ε (fn ε t_5 8) = 100 ∧ (0 : Int) ≤ v7 ∧ v7 < ln ε (fn ε t_5 8) ∧ o_X12_turn [(0, t), (0, t_1), (0, t_2), (0, t_3), (0, t_4), (0, μ (fn ε t_5 8) v7)] ε μ (fun z ε_1 μ_1 => G cd_X12_meet Q X 95 [(0, (2, v0)), (5, (0, v5)), (6, (0, v6)), (7, (0, v7)), (8, (0, v8))] [(0, z)] ε_1 μ_1) m_F) : G cd_X12_meet Q X 86 [(0, (2, v0)), (5, (0, v5)), (6, (0, v6)), (7, (0, v7)), (8, (0, v8))] [(2, t_5), (0, t_4), (0, t_3), (0, t_2), (0, t_1), (0, t)] ε μ := by
  refine G_run (m_in [16, 37, 86, 95, 98, 145, 148, 195, 198, 245, 248, 268, 318, 323, 373, 378, 428, 433, 483, 490]) 33 _ _ _ _ ?_
  show m_ty [(0, (2, v0)), (5, (0, v5)), (6, (0, v6)), (7, (0, v7)), (8, (0, v8))] [(2, t_5), (0, t_4), (0, t_3), (0, t_2), (0, t_1), (0, t)] ε μ → (kd ε t_5 = 11) ∧ (kd ε (fn ε t_5 8) = 100) ∧ ((0 : Int) ≤ v7 ∧ v7 < ln ε (fn ε t_5 8)) ∧ o_X12_turn [(0, t), (0, t_1), (0, t_2), (0, t_3), (0, t_4), (0, μ (fn ε t_5 8) v7)] ε μ (fun z ε_1 μ_1 => G cd_X12_meet Q X 95 [(0, (2, v0)), (5, (0, v5)), (6, (0, v6)), (7, (0, v7)), (8, (0, v8))] [(0, z)] ε_1 μ_1) m_F
  intro hty
  replace h := h hty.1 (hty.2.1 _ (List.mem_of_getElem? (i := 1) rfl)) (hty.2.1 _ (List.mem_of_getElem? (i := 2) rfl)) (hty.2.1 _ (List.mem_of_getElem? (i := 3) rfl)) (hty.2.1 _ (List.mem_of_getElem? (i := 4) rfl)) (hty.2.2 _ (List.mem_of_getElem? (i := 5) rfl)) (hty.2.2 _ (List.mem_of_getElem? (i := 4) rfl)) (hty.2.2 _ (List.mem_of_getElem? (i := 3) rfl)) (hty.2.2 _ (List.mem_of_getElem? (i := 2) rfl)) (hty.2.2 _ (List.mem_of_getElem? (i := 1) rfl))
  obtain ⟨k1, h⟩ := h
  refine And.intro k1 ?_
  obtain ⟨k2, h⟩ := h
  refine And.intro k2 ?_
  obtain ⟨k3, h⟩ := h
  obtain ⟨k4, h⟩ := h
  refine And.intro (And.intro k3 k4) ?_
  exact h
set_option maxRecDepth 20000 in
theorem g_X12_meet_37 {Q X : m_Po} {v0 v1 v3 v4 v5 v6 v7 : Int} {ε : m_E} {μ : m_M} (h : TY ε μ → i32 v1 → i32 v3 → i32 v4 → i32 v5 → i32 v6 → i32 v7 → v4 ≠ 0 ∧ ∀ v8 : Int, v8 = w32 ((w32 (12 * v1)) + (Int.tmod (w32 (v3 + 1)) v4)) → kd ε v0 = 11 ∧ kd ε (fn ε v0 7) = 100 ∧ (0 : Int) ≤ v5 ∧ v5 < ln ε (fn ε v0 7) ∧ kd ε (fn ε v0 8) = 100 ∧ v5 < ln ε (fn ε v0 8) ∧ (0 : Int) ≤ v6 ∧ v6 < ln ε (fn ε v0 7) ∧ v6 < ln ε (fn ε v0 8) ∧ (0 : Int) ≤ v7 ∧ v7 < ln ε (fn ε v0 7) ∧ kd ε v0 = 11 ∧ kd ε (fn ε v0 8) = 100 ∧ (0 : Int) ≤ v7 ∧ v7 < ln ε (fn ε v0 8) ∧ o_X12_turn [(0, (μ (fn ε v0 7) v5)), (0, (μ (fn ε v0 8) v5)), (0, (μ (fn ε v0 7) v6)), (0, (μ (fn ε v0 8) v6)), (0, (μ (fn ε v0 7) v7)), (0, μ (fn ε v0 8) v7)] ε μ (fun z ε_1 μ_1 => G cd_X12_meet Q X 95 [(0, (2, v0)), (5, (0, v5)), (6, (0, v6)), (7, (0, v7)), (8, (0, v8))] [(0, z)] ε_1 μ_1) m_F) : G cd_X12_meet Q X 37 [(0, (2, v0)), (1, (0, v1)), (3, (0, v3)), (4, (0, v4)), (5, (0, v5)), (6, (0, v6)), (7, (0, v7))] [] ε μ := by
  refine G_run (m_in [16, 37, 86, 95, 98, 145, 148, 195, 198, 245, 248, 268, 318, 323, 373, 378, 428, 433, 483, 490]) 33 _ _ _ _ ?_
  show m_ty [(0, (2, v0)), (1, (0, v1)), (3, (0, v3)), (4, (0, v4)), (5, (0, v5)), (6, (0, v6)), (7, (0, v7))] [] ε μ → (v4 ≠ 0) ∧ ∀ v8 : Int, v8 = w32 ((w32 (12 * v1)) + (Int.tmod (w32 (v3 + 1)) v4)) → (kd ε v0 = 11) ∧ (kd ε (fn ε v0 7) = 100) ∧ ((0 : Int) ≤ v5 ∧ v5 < ln ε (fn ε v0 7)) ∧ (kd ε v0 = 11) ∧ (kd ε (fn ε v0 8) = 100) ∧ ((0 : Int) ≤ v5 ∧ v5 < ln ε (fn ε v0 8)) ∧ (kd ε v0 = 11) ∧ (kd ε (fn ε v0 7) = 100) ∧ ((0 : Int) ≤ v6 ∧ v6 < ln ε (fn ε v0 7)) ∧ (kd ε v0 = 11) ∧ (kd ε (fn ε v0 8) = 100) ∧ ((0 : Int) ≤ v6 ∧ v6 < ln ε (fn ε v0 8)) ∧ (kd ε v0 = 11) ∧ (kd ε (fn ε v0 7) = 100) ∧ ((0 : Int) ≤ v7 ∧ v7 < ln ε (fn ε v0 7)) ∧ G cd_X12_meet Q X 86 [(0, (2, v0)), (5, (0, v5)), (6, (0, v6)), (7, (0, v7)), (8, (0, v8))] [(2, v0), (0, μ (fn ε v0 7) v7), (0, μ (fn ε v0 8) v6), (0, μ (fn ε v0 7) v6), (0, μ (fn ε v0 8) v5), (0, μ (fn ε v0 7) v5)] ε μ
  intro hty
  replace h := h hty.1 (hty.2.1 _ (List.mem_of_getElem? (i := 1) rfl)) (hty.2.1 _ (List.mem_of_getElem? (i := 2) rfl)) (hty.2.1 _ (List.mem_of_getElem? (i := 3) rfl)) (hty.2.1 _ (List.mem_of_getElem? (i := 4) rfl)) (hty.2.1 _ (List.mem_of_getElem? (i := 5) rfl)) (hty.2.1 _ (List.mem_of_getElem? (i := 6) rfl))
  obtain ⟨k1, h⟩ := h
  refine And.intro k1 ?_
  intro v8 e_v8
  replace h := h v8 e_v8
  obtain ⟨k2, h⟩ := h
  refine And.intro k2 ?_
  obtain ⟨k3, h⟩ := h
  refine And.intro k3 ?_
  obtain ⟨k4, h⟩ := h
  obtain ⟨k5, h⟩ := h
  refine And.intro (And.intro k4 k5) ?_
  refine And.intro k2 ?_
  obtain ⟨k6, h⟩ := h
  refine And.intro k6 ?_
  obtain ⟨k7, h⟩ := h
  refine And.intro (And.intro k4 k7) ?_
  refine And.intro k2 ?_
  refine And.intro k3 ?_
  obtain ⟨k8, h⟩ := h
  obtain ⟨k9, h⟩ := h
  refine And.intro (And.intro k8 k9) ?_
  refine And.intro k2 ?_
  refine And.intro k6 ?_
  obtain ⟨k10, h⟩ := h
  refine And.intro (And.intro k8 k10) ?_
  refine And.intro k2 ?_
  refine And.intro k3 ?_
  obtain ⟨k11, h⟩ := h
  obtain ⟨k12, h⟩ := h
  refine And.intro (And.intro k11 k12) ?_
  exact g_X12_meet_86 (fun _ _ _ _ _ _ _ _ _ _ => h)
set_option maxRecDepth 20000 in
theorem g_X12_meet_16 {Q X : m_Po} {v0 v1 v2 v3 v4 v5 : Int} {ε : m_E} {μ : m_M} (h : TY ε μ → i32 v1 → i32 v2 → i32 v3 → i32 v4 → i32 v5 → v4 ≠ 0 ∧ ∀ v6 : Int, v6 = w32 ((w32 (12 * v1)) + (Int.tmod (w32 (v2 + 1)) v4)) → ∀ v7 : Int, v7 = w32 ((w32 (12 * v1)) + v3) → v4 ≠ 0 ∧ ∀ v8 : Int, v8 = w32 ((w32 (12 * v1)) + (Int.tmod (w32 (v3 + 1)) v4)) → kd ε v0 = 11 ∧ kd ε (fn ε v0 7) = 100 ∧ (0 : Int) ≤ v5 ∧ v5 < ln ε (fn ε v0 7) ∧ kd ε (fn ε v0 8) = 100 ∧ v5 < ln ε (fn ε v0 8) ∧ (0 : Int) ≤ v6 ∧ v6 < ln ε (fn ε v0 7) ∧ v6 < ln ε (fn ε v0 8) ∧ (0 : Int) ≤ v7 ∧ v7 < ln ε (fn ε v0 7) ∧ kd ε v0 = 11 ∧ kd ε (fn ε v0 8) = 100 ∧ (0 : Int) ≤ v7 ∧ v7 < ln ε (fn ε v0 8) ∧ o_X12_turn [(0, (μ (fn ε v0 7) v5)), (0, (μ (fn ε v0 8) v5)), (0, (μ (fn ε v0 7) v6)), (0, (μ (fn ε v0 8) v6)), (0, (μ (fn ε v0 7) v7)), (0, μ (fn ε v0 8) v7)] ε μ (fun z ε_1 μ_1 => G cd_X12_meet Q X 95 [(0, (2, v0)), (5, (0, v5)), (6, (0, v6)), (7, (0, v7)), (8, (0, v8))] [(0, z)] ε_1 μ_1) m_F) : G cd_X12_meet Q X 16 [(0, (2, v0)), (1, (0, v1)), (2, (0, v2)), (3, (0, v3)), (4, (0, v4)), (5, (0, v5))] [] ε μ := by
  refine G_run (m_in [16, 37, 86, 95, 98, 145, 148, 195, 198, 245, 248, 268, 318, 323, 373, 378, 428, 433, 483, 490]) 33 _ _ _ _ ?_
  show m_ty [(0, (2, v0)), (1, (0, v1)), (2, (0, v2)), (3, (0, v3)), (4, (0, v4)), (5, (0, v5))] [] ε μ → (v4 ≠ 0) ∧ ∀ v6 : Int, v6 = w32 ((w32 (12 * v1)) + (Int.tmod (w32 (v2 + 1)) v4)) → ∀ v7 : Int, v7 = w32 ((w32 (12 * v1)) + v3) → G cd_X12_meet Q X 37 [(0, (2, v0)), (1, (0, v1)), (3, (0, v3)), (4, (0, v4)), (5, (0, v5)), (6, (0, v6)), (7, (0, v7))] [] ε μ
  intro hty
  replace h := h hty.1 (hty.2.1 _ (List.mem_of_getElem? (i := 1) rfl)) (hty.2.1 _ (List.mem_of_getElem? (i := 2) rfl)) (hty.2.1 _ (List.mem_of_getElem? (i := 3) rfl)) (hty.2.1 _ (List.mem_of_getElem? (i := 4) rfl)) (hty.2.1 _ (List.mem_of_getElem? (i := 5) rfl))
  obtain ⟨k1, h⟩ := h
  refine And.intro k1 ?_
  intro v6 e_v6
  replace h := h v6 e_v6
  intro v7 e_v7
  replace h := h v7 e_v7
  exact g_X12_meet_37 (fun _ _ _ _ _ _ _ => h)
set_option maxRecDepth 20000 in
theorem g_X12_meet_0 {Q X : m_Po} {v0 v1 v2 v3 : Int} {ε : m_E} {μ : m_M} (h : TY ε μ → i32 v1 → i32 v2 → i32 v3 → kd ε v0 = 11 ∧ kd ε (fn ε v0 6) = 100 ∧ (0 : Int) ≤ v1 ∧ v1 < ln ε (fn ε v0 6) ∧ ∀ v4 : Int, v4 = μ (fn ε v0 6) v1 → ∀ v5 : Int, v5 = w32 ((w32 (12 * v1)) + v2) → v4 ≠ 0 ∧ ∀ v6 : Int, v6 = w32 ((w32 (12 * v1)) + (Int.tmod (w32 (v2 + 1)) v4)) → ∀ v7 : Int, v7 = w32 ((w32 (12 * v1)) + v3) → v4 ≠ 0 ∧ ∀ v8 : Int, v8 = w32 ((w32 (12 * v1)) + (Int.tmod (w32 (v3 + 1)) v4)) → kd ε v0 = 11 ∧ kd ε (fn ε v0 7) = 100 ∧ (0 : Int) ≤ v5 ∧ v5 < ln ε (fn ε v0 7) ∧ kd ε (fn ε v0 8) = 100 ∧ v5 < ln ε (fn ε v0 8) ∧ (0 : Int) ≤ v6 ∧ v6 < ln ε (fn ε v0 7) ∧ v6 < ln ε (fn ε v0 8) ∧ (0 : Int) ≤ v7 ∧ v7 < ln ε (fn ε v0 7) ∧ kd ε v0 = 11 ∧ kd ε (fn ε v0 8) = 100 ∧ (0 : Int) ≤ v7 ∧ v7 < ln ε (fn ε v0 8) ∧ o_X12_turn [(0, (μ (fn ε v0 7) v5)), (0, (μ (fn ε v0 8) v5)), (0, (μ (fn ε v0 7) v6)), (0, (μ (fn ε v0 8) v6)), (0, (μ (fn ε v0 7) v7)), (0, μ (fn ε v0 8) v7)] ε μ (fun z ε_1 μ_1 => G cd_X12_meet Q X 95 [(0, (2, v0)), (5, (0, v5)), (6, (0, v6)), (7, (0, v7)), (8, (0, v8))] [(0, z)] ε_1 μ_1) m_F) : G cd_X12_meet Q X 0 [(0, (2, v0)), (1, (0, v1)), (2, (0, v2)), (3, (0, v3))] [] ε μ := by
  refine G_run (m_in [16, 37, 86, 95, 98, 145, 148, 195, 198, 245, 248, 268, 318, 323, 373, 378, 428, 433, 483, 490]) 33 _ _ _ _ ?_
  show m_ty [(0, (2, v0)), (1, (0, v1)), (2, (0, v2)), (3, (0, v3))] [] ε μ → (kd ε v0 = 11) ∧ (kd ε (fn ε v0 6) = 100) ∧ ((0 : Int) ≤ v1 ∧ v1 < ln ε (fn ε v0 6)) ∧ ∀ v4 : Int, v4 = μ (fn ε v0 6) v1 → ∀ v5 : Int, v5 = w32 ((w32 (12 * v1)) + v2) → G cd_X12_meet Q X 16 [(0, (2, v0)), (1, (0, v1)), (2, (0, v2)), (3, (0, v3)), (4, (0, v4)), (5, (0, v5))] [] ε μ
  intro hty
  replace h := h hty.1 (hty.2.1 _ (List.mem_of_getElem? (i := 1) rfl)) (hty.2.1 _ (List.mem_of_getElem? (i := 2) rfl)) (hty.2.1 _ (List.mem_of_getElem? (i := 3) rfl))
  obtain ⟨k1, h⟩ := h
  refine And.intro k1 ?_
  obtain ⟨k2, h⟩ := h
  refine And.intro k2 ?_
  obtain ⟨k3, h⟩ := h
  obtain ⟨k4, h⟩ := h
  refine And.intro (And.intro k3 k4) ?_
  intro v4 e_v4
  replace h := h v4 e_v4
  intro v5 e_v5
  replace h := h v5 e_v5
  exact g_X12_meet_16 (fun _ _ _ _ _ _ => h)
theorem e_X12_meet {Q X : m_Po} {v0 v1 v2 v3 : Int} {ε : m_E} {μ : m_M} (h : TY ε μ → i32 v1 → i32 v2 → i32 v3 → kd ε v0 = 11 ∧ kd ε (fn ε v0 6) = 100 ∧ (0 : Int) ≤ v1 ∧ v1 < ln ε (fn ε v0 6) ∧ ∀ v4 : Int, v4 = μ (fn ε v0 6) v1 → ∀ v5 : Int, v5 = w32 ((w32 (12 * v1)) + v2) → v4 ≠ 0 ∧ ∀ v6 : Int, v6 = w32 ((w32 (12 * v1)) + (Int.tmod (w32 (v2 + 1)) v4)) → ∀ v7 : Int, v7 = w32 ((w32 (12 * v1)) + v3) → v4 ≠ 0 ∧ ∀ v8 : Int, v8 = w32 ((w32 (12 * v1)) + (Int.tmod (w32 (v3 + 1)) v4)) → kd ε v0 = 11 ∧ kd ε (fn ε v0 7) = 100 ∧ (0 : Int) ≤ v5 ∧ v5 < ln ε (fn ε v0 7) ∧ kd ε (fn ε v0 8) = 100 ∧ v5 < ln ε (fn ε v0 8) ∧ (0 : Int) ≤ v6 ∧ v6 < ln ε (fn ε v0 7) ∧ v6 < ln ε (fn ε v0 8) ∧ (0 : Int) ≤ v7 ∧ v7 < ln ε (fn ε v0 7) ∧ kd ε v0 = 11 ∧ kd ε (fn ε v0 8) = 100 ∧ (0 : Int) ≤ v7 ∧ v7 < ln ε (fn ε v0 8) ∧ o_X12_turn [(0, (μ (fn ε v0 7) v5)), (0, (μ (fn ε v0 8) v5)), (0, (μ (fn ε v0 7) v6)), (0, (μ (fn ε v0 8) v6)), (0, (μ (fn ε v0 7) v7)), (0, μ (fn ε v0 8) v7)] ε μ (fun z ε_1 μ_1 => G cd_X12_meet Q X 95 [(0, (2, v0)), (5, (0, v5)), (6, (0, v6)), (7, (0, v7)), (8, (0, v8))] [(0, z)] ε_1 μ_1) m_F) : o_X12_meet [(2, v0), (0, v1), (0, v2), (0, v3)] ε μ Q X := And.intro rfl (g_X12_meet_0 h)
/-! ArchYardModel.isFolded(II)Z -/
set_option maxRecDepth 20000 in
theorem g_X12_isFolded_160 {Q X : m_Po} {t : Int} {ε : m_E} {μ : m_M} (h : TY ε μ → i32 t → (t = 0 ∨ t = 1) ∧ Q t ε μ) : G cd_X12_isFolded Q X 160 [] [(0, t)] ε μ := by
  refine G_run (m_in [15, 39, 84, 139, 160]) 11 _ _ _ _ ?_
  show m_ty [] [(0, t)] ε μ → (t = 0 ∨ t = 1) ∧ Q t ε μ
  intro hty
  replace h := h hty.1 (hty.2.2 _ (List.mem_of_getElem? (i := 0) rfl))
  obtain ⟨k1, h⟩ := h
  refine And.intro k1 ?_
  exact h
set_option maxRecDepth 20000 in
theorem g_X12_isFolded_139 {Q X : m_Po} {v0 v5 v6 t t_1 t_2 : Int} {ε : m_E} {μ : m_M} (h : TY ε μ → i32 v5 → i32 v6 → i32 t → i32 t_1 → kd ε t_2 = 100 ∧ (0 : Int) ≤ v6 ∧ v6 < ln ε t_2 ∧ kd ε v0 = 11 ∧ kd ε (fn ε v0 8) = 100 ∧ (0 : Int) ≤ v5 ∧ v5 < ln ε (fn ε v0 8) ∧ ∀ t_3 : Int, t_3 = (if 0 ≤ (w32 (t + (w32 (t_1 * (w32 ((μ t_2 v6) - (μ (fn ε v0 8) v5))))))) then 0 else 1) → Q t_3 ε μ) : G cd_X12_isFolded Q X 139 [(0, (2, v0)), (5, (0, v5)), (6, (0, v6))] [(2, t_2), (0, t_1), (0, t)] ε μ := by
  refine G_run (m_in [15, 39, 84, 139, 160]) 11 _ _ _ _ ?_
  show m_ty [(0, (2, v0)), (5, (0, v5)), (6, (0, v6))] [(2, t_2), (0, t_1), (0, t)] ε μ → (kd ε t_2 = 100) ∧ ((0 : Int) ≤ v6 ∧ v6 < ln ε t_2) ∧ (kd ε v0 = 11) ∧ (kd ε (fn ε v0 8) = 100) ∧ ((0 : Int) ≤ v5 ∧ v5 < ln ε (fn ε v0 8)) ∧ (0 ≤ (w32 (t + (w32 (t_1 * (w32 ((μ t_2 v6) - (μ (fn ε v0 8) v5))))))) → (m_ty [] [] ε μ → G cd_X12_isFolded Q X 160 [] [(0, 0)] ε μ)) ∧ ((w32 (t + (w32 (t_1 * (w32 ((μ t_2 v6) - (μ (fn ε v0 8) v5))))))) < 0 → (m_ty [] [] ε μ → G cd_X12_isFolded Q X 160 [] [(0, 1)] ε μ))
  intro hty
  replace h := h hty.1 (hty.2.1 _ (List.mem_of_getElem? (i := 1) rfl)) (hty.2.1 _ (List.mem_of_getElem? (i := 2) rfl)) (hty.2.2 _ (List.mem_of_getElem? (i := 2) rfl)) (hty.2.2 _ (List.mem_of_getElem? (i := 1) rfl))
  obtain ⟨k1, h⟩ := h
  refine And.intro k1 ?_
  obtain ⟨k2, h⟩ := h
  obtain ⟨k3, h⟩ := h
  refine And.intro (And.intro k2 k3) ?_
  obtain ⟨k4, h⟩ := h
  refine And.intro k4 ?_
  obtain ⟨k5, h⟩ := h
  refine And.intro k5 ?_
  obtain ⟨k6, h⟩ := h
  obtain ⟨k7, h⟩ := h
  refine And.intro (And.intro k6 k7) ?_
  have hj := h
  refine And.intro (fun c7 => ?_) (fun c7 => ?_)
  · intro _
    exact g_X12_isFolded_160 (fun _ _ => (And.intro (Or.inl rfl) (hj _ (((if_pos c7).trans rfl)).symm)))
  · intro _
    exact g_X12_isFolded_160 (fun _ _ => (And.intro (Or.inr rfl) (hj _ (((if_neg (Int.not_le.mpr c7)).trans rfl)).symm)))
set_option maxRecDepth 20000 in
theorem g_X12_isFolded_84 {Q X : m_Po} {v0 v4 v5 v6 t : Int} {ε : m_E} {μ : m_M} (h : TY ε μ → i32 v4 → i32 v5 → i32 v6 → i32 t → (t = 0 → kd ε v0 = 11 ∧ kd ε (fn ε v0 7) = 100 ∧ (0 : Int) ≤ v5 ∧ v5 < ln ε (fn ε v0 7) ∧ (0 : Int) ≤ v4 ∧ v4 < ln ε (fn ε v0 7) ∧ (0 : Int) ≤ v6 ∧ v6 < ln ε (fn ε v0 7) ∧ kd ε (fn ε v0 8) = 100 ∧ v5 < ln ε (fn ε v0 8) ∧ v4 < ln ε (fn ε v0 8) ∧ kd ε (fn ε v0 8) = 100 ∧ (0 : Int) ≤ v6 ∧ v6 < ln ε (fn ε v0 8) ∧ kd ε v0 = 11 ∧ kd ε (fn ε v0 8) = 100 ∧ (0 : Int) ≤ v5 ∧ v5 < ln ε (fn ε v0 8) ∧ ∀ t_1 : Int, t_1 = (if 0 ≤ (w32 ((w32 ((w32 ((μ (fn ε v0 7) v5) - (μ (fn ε v0 7) v4))) * (w32 ((μ (fn ε v0 7) v6) - (μ (fn ε v0 7) v5))))) + (w32 ((w32 ((μ (fn ε v0 8) v5) - (μ (fn ε v0 8) v4))) * (w32 ((μ (fn ε v0 8) v6) - (μ (fn ε v0 8) v5))))))) then 0 else 1) → Q t_1 ε μ) ∧ (t ≠ 0 → Q 0 ε μ)) : G cd_X12_isFolded Q X 84 [(0, (2, v0)), (4, (0, v4)), (5, (0, v5)), (6, (0, v6))] [(0, t)] ε μ := by
  refine G_run (m_in [15, 39, 84, 139, 160]) 11 _ _ _ _ ?_
  show m_ty [(0, (2, v0)), (4, (0, v4)), (5, (0, v5)), (6, (0, v6))] [(0, t)] ε μ → (t = 0 → (m_ty [(0, (2, v0)), (4, (0, v4)), (5, (0, v5)), (6, (0, v6))] [] ε μ → (kd ε v0 = 11) ∧ (kd ε (fn ε v0 7) = 100) ∧ ((0 : Int) ≤ v5 ∧ v5 < ln ε (fn ε v0 7)) ∧ (kd ε v0 = 11) ∧ (kd ε (fn ε v0 7) = 100) ∧ ((0 : Int) ≤ v4 ∧ v4 < ln ε (fn ε v0 7)) ∧ (kd ε v0 = 11) ∧ (kd ε (fn ε v0 7) = 100) ∧ ((0 : Int) ≤ v6 ∧ v6 < ln ε (fn ε v0 7)) ∧ (kd ε v0 = 11) ∧ (kd ε (fn ε v0 7) = 100) ∧ ((0 : Int) ≤ v5 ∧ v5 < ln ε (fn ε v0 7)) ∧ (kd ε v0 = 11) ∧ (kd ε (fn ε v0 8) = 100) ∧ ((0 : Int) ≤ v5 ∧ v5 < ln ε (fn ε v0 8)) ∧ (kd ε v0 = 11) ∧ (kd ε (fn ε v0 8) = 100) ∧ ((0 : Int) ≤ v4 ∧ v4 < ln ε (fn ε v0 8)) ∧ (kd ε v0 = 11) ∧ G cd_X12_isFolded Q X 139 [(0, (2, v0)), (5, (0, v5)), (6, (0, v6))] [(2, fn ε v0 8), (0, w32 ((μ (fn ε v0 8) v5) - (μ (fn ε v0 8) v4))), (0, w32 ((w32 ((μ (fn ε v0 7) v5) - (μ (fn ε v0 7) v4))) * (w32 ((μ (fn ε v0 7) v6) - (μ (fn ε v0 7) v5)))))] ε μ)) ∧ (t ≠ 0 → (m_ty [] [] ε μ → (0 = 0 ∨ 0 = 1) ∧ Q 0 ε μ))
  intro hty
  replace h := h hty.1 (hty.2.1 _ (List.mem_of_getElem? (i := 1) rfl)) (hty.2.1 _ (List.mem_of_getElem? (i := 2) rfl)) (hty.2.1 _ (List.mem_of_getElem? (i := 3) rfl)) (hty.2.2 _ (List.mem_of_getElem? (i := 0) rfl))
  obtain ⟨ha, hb⟩ := h
  refine And.intro (fun c20 => ?_) (fun c20 => ?_)
  · replace h := ha c20
    clear ha hb
    intro _
    obtain ⟨k1, h⟩ := h
    refine And.intro k1 ?_
    obtain ⟨k2, h⟩ := h
    refine And.intro k2 ?_
    obtain ⟨k3, h⟩ := h
    obtain ⟨k4, h⟩ := h
    refine And.intro (And.intro k3 k4) ?_
    refine And.intro k1 ?_
    refine And.intro k2 ?_
    obtain ⟨k5, h⟩ := h
    obtain ⟨k6, h⟩ := h
    refine And.intro (And.intro k5 k6) ?_
    refine And.intro k1 ?_
    refine And.intro k2 ?_
    obtain ⟨k7, h⟩ := h
    obtain ⟨k8, h⟩ := h
    refine And.intro (And.intro k7 k8) ?_
    refine And.intro k1 ?_
    refine And.intro k2 ?_
    refine And.intro (And.intro k3 k4) ?_
    refine And.intro k1 ?_
    obtain ⟨k9, h⟩ := h
    refine And.intro k9 ?_
    obtain ⟨k10, h⟩ := h
    refine And.intro (And.intro k3 k10) ?_
    refine And.intro k1 ?_
    refine And.intro k9 ?_
    obtain ⟨k11, h⟩ := h
    refine And.intro (And.intro k5 k11) ?_
    refine And.intro k1 ?_
    exact g_X12_isFolded_139 (fun _ _ _ _ _ => h)
  · replace h := hb c20
    clear ha hb
    intro _
    refine And.intro (Or.inl rfl) ?_
    exact h
set_option maxRecDepth 20000 in
theorem g_X12_isFolded_39 {Q X : m_Po} {v0 v4 v5 v6 : Int} {ε : m_E} {μ : m_M} (h : TY ε μ → i32 v4 → i32 v5 → i32 v6 → kd ε v0 = 11 ∧ kd ε (fn ε v0 7) = 100 ∧ (0 : Int) ≤ v4 ∧ v4 < ln ε (fn ε v0 7) ∧ kd ε (fn ε v0 8) = 100 ∧ v4 < ln ε (fn ε v0 8) ∧ (0 : Int) ≤ v5 ∧ v5 < ln ε (fn ε v0 7) ∧ v5 < ln ε (fn ε v0 8) ∧ (0 : Int) ≤ v6 ∧ v6 < ln ε (fn ε v0 7) ∧ v6 < ln ε (fn ε v0 8) ∧ o_X12_turn [(0, μ (fn ε v0 7) v4), (0, μ (fn ε v0 8) v4), (0, μ (fn ε v0 7) v5), (0, μ (fn ε v0 8) v5), (0, μ (fn ε v0 7) v6), (0, μ (fn ε v0 8) v6)] ε μ (fun z ε_1 μ_1 => G cd_X12_isFolded Q X 84 [(0, (2, v0)), (4, (0, v4)), (5, (0, v5)), (6, (0, v6))] [(0, z)] ε_1 μ_1) m_F) : G cd_X12_isFolded Q X 39 [(0, (2, v0)), (4, (0, v4)), (5, (0, v5)), (6, (0, v6))] [] ε μ := by
  refine G_run (m_in [15, 39, 84, 139, 160]) 11 _ _ _ _ ?_
  show m_ty [(0, (2, v0)), (4, (0, v4)), (5, (0, v5)), (6, (0, v6))] [] ε μ → (kd ε v0 = 11) ∧ (kd ε (fn ε v0 7) = 100) ∧ ((0 : Int) ≤ v4 ∧ v4 < ln ε (fn ε v0 7)) ∧ (kd ε v0 = 11) ∧ (kd ε (fn ε v0 8) = 100) ∧ ((0 : Int) ≤ v4 ∧ v4 < ln ε (fn ε v0 8)) ∧ (kd ε v0 = 11) ∧ (kd ε (fn ε v0 7) = 100) ∧ ((0 : Int) ≤ v5 ∧ v5 < ln ε (fn ε v0 7)) ∧ (kd ε v0 = 11) ∧ (kd ε (fn ε v0 8) = 100) ∧ ((0 : Int) ≤ v5 ∧ v5 < ln ε (fn ε v0 8)) ∧ (kd ε v0 = 11) ∧ (kd ε (fn ε v0 7) = 100) ∧ ((0 : Int) ≤ v6 ∧ v6 < ln ε (fn ε v0 7)) ∧ (kd ε v0 = 11) ∧ (kd ε (fn ε v0 8) = 100) ∧ ((0 : Int) ≤ v6 ∧ v6 < ln ε (fn ε v0 8)) ∧ o_X12_turn [(0, μ (fn ε v0 7) v4), (0, μ (fn ε v0 8) v4), (0, μ (fn ε v0 7) v5), (0, μ (fn ε v0 8) v5), (0, μ (fn ε v0 7) v6), (0, μ (fn ε v0 8) v6)] ε μ (fun z ε_1 μ_1 => G cd_X12_isFolded Q X 84 [(0, (2, v0)), (4, (0, v4)), (5, (0, v5)), (6, (0, v6))] [(0, z)] ε_1 μ_1) m_F
  intro hty
  replace h := h hty.1 (hty.2.1 _ (List.mem_of_getElem? (i := 1) rfl)) (hty.2.1 _ (List.mem_of_getElem? (i := 2) rfl)) (hty.2.1 _ (List.mem_of_getElem? (i := 3) rfl))
  obtain ⟨k1, h⟩ := h
  refine And.intro k1 ?_
  obtain ⟨k2, h⟩ := h
  refine And.intro k2 ?_
  obtain ⟨k3, h⟩ := h
  obtain ⟨k4, h⟩ := h
  refine And.intro (And.intro k3 k4) ?_
  refine And.intro k1 ?_
  obtain ⟨k5, h⟩ := h
  refine And.intro k5 ?_
  obtain ⟨k6, h⟩ := h
  refine And.intro (And.intro k3 k6) ?_
  refine And.intro k1 ?_
  refine And.intro k2 ?_
  obtain ⟨k7, h⟩ := h
  obtain ⟨k8, h⟩ := h
  refine And.intro (And.intro k7 k8) ?_
  refine And.intro k1 ?_
  refine And.intro k5 ?_
  obtain ⟨k9, h⟩ := h
  refine And.intro (And.intro k7 k9) ?_
  refine And.intro k1 ?_
  refine And.intro k2 ?_
  obtain ⟨k10, h⟩ := h
  obtain ⟨k11, h⟩ := h
  refine And.intro (And.intro k10 k11) ?_
  refine And.intro k1 ?_
  refine And.intro k5 ?_
  obtain ⟨k12, h⟩ := h
  refine And.intro (And.intro k10 k12) ?_
  exact h
set_option maxRecDepth 20000 in
theorem g_X12_isFolded_15 {Q X : m_Po} {v0 v1 v2 v3 v4 : Int} {ε : m_E} {μ : m_M} (h : TY ε μ → i32 v1 → i32 v2 → i32 v3 → i32 v4 → v3 ≠ 0 ∧ ∀ v5 : Int, v5 = w32 ((w32 (12 * v1)) + (Int.tmod (w32 (v2 + 1)) v3)) → ∀ v6 : Int, v6 = w32 ((w32 (12 * v1)) + (Int.tmod (w32 (v2 + 2)) v3)) → kd ε v0 = 11 ∧ kd ε (fn ε v0 7) = 100 ∧ (0 : Int) ≤ v4 ∧ v4 < ln ε (fn ε v0 7) ∧ kd ε (fn ε v0 8) = 100 ∧ v4 < ln ε (fn ε v0 8) ∧ (0 : Int) ≤ v5 ∧ v5 < ln ε (fn ε v0 7) ∧ v5 < ln ε (fn ε v0 8) ∧ (0 : Int) ≤ v6 ∧ v6 < ln ε (fn ε v0 7) ∧ v6 < ln ε (fn ε v0 8) ∧ o_X12_turn [(0, μ (fn ε v0 7) v4), (0, μ (fn ε v0 8) v4), (0, μ (fn ε v0 7) v5), (0, μ (fn ε v0 8) v5), (0, μ (fn ε v0 7) v6), (0, μ (fn ε v0 8) v6)] ε μ (fun z ε_1 μ_1 => G cd_X12_isFolded Q X 84 [(0, (2, v0)), (4, (0, v4)), (5, (0, v5)), (6, (0, v6))] [(0, z)] ε_1 μ_1) m_F) : G cd_X12_isFolded Q X 15 [(0, (2, v0)), (1, (0, v1)), (2, (0, v2)), (3, (0, v3)), (4, (0, v4))] [] ε μ := by
  refine G_run (m_in [15, 39, 84, 139, 160]) 11 _ _ _ _ ?_
  show m_ty [(0, (2, v0)), (1, (0, v1)), (2, (0, v2)), (3, (0, v3)), (4, (0, v4))] [] ε μ → (v3 ≠ 0) ∧ ∀ v5 : Int, v5 = w32 ((w32 (12 * v1)) + (Int.tmod (w32 (v2 + 1)) v3)) → (v3 ≠ 0) ∧ ∀ v6 : Int, v6 = w32 ((w32 (12 * v1)) + (Int.tmod (w32 (v2 + 2)) v3)) → G cd_X12_isFolded Q X 39 [(0, (2, v0)), (4, (0, v4)), (5, (0, v5)), (6, (0, v6))] [] ε μ
  intro hty
  replace h := h hty.1 (hty.2.1 _ (List.mem_of_getElem? (i := 1) rfl)) (hty.2.1 _ (List.mem_of_getElem? (i := 2) rfl)) (hty.2.1 _ (List.mem_of_getElem? (i := 3) rfl)) (hty.2.1 _ (List.mem_of_getElem? (i := 4) rfl))
  obtain ⟨k1, h⟩ := h
  refine And.intro k1 ?_
  intro v5 e_v5
  replace h := h v5 e_v5
  refine And.intro k1 ?_
  intro v6 e_v6
  replace h := h v6 e_v6
  exact g_X12_isFolded_39 (fun _ _ _ _ => h)
set_option maxRecDepth 20000 in
theorem g_X12_isFolded_0 {Q X : m_Po} {v0 v1 v2 : Int} {ε : m_E} {μ : m_M} (h : TY ε μ → i32 v1 → i32 v2 → kd ε v0 = 11 ∧ kd ε (fn ε v0 6) = 100 ∧ (0 : Int) ≤ v1 ∧ v1 < ln ε (fn ε v0 6) ∧ ∀ v3 : Int, v3 = μ (fn ε v0 6) v1 → ∀ v4 : Int, v4 = w32 ((w32 (12 * v1)) + v2) → v3 ≠ 0 ∧ ∀ v5 : Int, v5 = w32 ((w32 (12 * v1)) + (Int.tmod (w32 (v2 + 1)) v3)) → ∀ v6 : Int, v6 = w32 ((w32 (12 * v1)) + (Int.tmod (w32 (v2 + 2)) v3)) → kd ε v0 = 11 ∧ kd ε (fn ε v0 7) = 100 ∧ (0 : Int) ≤ v4 ∧ v4 < ln ε (fn ε v0 7) ∧ kd ε (fn ε v0 8) = 100 ∧ v4 < ln ε (fn ε v0 8) ∧ (0 : Int) ≤ v5 ∧ v5 < ln ε (fn ε v0 7) ∧ v5 < ln ε (fn ε v0 8) ∧ (0 : Int) ≤ v6 ∧ v6 < ln ε (fn ε v0 7) ∧ v6 < ln ε (fn ε v0 8) ∧ o_X12_turn [(0, μ (fn ε v0 7) v4), (0, μ (fn ε v0 8) v4), (0, μ (fn ε v0 7) v5), (0, μ (fn ε v0 8) v5), (0, μ (fn ε v0 7) v6), (0, μ (fn ε v0 8) v6)] ε μ (fun z ε_1 μ_1 => G cd_X12_isFolded Q X 84 [(0, (2, v0)), (4, (0, v4)), (5, (0, v5)), (6, (0, v6))] [(0, z)] ε_1 μ_1) m_F) : G cd_X12_isFolded Q X 0 [(0, (2, v0)), (1, (0, v1)), (2, (0, v2))] [] ε μ := by
  refine G_run (m_in [15, 39, 84, 139, 160]) 11 _ _ _ _ ?_
  show m_ty [(0, (2, v0)), (1, (0, v1)), (2, (0, v2))] [] ε μ → (kd ε v0 = 11) ∧ (kd ε (fn ε v0 6) = 100) ∧ ((0 : Int) ≤ v1 ∧ v1 < ln ε (fn ε v0 6)) ∧ ∀ v3 : Int, v3 = μ (fn ε v0 6) v1 → ∀ v4 : Int, v4 = w32 ((w32 (12 * v1)) + v2) → G cd_X12_isFolded Q X 15 [(0, (2, v0)), (1, (0, v1)), (2, (0, v2)), (3, (0, v3)), (4, (0, v4))] [] ε μ
  intro hty
  replace h := h hty.1 (hty.2.1 _ (List.mem_of_getElem? (i := 1) rfl)) (hty.2.1 _ (List.mem_of_getElem? (i := 2) rfl))
  obtain ⟨k1, h⟩ := h
  refine And.intro k1 ?_
  obtain ⟨k2, h⟩ := h
  refine And.intro k2 ?_
  obtain ⟨k3, h⟩ := h
  obtain ⟨k4, h⟩ := h
  refine And.intro (And.intro k3 k4) ?_
  intro v3 e_v3
  replace h := h v3 e_v3
  intro v4 e_v4
  replace h := h v4 e_v4
  exact g_X12_isFolded_15 (fun _ _ _ _ _ => h)
theorem e_X12_isFolded {Q X : m_Po} {v0 v1 v2 : Int} {ε : m_E} {μ : m_M} (h : TY ε μ → i32 v1 → i32 v2 → kd ε v0 = 11 ∧ kd ε (fn ε v0 6) = 100 ∧ (0 : Int) ≤ v1 ∧ v1 < ln ε (fn ε v0 6) ∧ ∀ v3 : Int, v3 = μ (fn ε v0 6) v1 → ∀ v4 : Int, v4 = w32 ((w32 (12 * v1)) + v2) → v3 ≠ 0 ∧ ∀ v5 : Int, v5 = w32 ((w32 (12 * v1)) + (Int.tmod (w32 (v2 + 1)) v3)) → ∀ v6 : Int, v6 = w32 ((w32 (12 * v1)) + (Int.tmod (w32 (v2 + 2)) v3)) → kd ε v0 = 11 ∧ kd ε (fn ε v0 7) = 100 ∧ (0 : Int) ≤ v4 ∧ v4 < ln ε (fn ε v0 7) ∧ kd ε (fn ε v0 8) = 100 ∧ v4 < ln ε (fn ε v0 8) ∧ (0 : Int) ≤ v5 ∧ v5 < ln ε (fn ε v0 7) ∧ v5 < ln ε (fn ε v0 8) ∧ (0 : Int) ≤ v6 ∧ v6 < ln ε (fn ε v0 7) ∧ v6 < ln ε (fn ε v0 8) ∧ o_X12_turn [(0, μ (fn ε v0 7) v4), (0, μ (fn ε v0 8) v4), (0, μ (fn ε v0 7) v5), (0, μ (fn ε v0 8) v5), (0, μ (fn ε v0 7) v6), (0, μ (fn ε v0 8) v6)] ε μ (fun z ε_1 μ_1 => G cd_X12_isFolded Q X 84 [(0, (2, v0)), (4, (0, v4)), (5, (0, v5)), (6, (0, v6))] [(0, z)] ε_1 μ_1) m_F) : o_X12_isFolded [(2, v0), (0, v1), (0, v2)] ε μ Q X := And.intro rfl (g_X12_isFolded_0 h)
/-! ArchYardModel.isShape(I)Z -/
set_option maxRecDepth 20000 in
theorem g_X12_isShape_204 {Q X : m_Po} {t : Int} {ε : m_E} {μ : m_M} (h : TY ε μ → i32 t → (t = 0 ∨ t = 1) ∧ Q t ε μ) : G cd_X12_isShape Q X 204 [] [(0, t)] ε μ := by
  refine G_run (m_in [9, 12, 40, 76, 113, 119, 132, 143, 162, 171, 176, 204]) 28 _ _ _ _ ?_
  show m_ty [] [(0, t)] ε μ → (t = 0 ∨ t = 1) ∧ Q t ε μ
  intro hty
  replace h := h hty.1 (hty.2.2 _ (List.mem_of_getElem? (i := 0) rfl))
  obtain ⟨k1, h⟩ := h
  refine And.intro k1 ?_
  exact h
set_option maxRecDepth 20000 in
theorem g_X12_isShape_176 {Q X : m_Po} {v0 v1 v2 v3 v4 v5 : Int} {ε : m_E} {μ : m_M} (h : TY ε μ → i32 v1 → i32 v2 → i32 v3 → i32 v4 → i32 v5 → ∀ v5_1 : Int, v5_1 = w32 (v5 + 1) → G cd_X12_isShape Q X 143 [(0, (2, v0)), (1, (0, v1)), (2, (0, v2)), (3, (0, v3)), (4, (0, v4)), (5, (0, v5_1))] [] ε μ) : G cd_X12_isShape Q X 176 [(0, (2, v0)), (1, (0, v1)), (2, (0, v2)), (3, (0, v3)), (4, (0, v4)), (5, (0, v5))] [] ε μ := by
  refine G_run (m_in [9, 12, 40, 76, 113, 119, 132, 143, 162, 171, 176, 204]) 28 _ _ _ _ ?_
  show m_ty [(0, (2, v0)), (1, (0, v1)), (2, (0, v2)), (3, (0, v3)), (4, (0, v4)), (5, (0, v5))] [] ε μ → ∀ v5_1 : Int, v5_1 = w32 (v5 + 1) → G cd_X12_isShape Q X 143 [(0, (2, v0)), (1, (0, v1)), (2, (0, v2)), (3, (0, v3)), (4, (0, v4)), (5, (0, v5_1))] [] ε μ
  intro hty
  replace h := h hty.1 (hty.2.1 _ (List.mem_of_getElem? (i := 1) rfl)) (hty.2.1 _ (List.mem_of_getElem? (i := 2) rfl)) (hty.2.1 _ (List.mem_of_getElem? (i := 3) rfl)) (hty.2.1 _ (List.mem_of_getElem? (i := 4) rfl)) (hty.2.1 _ (List.mem_of_getElem? (i := 5) rfl))
  intro v5_1 e_v5_1
  replace h := h v5_1 e_v5_1
  exact h
set_option maxRecDepth 20000 in
theorem g_X12_isShape_171 {Q X : m_Po} {v0 v1 v2 v3 v4 v5 t : Int} {ε : m_E} {μ : m_M} (h : TY ε μ → i32 v1 → i32 v2 → i32 v3 → i32 v4 → i32 v5 → i32 t → (t = 0 → G cd_X12_isShape Q X 176 [(0, (2, v0)), (1, (0, v1)), (2, (0, v2)), (3, (0, v3)), (4, (0, v4)), (5, (0, v5))] [] ε μ) ∧ (t ≠ 0 → Q 0 ε μ)) : G cd_X12_isShape Q X 171 [(0, (2, v0)), (1, (0, v1)), (2, (0, v2)), (3, (0, v3)), (4, (0, v4)), (5, (0, v5))] [(0, t)] ε μ := by
  refine G_run (m_in [9, 12, 40, 76, 113, 119, 132, 143, 162, 171, 176, 204]) 28 _ _ _ _ ?_
  show m_ty [(0, (2, v0)), (1, (0, v1)), (2, (0, v2)), (3, (0, v3)), (4, (0, v4)), (5, (0, v5))] [(0, t)] ε μ → (t = 0 → G cd_X12_isShape Q X 176 [(0, (2, v0)), (1, (0, v1)), (2, (0, v2)), (3, (0, v3)), (4, (0, v4)), (5, (0, v5))] [] ε μ) ∧ (t ≠ 0 → (m_ty [] [] ε μ → (0 = 0 ∨ 0 = 1) ∧ Q 0 ε μ))
  intro hty
  replace h := h hty.1 (hty.2.1 _ (List.mem_of_getElem? (i := 1) rfl)) (hty.2.1 _ (List.mem_of_getElem? (i := 2) rfl)) (hty.2.1 _ (List.mem_of_getElem? (i := 3) rfl)) (hty.2.1 _ (List.mem_of_getElem? (i := 4) rfl)) (hty.2.1 _ (List.mem_of_getElem? (i := 5) rfl)) (hty.2.2 _ (List.mem_of_getElem? (i := 0) rfl))
  obtain ⟨ha, hb⟩ := h
  refine And.intro (fun c0 => ?_) (fun c0 => ?_)
  · replace h := ha c0
    clear ha hb
    exact h
  · replace h := hb c0
    clear ha hb
    intro _
    refine And.intro (Or.inl rfl) ?_
    exact h
set_option maxRecDepth 20000 in
theorem g_X12_isShape_162 {Q X : m_Po} {v0 v1 v2 v3 v4 v5 : Int} {ε : m_E} {μ : m_M} (h : TY ε μ → i32 v1 → i32 v2 → i32 v3 → i32 v4 → i32 v5 → kd ε v0 = 11 ∧ o_X12_meet [(2, v0), (0, v1), (0, v4), (0, v5)] ε μ (fun z ε_1 μ_1 => G cd_X12_isShape Q X 171 [(0, (2, v0)), (1, (0, v1)), (2, (0, v2)), (3, (0, v3)), (4, (0, v4)), (5, (0, v5))] [(0, z)] ε_1 μ_1) m_F) : G cd_X12_isShape Q X 162 [(0, (2, v0)), (1, (0, v1)), (2, (0, v2)), (3, (0, v3)), (4, (0, v4)), (5, (0, v5))] [] ε μ := by
  refine G_run (m_in [9, 12, 40, 76, 113, 119, 132, 143, 162, 171, 176, 204]) 28 _ _ _ _ ?_
  show m_ty [(0, (2, v0)), (1, (0, v1)), (2, (0, v2)), (3, (0, v3)), (4, (0, v4)), (5, (0, v5))] [] ε μ → (kd ε v0 = 11) ∧ o_X12_meet [(2, v0), (0, v1), (0, v4), (0, v5)] ε μ (fun z ε_1 μ_1 => G cd_X12_isShape Q X 171 [(0, (2, v0)), (1, (0, v1)), (2, (0, v2)), (3, (0, v3)), (4, (0, v4)), (5, (0, v5))] [(0, z)] ε_1 μ_1) m_F
  intro hty
  replace h := h hty.1 (hty.2.1 _ (List.mem_of_getElem? (i := 1) rfl)) (hty.2.1 _ (List.mem_of_getElem? (i := 2) rfl)) (hty.2.1 _ (List.mem_of_getElem? (i := 3) rfl)) (hty.2.1 _ (List.mem_of_getElem? (i := 4) rfl)) (hty.2.1 _ (List.mem_of_getElem? (i := 5) rfl))
  obtain ⟨k1, h⟩ := h
  refine And.intro k1 ?_
  exact h
set_option maxRecDepth 20000 in
theorem g_X12_isShape_143 {Q X : m_Po} {v0 v1 v2 v3 v4 v5 : Int} {ε : m_E} {μ : m_M} (h : TY ε μ → i32 v1 → i32 v2 → i32 v3 → i32 v4 → i32 v5 → (v2 ≤ v5 → ∀ v4_1 : Int, v4_1 = w32 (v4 + 1) → G cd_X12_isShape Q X 119 [(0, (2, v0)), (1, (0, v1)), (2, (0, v2)), (3, (0, v3)), (4, (0, v4_1))] [] ε μ) ∧ (v5 < v2 → (0 < v4 → G cd_X12_isShape Q X 162 [(0, (2, v0)), (1, (0, v1)), (2, (0, v2)), (3, (0, v3)), (4, (0, v4)), (5, (0, v5))] [] ε μ) ∧ (v4 ≤ 0 → ((w32 (v2 - 1)) ≤ v5 → G cd_X12_isShape Q X 176 [(0, (2, v0)), (1, (0, v1)), (2, (0, v2)), (3, (0, v3)), (4, (0, v4)), (5, (0, v5))] [] ε μ) ∧ (v5 < (w32 (v2 - 1)) → G cd_X12_isShape Q X 162 [(0, (2, v0)), (1, (0, v1)), (2, (0, v2)), (3, (0, v3)), (4, (0, v4)), (5, (0, v5))] [] ε μ)))) : G cd_X12_isShape Q X 143 [(0, (2, v0)), (1, (0, v1)), (2, (0, v2)), (3, (0, v3)), (4, (0, v4)), (5, (0, v5))] [] ε μ := by
  refine G_run (m_in [9, 12, 40, 76, 113, 119, 132, 143, 162, 171, 176, 204]) 28 _ _ _ _ ?_
  show m_ty [(0, (2, v0)), (1, (0, v1)), (2, (0, v2)), (3, (0, v3)), (4, (0, v4)), (5, (0, v5))] [] ε μ → (v2 ≤ v5 → (m_ty [(0, (2, v0)), (1, (0, v1)), (2, (0, v2)), (3, (0, v3)), (4, (0, v4))] [] ε μ → ∀ v4_1 : Int, v4_1 = w32 (v4 + 1) → G cd_X12_isShape Q X 119 [(0, (2, v0)), (1, (0, v1)), (2, (0, v2)), (3, (0, v3)), (4, (0, v4_1))] [] ε μ)) ∧ (v5 < v2 → (m_ty [(0, (2, v0)), (1, (0, v1)), (2, (0, v2)), (3, (0, v3)), (4, (0, v4)), (5, (0, v5))] [] ε μ → (0 < v4 → G cd_X12_isShape Q X 162 [(0, (2, v0)), (1, (0, v1)), (2, (0, v2)), (3, (0, v3)), (4, (0, v4)), (5, (0, v5))] [] ε μ) ∧ (v4 ≤ 0 → (m_ty [(0, (2, v0)), (1, (0, v1)), (2, (0, v2)), (3, (0, v3)), (4, (0, v4)), (5, (0, v5))] [] ε μ → ((w32 (v2 - 1)) ≤ v5 → G cd_X12_isShape Q X 176 [(0, (2, v0)), (1, (0, v1)), (2, (0, v2)), (3, (0, v3)), (4, (0, v4)), (5, (0, v5))] [] ε μ) ∧ (v5 < (w32 (v2 - 1)) → G cd_X12_isShape Q X 162 [(0, (2, v0)), (1, (0, v1)), (2, (0, v2)), (3, (0, v3)), (4, (0, v4)), (5, (0, v5))] [] ε μ)))))
  intro hty
  replace h := h hty.1 (hty.2.1 _ (List.mem_of_getElem? (i := 1) rfl)) (hty.2.1 _ (List.mem_of_getElem? (i := 2) rfl)) (hty.2.1 _ (List.mem_of_getElem? (i := 3) rfl)) (hty.2.1 _ (List.mem_of_getElem? (i := 4) rfl)) (hty.2.1 _ (List.mem_of_getElem? (i := 5) rfl))
  obtain ⟨ha, hb⟩ := h
  refine And.intro (fun c2 => ?_) (fun c2 => ?_)
  · replace h := ha c2
    clear ha hb
    intro _
    intro v4_1 e_v4_1
    replace h := h v4_1 e_v4_1
    exact h
  · replace h := hb c2
    clear ha hb
    intro _
    obtain ⟨ha, hb⟩ := h
    refine And.intro (fun c1 => ?_) (fun c1 => ?_)
    · replace h := ha c1
      clear ha hb
      exact h
    · replace h := hb c1
      clear ha hb
      intro _
      obtain ⟨ha, hb⟩ := h
      refine And.intro (fun c0 => ?_) (fun c0 => ?_)
      · replace h := ha c0
        clear ha hb
        exact h
      · replace h := hb c0
        clear ha hb
        exact h
set_option maxRecDepth 20000 in
theorem g_X12_isShape_132 {Q X : m_Po} {v0 v1 v2 v3 v4 t : Int} {ε : m_E} {μ : m_M} (h : TY ε μ → i32 v1 → i32 v2 → i32 v3 → i32 v4 → i32 t → (t = 0 → ∀ v5 : Int, v5 = w32 (v4 + 2) → G cd_X12_isShape Q X 143 [(0, (2, v0)), (1, (0, v1)), (2, (0, v2)), (3, (0, v3)), (4, (0, v4)), (5, (0, v5))] [] ε μ) ∧ (t ≠ 0 → Q 0 ε μ)) : G cd_X12_isShape Q X 132 [(0, (2, v0)), (1, (0, v1)), (2, (0, v2)), (3, (0, v3)), (4, (0, v4))] [(0, t)] ε μ := by
  refine G_run (m_in [9, 12, 40, 76, 113, 119, 132, 143, 162, 171, 176, 204]) 28 _ _ _ _ ?_
  show m_ty [(0, (2, v0)), (1, (0, v1)), (2, (0, v2)), (3, (0, v3)), (4, (0, v4))] [(0, t)] ε μ → (t = 0 → (m_ty [(0, (2, v0)), (1, (0, v1)), (2, (0, v2)), (3, (0, v3)), (4, (0, v4))] [] ε μ → ∀ v5 : Int, v5 = w32 (v4 + 2) → G cd_X12_isShape Q X 143 [(0, (2, v0)), (1, (0, v1)), (2, (0, v2)), (3, (0, v3)), (4, (0, v4)), (5, (0, v5))] [] ε μ)) ∧ (t ≠ 0 → (m_ty [] [] ε μ → (0 = 0 ∨ 0 = 1) ∧ Q 0 ε μ))
  intro hty
  replace h := h hty.1 (hty.2.1 _ (List.mem_of_getElem? (i := 1) rfl)) (hty.2.1 _ (List.mem_of_getElem? (i := 2) rfl)) (hty.2.1 _ (List.mem_of_getElem? (i := 3) rfl)) (hty.2.1 _ (List.mem_of_getElem? (i := 4) rfl)) (hty.2.2 _ (List.mem_of_getElem? (i := 0) rfl))
  obtain ⟨ha, hb⟩ := h
  refine And.intro (fun c0 => ?_) (fun c0 => ?_)
  · replace h := ha c0
    clear ha hb
    intro _
    intro v5 e_v5
    replace h := h v5 e_v5
    exact h
  · replace h := hb c0
    clear ha hb
    intro _
    refine And.intro (Or.inl rfl) ?_
    exact h
set_option maxRecDepth 20000 in
theorem g_X12_isShape_119 {Q X : m_Po} {v0 v1 v2 v3 v4 : Int} {ε : m_E} {μ : m_M} (h : TY ε μ → i32 v1 → i32 v2 → i32 v3 → i32 v4 → (v2 ≤ v4 → kd ε v0 = 11 ∧ kd ε (fn ε v0 9) = 100 ∧ (0 : Int) ≤ v1 ∧ v1 < ln ε (fn ε v0 9) ∧ ∀ μ_1 : m_M, μ_1 = st μ (fn ε v0 9) v1 v3 → ∀ t : Int, t = (if v3 ≤ 0 then 0 else 1) → Q t ε μ_1) ∧ (v4 < v2 → kd ε v0 = 11 ∧ o_X12_isFolded [(2, v0), (0, v1), (0, v4)] ε μ (fun z ε_1 μ_2 => G cd_X12_isShape Q X 132 [(0, (2, v0)), (1, (0, v1)), (2, (0, v2)), (3, (0, v3)), (4, (0, v4))] [(0, z)] ε_1 μ_2) m_F)) : G cd_X12_isShape Q X 119 [(0, (2, v0)), (1, (0, v1)), (2, (0, v2)), (3, (0, v3)), (4, (0, v4))] [] ε μ := by
  refine G_run (m_in [9, 12, 40, 76, 113, 119, 132, 143, 162, 171, 176, 204]) 28 _ _ _ _ ?_
  show m_ty [(0, (2, v0)), (1, (0, v1)), (2, (0, v2)), (3, (0, v3)), (4, (0, v4))] [] ε μ → (v2 ≤ v4 → (m_ty [(0, (2, v0)), (1, (0, v1)), (3, (0, v3))] [] ε μ → (kd ε v0 = 11) ∧ (kd ε (fn ε v0 9) = 100) ∧ ((0 : Int) ≤ v1 ∧ v1 < ln ε (fn ε v0 9)) ∧ ∀ μ_1 : m_M, μ_1 = st μ (fn ε v0 9) v1 v3 → (v3 ≤ 0 → (m_ty [] [] ε μ_1 → G cd_X12_isShape Q X 204 [] [(0, 0)] ε μ_1)) ∧ (0 < v3 → (m_ty [] [] ε μ_1 → G cd_X12_isShape Q X 204 [] [(0, 1)] ε μ_1)))) ∧ (v4 < v2 → (m_ty [(0, (2, v0)), (1, (0, v1)), (2, (0, v2)), (3, (0, v3)), (4, (0, v4))] [] ε μ → (kd ε v0 = 11) ∧ o_X12_isFolded [(2, v0), (0, v1), (0, v4)] ε μ (fun z ε_1 μ_2 => G cd_X12_isShape Q X 132 [(0, (2, v0)), (1, (0, v1)), (2, (0, v2)), (3, (0, v3)), (4, (0, v4))] [(0, z)] ε_1 μ_2) m_F))
  intro hty
  replace h := h hty.1 (hty.2.1 _ (List.mem_of_getElem? (i := 1) rfl)) (hty.2.1 _ (List.mem_of_getElem? (i := 2) rfl)) (hty.2.1 _ (List.mem_of_getElem? (i := 3) rfl)) (hty.2.1 _ (List.mem_of_getElem? (i := 4) rfl))
  obtain ⟨ha, hb⟩ := h
  refine And.intro (fun c7 => ?_) (fun c7 => ?_)
  · replace h := ha c7
    clear ha hb
    intro _
    obtain ⟨k1, h⟩ := h
    refine And.intro k1 ?_
    obtain ⟨k2, h⟩ := h
    refine And.intro k2 ?_
    obtain ⟨k3, h⟩ := h
    obtain ⟨k4, h⟩ := h
    refine And.intro (And.intro k3 k4) ?_
    intro μ_1 e_μ_1
    replace h := h μ_1 e_μ_1
    have hj := h
    refine And.intro (fun c4 => ?_) (fun c4 => ?_)
    · intro _
      exact g_X12_isShape_204 (fun _ _ => (And.intro (Or.inl rfl) (hj _ (((if_pos c4).trans rfl)).symm)))
    · intro _
      exact g_X12_isShape_204 (fun _ _ => (And.intro (Or.inr rfl) (hj _ (((if_neg (Int.not_le.mpr c4)).trans rfl)).symm)))
  · replace h := hb c7
    clear ha hb
    intro _
    obtain ⟨k7, h⟩ := h
    refine And.intro k7 ?_
    exact h
set_option maxRecDepth 20000 in
theorem g_X12_isShape_113 {Q X : m_Po} {v0 v1 v2 v3 v4 : Int} {ε : m_E} {μ : m_M} (h : TY ε μ → i32 v1 → i32 v2 → i32 v3 → i32 v4 → G cd_X12_isShape Q X 12 [(0, (2, v0)), (1, (0, v1)), (2, (0, v2)), (3, (0, v3)), (4, (0, v4))] [] ε μ) : G cd_X12_isShape Q X 113 [(0, (2, v0)), (1, (0, v1)), (2, (0, v2)), (3, (0, v3)), (4, (0, v4))] [] ε μ := by
  refine G_run (m_in [9, 12, 40, 76, 113, 119, 132, 143, 162, 171, 176, 204]) 28 _ _ _ _ ?_
  show m_ty [(0, (2, v0)), (1, (0, v1)), (2, (0, v2)), (3, (0, v3)), (4, (0, v4))] [] ε μ → G cd_X12_isShape Q X 12 [(0, (2, v0)), (1, (0, v1)), (2, (0, v2)), (3, (0, v3)), (4, (0, v4))] [] ε μ
  intro hty
  replace h := h hty.1 (hty.2.1 _ (List.mem_of_getElem? (i := 1) rfl)) (hty.2.1 _ (List.mem_of_getElem? (i := 2) rfl)) (hty.2.1 _ (List.mem_of_getElem? (i := 3) rfl)) (hty.2.1 _ (List.mem_of_getElem? (i := 4) rfl))
  exact h
set_option maxRecDepth 20000 in
theorem g_X12_isShape_76 {Q X : m_Po} {v0 v1 v2 v3 v4 v5 v6 : Int} {ε : m_E} {μ : m_M} (h : TY ε μ → i32 v1 → i32 v2 → i32 v3 → i32 v4 → i32 v5 → i32 v6 → kd ε v0 = 11 ∧ kd ε (fn ε v0 7) = 100 ∧ (0 : Int) ≤ v5 ∧ v5 < ln ε (fn ε v0 7) ∧ kd ε (fn ε v0 8) = 100 ∧ (0 : Int) ≤ v6 ∧ v6 < ln ε (fn ε v0 8) ∧ v6 < ln ε (fn ε v0 7) ∧ v5 < ln ε (fn ε v0 8) ∧ ∀ v3_1 : Int, v3_1 = w32 (v3 + (w32 ((w32 ((μ (fn ε v0 7) v5) * (μ (fn ε v0 8) v6))) - (w32 ((μ (fn ε v0 7) v6) * (μ (fn ε v0 8) v5)))))) → ∀ v4_1 : Int, v4_1 = w32 (v4 + 1) → G cd_X12_isShape Q X 12 [(0, (2, v0)), (1, (0, v1)), (2, (0, v2)), (3, (0, v3_1)), (4, (0, v4_1))] [] ε μ) : G cd_X12_isShape Q X 76 [(0, (2, v0)), (1, (0, v1)), (2, (0, v2)), (3, (0, v3)), (4, (0, v4)), (5, (0, v5)), (6, (0, v6))] [] ε μ := by
  refine G_run (m_in [9, 12, 40, 76, 113, 119, 132, 143, 162, 171, 176, 204]) 28 _ _ _ _ ?_
  show m_ty [(0, (2, v0)), (1, (0, v1)), (2, (0, v2)), (3, (0, v3)), (4, (0, v4)), (5, (0, v5)), (6, (0, v6))] [] ε μ → (kd ε v0 = 11) ∧ (kd ε (fn ε v0 7) = 100) ∧ ((0 : Int) ≤ v5 ∧ v5 < ln ε (fn ε v0 7)) ∧ (kd ε v0 = 11) ∧ (kd ε (fn ε v0 8) = 100) ∧ ((0 : Int) ≤ v6 ∧ v6 < ln ε (fn ε v0 8)) ∧ (kd ε v0 = 11) ∧ (kd ε (fn ε v0 7) = 100) ∧ ((0 : Int) ≤ v6 ∧ v6 < ln ε (fn ε v0 7)) ∧ (kd ε v0 = 11) ∧ (kd ε (fn ε v0 8) = 100) ∧ ((0 : Int) ≤ v5 ∧ v5 < ln ε (fn ε v0 8)) ∧ ∀ v3_1 : Int, v3_1 = w32 (v3 + (w32 ((w32 ((μ (fn ε v0 7) v5) * (μ (fn ε v0 8) v6))) - (w32 ((μ (fn ε v0 7) v6) * (μ (fn ε v0 8) v5)))))) → ∀ v4_1 : Int, v4_1 = w32 (v4 + 1) → G cd_X12_isShape Q X 113 [(0, (2, v0)), (1, (0, v1)), (2, (0, v2)), (3, (0, v3_1)), (4, (0, v4_1))] [] ε μ
  intro hty
  replace h := h hty.1 (hty.2.1 _ (List.mem_of_getElem? (i := 1) rfl)) (hty.2.1 _ (List.mem_of_getElem? (i := 2) rfl)) (hty.2.1 _ (List.mem_of_getElem? (i := 3) rfl)) (hty.2.1 _ (List.mem_of_getElem? (i := 4) rfl)) (hty.2.1 _ (List.mem_of_getElem? (i := 5) rfl)) (hty.2.1 _ (List.mem_of_getElem? (i := 6) rfl))
  obtain ⟨k1, h⟩ := h
  refine And.intro k1 ?_
  obtain ⟨k2, h⟩ := h
  refine And.intro k2 ?_
  obtain ⟨k3, h⟩ := h
  obtain ⟨k4, h⟩ := h
  refine And.intro (And.intro k3 k4) ?_
  refine And.intro k1 ?_
  obtain ⟨k5, h⟩ := h
  refine And.intro k5 ?_
  obtain ⟨k6, h⟩ := h
  obtain ⟨k7, h⟩ := h
  refine And.intro (And.intro k6 k7) ?_
  refine And.intro k1 ?_
  refine And.intro k2 ?_
  obtain ⟨k8, h⟩ := h
  refine And.intro (And.intro k6 k8) ?_
  refine And.intro k1 ?_
  refine And.intro k5 ?_
  obtain ⟨k9, h⟩ := h
  refine And.intro (And.intro k3 k9) ?_
  intro v3_1 e_v3_1
  replace h := h v3_1 e_v3_1
  intro v4_1 e_v4_1
  replace h := h v4_1 e_v4_1
  exact g_X12_isShape_113 (fun _ _ _ _ _ => h)
set_option maxRecDepth 20000 in
theorem g_X12_isShape_40 {Q X : m_Po} {v0 v1 v2 v3 v4 v5 v6 : Int} {ε : m_E} {μ : m_M} (h : TY ε μ → i32 v1 → i32 v2 → i32 v3 → i32 v4 → i32 v5 → i32 v6 → kd ε v0 = 11 ∧ kd ε (fn ε v0 7) = 100 ∧ (0 : Int) ≤ v5 ∧ v5 < ln ε (fn ε v0 7) ∧ (0 : Int) ≤ v6 ∧ v6 < ln ε (fn ε v0 7) ∧ ((μ (fn ε v0 7) v5) ≠ (μ (fn ε v0 7) v6) → G cd_X12_isShape Q X 76 [(0, (2, v0)), (1, (0, v1)), (2, (0, v2)), (3, (0, v3)), (4, (0, v4)), (5, (0, v5)), (6, (0, v6))] [] ε μ) ∧ ((μ (fn ε v0 7) v5) = (μ (fn ε v0 7) v6) → kd ε (fn ε v0 8) = 100 ∧ v5 < ln ε (fn ε v0 8) ∧ v6 < ln ε (fn ε v0 8) ∧ ((μ (fn ε v0 8) v5) ≠ (μ (fn ε v0 8) v6) → G cd_X12_isShape Q X 76 [(0, (2, v0)), (1, (0, v1)), (2, (0, v2)), (3, (0, v3)), (4, (0, v4)), (5, (0, v5)), (6, (0, v6))] [] ε μ) ∧ ((μ (fn ε v0 8) v5) = (μ (fn ε v0 8) v6) → Q 0 ε μ))) : G cd_X12_isShape Q X 40 [(0, (2, v0)), (1, (0, v1)), (2, (0, v2)), (3, (0, v3)), (4, (0, v4)), (5, (0, v5)), (6, (0, v6))] [] ε μ := by
  refine G_run (m_in [9, 12, 40, 76, 113, 119, 132, 143, 162, 171, 176, 204]) 28 _ _ _ _ ?_
  show m_ty [(0, (2, v0)), (1, (0, v1)), (2, (0, v2)), (3, (0, v3)), (4, (0, v4)), (5, (0, v5)), (6, (0, v6))] [] ε μ → (kd ε v0 = 11) ∧ (kd ε (fn ε v0 7) = 100) ∧ ((0 : Int) ≤ v5 ∧ v5 < ln ε (fn ε v0 7)) ∧ (kd ε v0 = 11) ∧ (kd ε (fn ε v0 7) = 100) ∧ ((0 : Int) ≤ v6 ∧ v6 < ln ε (fn ε v0 7)) ∧ ((μ (fn ε v0 7) v5) ≠ (μ (fn ε v0 7) v6) → G cd_X12_isShape Q X 76 [(0, (2, v0)), (1, (0, v1)), (2, (0, v2)), (3, (0, v3)), (4, (0, v4)), (5, (0, v5)), (6, (0, v6))] [] ε μ) ∧ ((μ (fn ε v0 7) v5) = (μ (fn ε v0 7) v6) → (m_ty [(0, (2, v0)), (1, (0, v1)), (2, (0, v2)), (3, (0, v3)), (4, (0, v4)), (5, (0, v5)), (6, (0, v6))] [] ε μ → (kd ε v0 = 11) ∧ (kd ε (fn ε v0 8) = 100) ∧ ((0 : Int) ≤ v5 ∧ v5 < ln ε (fn ε v0 8)) ∧ (kd ε v0 = 11) ∧ (kd ε (fn ε v0 8) = 100) ∧ ((0 : Int) ≤ v6 ∧ v6 < ln ε (fn ε v0 8)) ∧ ((μ (fn ε v0 8) v5) ≠ (μ (fn ε v0 8) v6) → G cd_X12_isShape Q X 76 [(0, (2, v0)), (1, (0, v1)), (2, (0, v2)), (3, (0, v3)), (4, (0, v4)), (5, (0, v5)), (6, (0, v6))] [] ε μ) ∧ ((μ (fn ε v0 8) v5) = (μ (fn ε v0 8) v6) → (m_ty [] [] ε μ → (0 = 0 ∨ 0 = 1) ∧ Q 0 ε μ))))
  intro hty
  replace h := h hty.1 (hty.2.1 _ (List.mem_of_getElem? (i := 1) rfl)) (hty.2.1 _ (List.mem_of_getElem? (i := 2) rfl)) (hty.2.1 _ (List.mem_of_getElem? (i := 3) rfl)) (hty.2.1 _ (List.mem_of_getElem? (i := 4) rfl)) (hty.2.1 _ (List.mem_of_getElem? (i := 5) rfl)) (hty.2.1 _ (List.mem_of_getElem? (i := 6) rfl))
  obtain ⟨k1, h⟩ := h
  refine And.intro k1 ?_
  obtain ⟨k2, h⟩ := h
  refine And.intro k2 ?_
  obtain ⟨k3, h⟩ := h
  obtain ⟨k4, h⟩ := h
  refine And.intro (And.intro k3 k4) ?_
  refine And.intro k1 ?_
  refine And.intro k2 ?_
  obtain ⟨k5, h⟩ := h
  obtain ⟨k6, h⟩ := h
  refine And.intro (And.intro k5 k6) ?_
  obtain ⟨ha, hb⟩ := h
  refine And.intro (fun c10 => ?_) (fun c10 => ?_)
  · replace h := ha c10
    clear ha hb
    exact h
  · replace h := hb c10
    clear ha hb
    intro _
    refine And.intro k1 ?_
    obtain ⟨k7, h⟩ := h
    refine And.intro k7 ?_
    obtain ⟨k8, h⟩ := h
    refine And.intro (And.intro k3 k8) ?_
    refine And.intro k1 ?_
    refine And.intro k7 ?_
    obtain ⟨k9, h⟩ := h
    refine And.intro (And.intro k5 k9) ?_
    obtain ⟨ha, hb⟩ := h
    refine And.intro (fun c9 => ?_) (fun c9 => ?_)
    · replace h := ha c9
      clear ha hb
      exact h
    · replace h := hb c9
      clear ha hb
      intro _
      refine And.intro (Or.inl rfl) ?_
      exact h
set_option maxRecDepth 20000 in
theorem g_X12_isShape_12 {Q X : m_Po} {v0 v1 v2 v3 v4 : Int} {ε : m_E} {μ : m_M} (h : TY ε μ → i32 v1 → i32 v2 → i32 v3 → i32 v4 → (v2 ≤ v4 → ∀ v4_1 : Int, v4_1 = 0 → G cd_X12_isShape Q X 119 [(0, (2, v0)), (1, (0, v1)), (2, (0, v2)), (3, (0, v3)), (4, (0, v4_1))] [] ε μ) ∧ (v4 < v2 → ∀ v5 : Int, v5 = w32 ((w32 (12 * v1)) + v4) → v2 ≠ 0 ∧ ∀ v6 : Int, v6 = w32 ((w32 (12 * v1)) + (Int.tmod (w32 (v4 + 1)) v2)) → kd ε v0 = 11 ∧ kd ε (fn ε v0 7) = 100 ∧ (0 : Int) ≤ v5 ∧ v5 < ln ε (fn ε v0 7) ∧ (0 : Int) ≤ v6 ∧ v6 < ln ε (fn ε v0 7) ∧ ((μ (fn ε v0 7) v5) ≠ (μ (fn ε v0 7) v6) → G cd_X12_isShape Q X 76 [(0, (2, v0)), (1, (0, v1)), (2, (0, v2)), (3, (0, v3)), (4, (0, v4)), (5, (0, v5)), (6, (0, v6))] [] ε μ) ∧ ((μ (fn ε v0 7) v5) = (μ (fn ε v0 7) v6) → kd ε (fn ε v0 8) = 100 ∧ v5 < ln ε (fn ε v0 8) ∧ v6 < ln ε (fn ε v0 8) ∧ ((μ (fn ε v0 8) v5) ≠ (μ (fn ε v0 8) v6) → G cd_X12_isShape Q X 76 [(0, (2, v0)), (1, (0, v1)), (2, (0, v2)), (3, (0, v3)), (4, (0, v4)), (5, (0, v5)), (6, (0, v6))] [] ε μ) ∧ ((μ (fn ε v0 8) v5) = (μ (fn ε v0 8) v6) → Q 0 ε μ)))) : G cd_X12_isShape Q X 12 [(0, (2, v0)), (1, (0, v1)), (2, (0, v2)), (3, (0, v3)), (4, (0, v4))] [] ε μ := by
  refine G_run (m_in [9, 12, 40, 76, 113, 119, 132, 143, 162, 171, 176, 204]) 28 _ _ _ _ ?_
  show m_ty [(0, (2, v0)), (1, (0, v1)), (2, (0, v2)), (3, (0, v3)), (4, (0, v4))] [] ε μ → (v2 ≤ v4 → (m_ty [(0, (2, v0)), (1, (0, v1)), (2, (0, v2)), (3, (0, v3))] [] ε μ → ∀ v4_1 : Int, v4_1 = 0 → G cd_X12_isShape Q X 119 [(0, (2, v0)), (1, (0, v1)), (2, (0, v2)), (3, (0, v3)), (4, (0, v4_1))] [] ε μ)) ∧ (v4 < v2 → (m_ty [(0, (2, v0)), (1, (0, v1)), (2, (0, v2)), (3, (0, v3)), (4, (0, v4))] [] ε μ → ∀ v5 : Int, v5 = w32 ((w32 (12 * v1)) + v4) → (v2 ≠ 0) ∧ ∀ v6 : Int, v6 = w32 ((w32 (12 * v1)) + (Int.tmod (w32 (v4 + 1)) v2)) → G cd_X12_isShape Q X 40 [(0, (2, v0)), (1, (0, v1)), (2, (0, v2)), (3, (0, v3)), (4, (0, v4)), (5, (0, v5)), (6, (0, v6))] [] ε μ))
  intro hty
  replace h := h hty.1 (hty.2.1 _ (List.mem_of_getElem? (i := 1) rfl)) (hty.2.1 _ (List.mem_of_getElem? (i := 2) rfl)) (hty.2.1 _ (List.mem_of_getElem? (i := 3) rfl)) (hty.2.1 _ (List.mem_of_getElem? (i := 4) rfl))
  obtain ⟨ha, hb⟩ := h
  refine And.intro (fun c12 => ?_) (fun c12 => ?_)
  · replace h := ha c12
    clear ha hb
    intro _
    intro v4_1 e_v4_1
    replace h := h v4_1 e_v4_1
    exact h
  · replace h := hb c12
    clear ha hb
    intro _
    intro v5 e_v5
    replace h := h v5 e_v5
    obtain ⟨k1, h⟩ := h
    refine And.intro k1 ?_
    intro v6 e_v6
    replace h := h v6 e_v6
    exact g_X12_isShape_40 (fun _ _ _ _ _ _ _ => h)
set_option maxRecDepth 20000 in
theorem g_X12_isShape_9 {Q X : m_Po} {v0 v1 v2 v3 : Int} {ε : m_E} {μ : m_M} (h : TY ε μ → i32 v1 → i32 v2 → i32 v3 → ∀ v4 : Int, v4 = 0 → G cd_X12_isShape Q X 12 [(0, (2, v0)), (1, (0, v1)), (2, (0, v2)), (3, (0, v3)), (4, (0, v4))] [] ε μ) : G cd_X12_isShape Q X 9 [(0, (2, v0)), (1, (0, v1)), (2, (0, v2)), (3, (0, v3))] [] ε μ := by
  refine G_run (m_in [9, 12, 40, 76, 113, 119, 132, 143, 162, 171, 176, 204]) 28 _ _ _ _ ?_
  show m_ty [(0, (2, v0)), (1, (0, v1)), (2, (0, v2)), (3, (0, v3))] [] ε μ → ∀ v4 : Int, v4 = 0 → G cd_X12_isShape Q X 12 [(0, (2, v0)), (1, (0, v1)), (2, (0, v2)), (3, (0, v3)), (4, (0, v4))] [] ε μ
  intro hty
  replace h := h hty.1 (hty.2.1 _ (List.mem_of_getElem? (i := 1) rfl)) (hty.2.1 _ (List.mem_of_getElem? (i := 2) rfl)) (hty.2.1 _ (List.mem_of_getElem? (i := 3) rfl))
  intro v4 e_v4
  replace h := h v4 e_v4
  exact h
set_option maxRecDepth 20000 in
theorem g_X12_isShape_0 {Q X : m_Po} {v0 v1 : Int} {ε : m_E} {μ : m_M} (h : TY ε μ → i32 v1 → kd ε v0 = 11 ∧ kd ε (fn ε v0 6) = 100 ∧ (0 : Int) ≤ v1 ∧ v1 < ln ε (fn ε v0 6) ∧ ∀ v2 : Int, v2 = μ (fn ε v0 6) v1 → ∀ v3 : Int, v3 = 0 → ∀ v4 : Int, v4 = 0 → G cd_X12_isShape Q X 12 [(0, (2, v0)), (1, (0, v1)), (2, (0, v2)), (3, (0, v3)), (4, (0, v4))] [] ε μ) : G cd_X12_isShape Q X 0 [(0, (2, v0)), (1, (0, v1))] [] ε μ := by
  refine G_run (m_in [9, 12, 40, 76, 113, 119, 132, 143, 162, 171, 176, 204]) 28 _ _ _ _ ?_
  show m_ty [(0, (2, v0)), (1, (0, v1))] [] ε μ → (kd ε v0 = 11) ∧ (kd ε (fn ε v0 6) = 100) ∧ ((0 : Int) ≤ v1 ∧ v1 < ln ε (fn ε v0 6)) ∧ ∀ v2 : Int, v2 = μ (fn ε v0 6) v1 → ∀ v3 : Int, v3 = 0 → G cd_X12_isShape Q X 9 [(0, (2, v0)), (1, (0, v1)), (2, (0, v2)), (3, (0, v3))] [] ε μ
  intro hty
  replace h := h hty.1 (hty.2.1 _ (List.mem_of_getElem? (i := 1) rfl))
  obtain ⟨k1, h⟩ := h
  refine And.intro k1 ?_
  obtain ⟨k2, h⟩ := h
  refine And.intro k2 ?_
  obtain ⟨k3, h⟩ := h
  obtain ⟨k4, h⟩ := h
  refine And.intro (And.intro k3 k4) ?_
  intro v2 e_v2
  replace h := h v2 e_v2
  intro v3 e_v3
  replace h := h v3 e_v3
  exact g_X12_isShape_9 (fun _ _ _ _ => h)
theorem e_X12_isShape {Q X : m_Po} {v0 v1 : Int} {ε : m_E} {μ : m_M} (h : TY ε μ → i32 v1 → kd ε v0 = 11 ∧ kd ε (fn ε v0 6) = 100 ∧ (0 : Int) ≤ v1 ∧ v1 < ln ε (fn ε v0 6) ∧ ∀ v2 : Int, v2 = μ (fn ε v0 6) v1 → ∀ v3 : Int, v3 = 0 → ∀ v4 : Int, v4 = 0 → G cd_X12_isShape Q X 12 [(0, (2, v0)), (1, (0, v1)), (2, (0, v2)), (3, (0, v3)), (4, (0, v4))] [] ε μ) : o_X12_isShape [(2, v0), (0, v1)] ε μ Q X := And.intro rfl (g_X12_isShape_0 h)
/-! ArchYardModel.isShapeOf(II)Z -/
set_option maxRecDepth 20000 in
theorem g_X12_isShapeOf_176 {Q X : m_Po} {v0 v5 v6 : Int} {ε : m_E} {μ : m_M} (h : TY ε μ → i32 v5 → i32 v6 → ((12 : Int) ≤ v6 → (v5 = 0 ∨ v5 = 1) ∧ Q v5 ε μ) ∧ (v6 < (12 : Int) → kd ε v0 = 11 ∧ kd ε (fn ε v0 15) = 100 ∧ (0 : Int) ≤ v6 ∧ v6 < ln ε (fn ε v0 15) ∧ kd ε (fn ε v0 7) = 100 ∧ (0 : Int) ≤ w32 (1428 + v6) ∧ w32 (1428 + v6) < ln ε (fn ε v0 7) ∧ ∀ μ_1 : m_M, μ_1 = st μ (fn ε v0 7) (w32 (1428 + v6)) (μ (fn ε v0 15) v6) → kd ε (fn ε v0 16) = 100 ∧ v6 < ln ε (fn ε v0 16) ∧ kd ε (fn ε v0 8) = 100 ∧ w32 (1428 + v6) < ln ε (fn ε v0 8) ∧ ∀ μ_2 : m_M, μ_2 = st μ_1 (fn ε v0 8) (w32 (1428 + v6)) (μ_1 (fn ε v0 16) v6) → ∀ v6_1 : Int, v6_1 = w32 (v6 + 1) → G cd_X12_isShapeOf Q X 176 [(0, (2, v0)), (5, (0, v5)), (6, (0, v6_1))] [] ε μ_2)) : G cd_X12_isShapeOf Q X 176 [(0, (2, v0)), (5, (0, v5)), (6, (0, v6))] [] ε μ := by
  refine G_run (m_in [17, 20, 82, 138, 154, 176]) 14 _ _ _ _ ?_
  show m_ty [(0, (2, v0)), (5, (0, v5)), (6, (0, v6))] [] ε μ → ((12 : Int) ≤ v6 → (m_ty [(5, (0, v5))] [] ε μ → (v5 = 0 ∨ v5 = 1) ∧ Q v5 ε μ)) ∧ (v6 < (12 : Int) → (m_ty [(0, (2, v0)), (5, (0, v5)), (6, (0, v6))] [] ε μ → (kd ε v0 = 11) ∧ (kd ε v0 = 11) ∧ (kd ε (fn ε v0 15) = 100) ∧ ((0 : Int) ≤ v6 ∧ v6 < ln ε (fn ε v0 15)) ∧ (kd ε (fn ε v0 7) = 100) ∧ ((0 : Int) ≤ w32 (1428 + v6) ∧ w32 (1428 + v6) < ln ε (fn ε v0 7)) ∧ ∀ μ_1 : m_M, μ_1 = st μ (fn ε v0 7) (w32 (1428 + v6)) (μ (fn ε v0 15) v6) → (kd ε v0 = 11) ∧ (kd ε v0 = 11) ∧ (kd ε (fn ε v0 16) = 100) ∧ ((0 : Int) ≤ v6 ∧ v6 < ln ε (fn ε v0 16)) ∧ (kd ε (fn ε v0 8) = 100) ∧ ((0 : Int) ≤ w32 (1428 + v6) ∧ w32 (1428 + v6) < ln ε (fn ε v0 8)) ∧ ∀ μ_2 : m_M, μ_2 = st μ_1 (fn ε v0 8) (w32 (1428 + v6)) (μ_1 (fn ε v0 16) v6) → ∀ v6_1 : Int, v6_1 = w32 (v6 + 1) → G cd_X12_isShapeOf Q X 176 [(0, (2, v0)), (5, (0, v5)), (6, (0, v6_1))] [] ε μ_2))
  intro hty
  replace h := h hty.1 (hty.2.1 _ (List.mem_of_getElem? (i := 1) rfl)) (hty.2.1 _ (List.mem_of_getElem? (i := 2) rfl))
  obtain ⟨ha, hb⟩ := h
  refine And.intro (fun c12 => ?_) (fun c12 => ?_)
  · replace h := ha c12
    clear ha hb
    intro _
    obtain ⟨k1, h⟩ := h
    refine And.intro k1 ?_
    exact h
  · replace h := hb c12
    clear ha hb
    intro _
    obtain ⟨k2, h⟩ := h
    refine And.intro k2 ?_
    refine And.intro k2 ?_
    obtain ⟨k3, h⟩ := h
    refine And.intro k3 ?_
    obtain ⟨k4, h⟩ := h
    obtain ⟨k5, h⟩ := h
    refine And.intro (And.intro k4 k5) ?_
    obtain ⟨k6, h⟩ := h
    refine And.intro k6 ?_
    obtain ⟨k7, h⟩ := h
    obtain ⟨k8, h⟩ := h
    refine And.intro (And.intro k7 k8) ?_
    intro μ_1 e_μ_1
    replace h := h μ_1 e_μ_1
    refine And.intro k2 ?_
    refine And.intro k2 ?_
    obtain ⟨k9, h⟩ := h
    refine And.intro k9 ?_
    obtain ⟨k10, h⟩ := h
    refine And.intro (And.intro k4 k10) ?_
    obtain ⟨k11, h⟩ := h
    refine And.intro k11 ?_
    obtain ⟨k12, h⟩ := h
    refine And.intro (And.intro k7 k12) ?_
    intro μ_2 e_μ_2
    replace h := h μ_2 e_μ_2
    intro v6_1 e_v6_1
    replace h := h v6_1 e_v6_1
    exact h
set_option maxRecDepth 20000 in
theorem g_X12_isShapeOf_154 {Q X : m_Po} {v0 v3 v4 t : Int} {ε : m_E} {μ : m_M} (h : TY ε μ → i32 v3 → i32 v4 → i32 t → ∀ v5 : Int, v5 = t → kd ε v0 = 11 ∧ kd ε (fn ε v0 6) = 100 ∧ 119 < ln ε (fn ε v0 6) ∧ ∀ μ_1 : m_M, μ_1 = st μ (fn ε v0 6) 119 v3 → kd ε (fn ε v0 9) = 100 ∧ 119 < ln ε (fn ε v0 9) ∧ ∀ μ_2 : m_M, μ_2 = st μ_1 (fn ε v0 9) 119 v4 → ∀ v6 : Int, v6 = 0 → G cd_X12_isShapeOf Q X 176 [(0, (2, v0)), (5, (0, v5)), (6, (0, v6))] [] ε μ_2) : G cd_X12_isShapeOf Q X 154 [(0, (2, v0)), (3, (0, v3)), (4, (0, v4))] [(0, t)] ε μ := by
  refine G_run (m_in [17, 20, 82, 138, 154, 176]) 14 _ _ _ _ ?_
  show m_ty [(0, (2, v0)), (3, (0, v3)), (4, (0, v4))] [(0, t)] ε μ → ∀ v5 : Int, v5 = t → (kd ε v0 = 11) ∧ (kd ε (fn ε v0 6) = 100) ∧ ((0 : Int) ≤ 119 ∧ 119 < ln ε (fn ε v0 6)) ∧ ∀ μ_1 : m_M, μ_1 = st μ (fn ε v0 6) 119 v3 → (kd ε v0 = 11) ∧ (kd ε (fn ε v0 9) = 100) ∧ ((0 : Int) ≤ 119 ∧ 119 < ln ε (fn ε v0 9)) ∧ ∀ μ_2 : m_M, μ_2 = st μ_1 (fn ε v0 9) 119 v4 → ∀ v6 : Int, v6 = 0 → G cd_X12_isShapeOf Q X 176 [(0, (2, v0)), (5, (0, v5)), (6, (0, v6))] [] ε μ_2
  intro hty
  replace h := h hty.1 (hty.2.1 _ (List.mem_of_getElem? (i := 1) rfl)) (hty.2.1 _ (List.mem_of_getElem? (i := 2) rfl)) (hty.2.2 _ (List.mem_of_getElem? (i := 0) rfl))
  intro v5 e_v5
  replace h := h v5 e_v5
  obtain ⟨k1, h⟩ := h
  refine And.intro k1 ?_
  obtain ⟨k2, h⟩ := h
  refine And.intro k2 ?_
  obtain ⟨k3, h⟩ := h
  refine And.intro (And.intro (by decide) k3) ?_
  intro μ_1 e_μ_1
  replace h := h μ_1 e_μ_1
  refine And.intro k1 ?_
  obtain ⟨k4, h⟩ := h
  refine And.intro k4 ?_
  obtain ⟨k5, h⟩ := h
  refine And.intro (And.intro (by decide) k5) ?_
  intro μ_2 e_μ_2
  replace h := h μ_2 e_μ_2
  intro v6 e_v6
  replace h := h v6 e_v6
  exact h
set_option maxRecDepth 20000 in
theorem g_X12_isShapeOf_138 {Q X : m_Po} {v0 v1 v2 v3 v4 v5 t t_1 t_2 t_3 : Int} {ε : m_E} {μ : m_M} (h : TY ε μ → i32 v1 → i32 v2 → i32 v3 → i32 v4 → i32 v5 → i32 t_1 → i32 t_3 → kd ε t_2 = 100 ∧ (0 : Int) ≤ w32 (t_3 + 1) ∧ w32 (t_3 + 1) < ln ε t_2 ∧ kd ε t = 100 ∧ (0 : Int) ≤ t_1 ∧ t_1 < ln ε t ∧ ∀ μ_1 : m_M, μ_1 = st μ t t_1 (μ t_2 (w32 (t_3 + 1))) → ∀ v5_1 : Int, v5_1 = w32 (v5 + 1) → G cd_X12_isShapeOf Q X 82 [(0, (2, v0)), (1, (0, v1)), (2, (0, v2)), (3, (0, v3)), (4, (0, v4)), (5, (0, v5_1))] [] ε μ_1) : G cd_X12_isShapeOf Q X 138 [(0, (2, v0)), (1, (0, v1)), (2, (0, v2)), (3, (0, v3)), (4, (0, v4)), (5, (0, v5))] [(0, t_3), (2, t_2), (0, t_1), (2, t)] ε μ := by
  refine G_run (m_in [17, 20, 82, 138, 154, 176]) 14 _ _ _ _ ?_
  show m_ty [(0, (2, v0)), (1, (0, v1)), (2, (0, v2)), (3, (0, v3)), (4, (0, v4)), (5, (0, v5))] [(0, t_3), (2, t_2), (0, t_1), (2, t)] ε μ → (kd ε t_2 = 100) ∧ ((0 : Int) ≤ w32 (t_3 + 1) ∧ w32 (t_3 + 1) < ln ε t_2) ∧ (kd ε t = 100) ∧ ((0 : Int) ≤ t_1 ∧ t_1 < ln ε t) ∧ ∀ μ_1 : m_M, μ_1 = st μ t t_1 (μ t_2 (w32 (t_3 + 1))) → ∀ v5_1 : Int, v5_1 = w32 (v5 + 1) → G cd_X12_isShapeOf Q X 82 [(0, (2, v0)), (1, (0, v1)), (2, (0, v2)), (3, (0, v3)), (4, (0, v4)), (5, (0, v5_1))] [] ε μ_1
  intro hty
  replace h := h hty.1 (hty.2.1 _ (List.mem_of_getElem? (i := 1) rfl)) (hty.2.1 _ (List.mem_of_getElem? (i := 2) rfl)) (hty.2.1 _ (List.mem_of_getElem? (i := 3) rfl)) (hty.2.1 _ (List.mem_of_getElem? (i := 4) rfl)) (hty.2.1 _ (List.mem_of_getElem? (i := 5) rfl)) (hty.2.2 _ (List.mem_of_getElem? (i := 2) rfl)) (hty.2.2 _ (List.mem_of_getElem? (i := 0) rfl))
  obtain ⟨k1, h⟩ := h
  refine And.intro k1 ?_
  obtain ⟨k2, h⟩ := h
  obtain ⟨k3, h⟩ := h
  refine And.intro (And.intro k2 k3) ?_
  obtain ⟨k4, h⟩ := h
  refine And.intro k4 ?_
  obtain ⟨k5, h⟩ := h
  obtain ⟨k6, h⟩ := h
  refine And.intro (And.intro k5 k6) ?_
  intro μ_1 e_μ_1
  replace h := h μ_1 e_μ_1
  intro v5_1 e_v5_1
  replace h := h v5_1 e_v5_1
  exact h
set_option maxRecDepth 20000 in
theorem g_X12_isShapeOf_82 {Q X : m_Po} {v0 v1 v2 v3 v4 v5 : Int} {ε : m_E} {μ : m_M} (h : TY ε μ → i32 v1 → i32 v2 → i32 v3 → i32 v4 → i32 v5 → ((w32 (Int.tdiv v2 2)) ≤ v5 → kd ε v0 = 11 ∧ o_X12_isShape [(2, v0), (0, 119)] ε μ (fun z ε_1 μ_1 => G cd_X12_isShapeOf Q X 154 [(0, (2, v0)), (3, (0, v3)), (4, (0, v4))] [(0, z)] ε_1 μ_1) m_F) ∧ (v5 < (w32 (Int.tdiv v2 2)) → kd ε v0 = 11 ∧ kd ε (fn ε v0 3) = 100 ∧ (0 : Int) ≤ w32 ((w32 (40 * v1)) + (w32 (2 * v5))) ∧ w32 ((w32 (40 * v1)) + (w32 (2 * v5))) < ln ε (fn ε v0 3) ∧ kd ε (fn ε v0 7) = 100 ∧ (0 : Int) ≤ w32 (1428 + v5) ∧ w32 (1428 + v5) < ln ε (fn ε v0 7) ∧ ∀ μ_2 : m_M, μ_2 = st μ (fn ε v0 7) (w32 (1428 + v5)) (μ (fn ε v0 3) (w32 ((w32 (40 * v1)) + (w32 (2 * v5))))) → kd ε (fn ε v0 3) = 100 ∧ (0 : Int) ≤ w32 ((w32 ((w32 (40 * v1)) + (w32 (2 * v5)))) + 1) ∧ w32 ((w32 ((w32 (40 * v1)) + (w32 (2 * v5)))) + 1) < ln ε (fn ε v0 3) ∧ kd ε (fn ε v0 8) = 100 ∧ (0 : Int) ≤ (w32 (1428 + v5)) ∧ (w32 (1428 + v5)) < ln ε (fn ε v0 8) ∧ ∀ μ_3 : m_M, μ_3 = st μ_2 (fn ε v0 8) (w32 (1428 + v5)) (μ_2 (fn ε v0 3) (w32 ((w32 ((w32 (40 * v1)) + (w32 (2 * v5)))) + 1))) → ∀ v5_1 : Int, v5_1 = w32 (v5 + 1) → G cd_X12_isShapeOf Q X 82 [(0, (2, v0)), (1, (0, v1)), (2, (0, v2)), (3, (0, v3)), (4, (0, v4)), (5, (0, v5_1))] [] ε μ_3)) : G cd_X12_isShapeOf Q X 82 [(0, (2, v0)), (1, (0, v1)), (2, (0, v2)), (3, (0, v3)), (4, (0, v4)), (5, (0, v5))] [] ε μ := by
  refine G_run (m_in [17, 20, 82, 138, 154, 176]) 14 _ _ _ _ ?_
  show m_ty [(0, (2, v0)), (1, (0, v1)), (2, (0, v2)), (3, (0, v3)), (4, (0, v4)), (5, (0, v5))] [] ε μ → (2 : Int) ≠ 0 ∧ ((w32 (Int.tdiv v2 2)) ≤ v5 → (m_ty [(0, (2, v0)), (3, (0, v3)), (4, (0, v4))] [] ε μ → (kd ε v0 = 11) ∧ o_X12_isShape [(2, v0), (0, 119)] ε μ (fun z ε_1 μ_1 => G cd_X12_isShapeOf Q X 154 [(0, (2, v0)), (3, (0, v3)), (4, (0, v4))] [(0, z)] ε_1 μ_1) m_F)) ∧ (v5 < (w32 (Int.tdiv v2 2)) → (m_ty [(0, (2, v0)), (1, (0, v1)), (2, (0, v2)), (3, (0, v3)), (4, (0, v4)), (5, (0, v5))] [] ε μ → (kd ε v0 = 11) ∧ (kd ε v0 = 11) ∧ (kd ε (fn ε v0 3) = 100) ∧ ((0 : Int) ≤ w32 ((w32 (40 * v1)) + (w32 (2 * v5))) ∧ w32 ((w32 (40 * v1)) + (w32 (2 * v5))) < ln ε (fn ε v0 3)) ∧ (kd ε (fn ε v0 7) = 100) ∧ ((0 : Int) ≤ w32 (1428 + v5) ∧ w32 (1428 + v5) < ln ε (fn ε v0 7)) ∧ ∀ μ_2 : m_M, μ_2 = st μ (fn ε v0 7) (w32 (1428 + v5)) (μ (fn ε v0 3) (w32 ((w32 (40 * v1)) + (w32 (2 * v5))))) → (kd ε v0 = 11) ∧ (kd ε v0 = 11) ∧ G cd_X12_isShapeOf Q X 138 [(0, (2, v0)), (1, (0, v1)), (2, (0, v2)), (3, (0, v3)), (4, (0, v4)), (5, (0, v5))] [(0, w32 ((w32 (40 * v1)) + (w32 (2 * v5)))), (2, fn ε v0 3), (0, w32 (1428 + v5)), (2, fn ε v0 8)] ε μ_2))
  intro hty
  replace h := h hty.1 (hty.2.1 _ (List.mem_of_getElem? (i := 1) rfl)) (hty.2.1 _ (List.mem_of_getElem? (i := 2) rfl)) (hty.2.1 _ (List.mem_of_getElem? (i := 3) rfl)) (hty.2.1 _ (List.mem_of_getElem? (i := 4) rfl)) (hty.2.1 _ (List.mem_of_getElem? (i := 5) rfl))
  refine And.intro (by decide) ?_
  obtain ⟨ha, hb⟩ := h
  refine And.intro (fun c14 => ?_) (fun c14 => ?_)
  · replace h := ha c14
    clear ha hb
    intro _
    obtain ⟨k1, h⟩ := h
    refine And.intro k1 ?_
    exact h
  · replace h := hb c14
    clear ha hb
    intro _
    obtain ⟨k2, h⟩ := h
    refine And.intro k2 ?_
    refine And.intro k2 ?_
    obtain ⟨k3, h⟩ := h
    refine And.intro k3 ?_
    obtain ⟨k4, h⟩ := h
    obtain ⟨k5, h⟩ := h
    refine And.intro (And.intro k4 k5) ?_
    obtain ⟨k6, h⟩ := h
    refine And.intro k6 ?_
    obtain ⟨k7, h⟩ := h
    obtain ⟨k8, h⟩ := h
    refine And.intro (And.intro k7 k8) ?_
    intro μ_2 e_μ_2
    replace h := h μ_2 e_μ_2
    refine And.intro k2 ?_
    refine And.intro k2 ?_
    exact g_X12_isShapeOf_138 (fun _ _ _ _ _ _ _ _ => h)
set_option maxRecDepth 20000 in
theorem g_X12_isShapeOf_20 {Q X : m_Po} {v0 v1 v2 v3 v4 v5 : Int} {ε : m_E} {μ : m_M} (h : TY ε μ → i32 v1 → i32 v2 → i32 v3 → i32 v4 → i32 v5 → ((12 : Int) ≤ v5 → kd ε v0 = 11 ∧ kd ε (fn ε v0 6) = 100 ∧ 119 < ln ε (fn ε v0 6) ∧ ∀ μ_1 : m_M, μ_1 = st μ (fn ε v0 6) 119 (w32 (Int.tdiv v2 2)) → ∀ v5_1 : Int, v5_1 = 0 → G cd_X12_isShapeOf Q X 82 [(0, (2, v0)), (1, (0, v1)), (2, (0, v2)), (3, (0, v3)), (4, (0, v4)), (5, (0, v5_1))] [] ε μ_1) ∧ (v5 < (12 : Int) → kd ε v0 = 11 ∧ kd ε (fn ε v0 7) = 100 ∧ (0 : Int) ≤ w32 (1428 + v5) ∧ w32 (1428 + v5) < ln ε (fn ε v0 7) ∧ kd ε (fn ε v0 15) = 100 ∧ (0 : Int) ≤ v5 ∧ v5 < ln ε (fn ε v0 15) ∧ ∀ μ_2 : m_M, μ_2 = st μ (fn ε v0 15) v5 (μ (fn ε v0 7) (w32 (1428 + v5))) → kd ε (fn ε v0 8) = 100 ∧ w32 (1428 + v5) < ln ε (fn ε v0 8) ∧ kd ε (fn ε v0 16) = 100 ∧ v5 < ln ε (fn ε v0 16) ∧ ∀ μ_3 : m_M, μ_3 = st μ_2 (fn ε v0 16) v5 (μ_2 (fn ε v0 8) (w32 (1428 + v5))) → ∀ v5_2 : Int, v5_2 = w32 (v5 + 1) → G cd_X12_isShapeOf Q X 20 [(0, (2, v0)), (1, (0, v1)), (2, (0, v2)), (3, (0, v3)), (4, (0, v4)), (5, (0, v5_2))] [] ε μ_3)) : G cd_X12_isShapeOf Q X 20 [(0, (2, v0)), (1, (0, v1)), (2, (0, v2)), (3, (0, v3)), (4, (0, v4)), (5, (0, v5))] [] ε μ := by
  refine G_run (m_in [17, 20, 82, 138, 154, 176]) 14 _ _ _ _ ?_
  show m_ty [(0, (2, v0)), (1, (0, v1)), (2, (0, v2)), (3, (0, v3)), (4, (0, v4)), (5, (0, v5))] [] ε μ → ((12 : Int) ≤ v5 → (m_ty [(0, (2, v0)), (1, (0, v1)), (2, (0, v2)), (3, (0, v3)), (4, (0, v4))] [] ε μ → (kd ε v0 = 11) ∧ (2 : Int) ≠ 0 ∧ (kd ε (fn ε v0 6) = 100) ∧ ((0 : Int) ≤ 119 ∧ 119 < ln ε (fn ε v0 6)) ∧ ∀ μ_1 : m_M, μ_1 = st μ (fn ε v0 6) 119 (w32 (Int.tdiv v2 2)) → ∀ v5_1 : Int, v5_1 = 0 → G cd_X12_isShapeOf Q X 82 [(0, (2, v0)), (1, (0, v1)), (2, (0, v2)), (3, (0, v3)), (4, (0, v4)), (5, (0, v5_1))] [] ε μ_1)) ∧ (v5 < (12 : Int) → (m_ty [(0, (2, v0)), (1, (0, v1)), (2, (0, v2)), (3, (0, v3)), (4, (0, v4)), (5, (0, v5))] [] ε μ → (kd ε v0 = 11) ∧ (kd ε v0 = 11) ∧ (kd ε (fn ε v0 7) = 100) ∧ ((0 : Int) ≤ w32 (1428 + v5) ∧ w32 (1428 + v5) < ln ε (fn ε v0 7)) ∧ (kd ε (fn ε v0 15) = 100) ∧ ((0 : Int) ≤ v5 ∧ v5 < ln ε (fn ε v0 15)) ∧ ∀ μ_2 : m_M, μ_2 = st μ (fn ε v0 15) v5 (μ (fn ε v0 7) (w32 (1428 + v5))) → (kd ε v0 = 11) ∧ (kd ε v0 = 11) ∧ (kd ε (fn ε v0 8) = 100) ∧ ((0 : Int) ≤ w32 (1428 + v5) ∧ w32 (1428 + v5) < ln ε (fn ε v0 8)) ∧ (kd ε (fn ε v0 16) = 100) ∧ ((0 : Int) ≤ v5 ∧ v5 < ln ε (fn ε v0 16)) ∧ ∀ μ_3 : m_M, μ_3 = st μ_2 (fn ε v0 16) v5 (μ_2 (fn ε v0 8) (w32 (1428 + v5))) → ∀ v5_2 : Int, v5_2 = w32 (v5 + 1) → G cd_X12_isShapeOf Q X 20 [(0, (2, v0)), (1, (0, v1)), (2, (0, v2)), (3, (0, v3)), (4, (0, v4)), (5, (0, v5_2))] [] ε μ_3))
  intro hty
  replace h := h hty.1 (hty.2.1 _ (List.mem_of_getElem? (i := 1) rfl)) (hty.2.1 _ (List.mem_of_getElem? (i := 2) rfl)) (hty.2.1 _ (List.mem_of_getElem? (i := 3) rfl)) (hty.2.1 _ (List.mem_of_getElem? (i := 4) rfl)) (hty.2.1 _ (List.mem_of_getElem? (i := 5) rfl))
  obtain ⟨ha, hb⟩ := h
  refine And.intro (fun c14 => ?_) (fun c14 => ?_)
  · replace h := ha c14
    clear ha hb
    intro _
    obtain ⟨k1, h⟩ := h
    refine And.intro k1 ?_
    refine And.intro (by decide) ?_
    obtain ⟨k2, h⟩ := h
    refine And.intro k2 ?_
    obtain ⟨k3, h⟩ := h
    refine And.intro (And.intro (by decide) k3) ?_
    intro μ_1 e_μ_1
    replace h := h μ_1 e_μ_1
    intro v5_1 e_v5_1
    replace h := h v5_1 e_v5_1
    exact h
  · replace h := hb c14
    clear ha hb
    intro _
    obtain ⟨k4, h⟩ := h
    refine And.intro k4 ?_
    refine And.intro k4 ?_
    obtain ⟨k5, h⟩ := h
    refine And.intro k5 ?_
    obtain ⟨k6, h⟩ := h
    obtain ⟨k7, h⟩ := h
    refine And.intro (And.intro k6 k7) ?_
    obtain ⟨k8, h⟩ := h
    refine And.intro k8 ?_
    obtain ⟨k9, h⟩ := h
    obtain ⟨k10, h⟩ := h
    refine And.intro (And.intro k9 k10) ?_
    intro μ_2 e_μ_2
    replace h := h μ_2 e_μ_2
    refine And.intro k4 ?_
    refine And.intro k4 ?_
    obtain ⟨k11, h⟩ := h
    refine And.intro k11 ?_
    obtain ⟨k12, h⟩ := h
    refine And.intro (And.intro k6 k12) ?_
    obtain ⟨k13, h⟩ := h
    refine And.intro k13 ?_
    obtain ⟨k14, h⟩ := h
    refine And.intro (And.intro k9 k14) ?_
    intro μ_3 e_μ_3
    replace h := h μ_3 e_μ_3
    intro v5_2 e_v5_2
    replace h := h v5_2 e_v5_2
    exact h
set_option maxRecDepth 20000 in
theorem g_X12_isShapeOf_17 {Q X : m_Po} {v0 v1 v2 v3 v4 : Int} {ε : m_E} {μ : m_M} (h : TY ε μ → i32 v1 → i32 v2 → i32 v3 → i32 v4 → ∀ v5 : Int, v5 = 0 → G cd_X12_isShapeOf Q X 20 [(0, (2, v0)), (1, (0, v1)), (2, (0, v2)), (3, (0, v3)), (4, (0, v4)), (5, (0, v5))] [] ε μ) : G cd_X12_isShapeOf Q X 17 [(0, (2, v0)), (1, (0, v1)), (2, (0, v2)), (3, (0, v3)), (4, (0, v4))] [] ε μ := by
  refine G_run (m_in [17, 20, 82, 138, 154, 176]) 14 _ _ _ _ ?_
  show m_ty [(0, (2, v0)), (1, (0, v1)), (2, (0, v2)), (3, (0, v3)), (4, (0, v4))] [] ε μ → ∀ v5 : Int, v5 = 0 → G cd_X12_isShapeOf Q X 20 [(0, (2, v0)), (1, (0, v1)), (2, (0, v2)), (3, (0, v3)), (4, (0, v4)), (5, (0, v5))] [] ε μ
  intro hty
  replace h := h hty.1 (hty.2.1 _ (List.mem_of_getElem? (i := 1) rfl)) (hty.2.1 _ (List.mem_of_getElem? (i := 2) rfl)) (hty.2.1 _ (List.mem_of_getElem? (i := 3) rfl)) (hty.2.1 _ (List.mem_of_getElem? (i := 4) rfl))
  intro v5 e_v5
  replace h := h v5 e_v5
  exact h
set_option maxRecDepth 20000 in
theorem g_X12_isShapeOf_0 {Q X : m_Po} {v0 v1 v2 : Int} {ε : m_E} {μ : m_M} (h : TY ε μ → i32 v1 → i32 v2 → kd ε v0 = 11 ∧ kd ε (fn ε v0 6) = 100 ∧ 119 < ln ε (fn ε v0 6) ∧ ∀ v3 : Int, v3 = μ (fn ε v0 6) 119 → kd ε (fn ε v0 9) = 100 ∧ 119 < ln ε (fn ε v0 9) ∧ ∀ v4 : Int, v4 = μ (fn ε v0 9) 119 → ∀ v5 : Int, v5 = 0 → G cd_X12_isShapeOf Q X 20 [(0, (2, v0)), (1, (0, v1)), (2, (0, v2)), (3, (0, v3)), (4, (0, v4)), (5, (0, v5))] [] ε μ) : G cd_X12_isShapeOf Q X 0 [(0, (2, v0)), (1, (0, v1)), (2, (0, v2))] [] ε μ := by
  refine G_run (m_in [17, 20, 82, 138, 154, 176]) 14 _ _ _ _ ?_
  show m_ty [(0, (2, v0)), (1, (0, v1)), (2, (0, v2))] [] ε μ → (kd ε v0 = 11) ∧ (kd ε (fn ε v0 6) = 100) ∧ ((0 : Int) ≤ 119 ∧ 119 < ln ε (fn ε v0 6)) ∧ ∀ v3 : Int, v3 = μ (fn ε v0 6) 119 → (kd ε v0 = 11) ∧ (kd ε (fn ε v0 9) = 100) ∧ ((0 : Int) ≤ 119 ∧ 119 < ln ε (fn ε v0 9)) ∧ ∀ v4 : Int, v4 = μ (fn ε v0 9) 119 → G cd_X12_isShapeOf Q X 17 [(0, (2, v0)), (1, (0, v1)), (2, (0, v2)), (3, (0, v3)), (4, (0, v4))] [] ε μ
  intro hty
  replace h := h hty.1 (hty.2.1 _ (List.mem_of_getElem? (i := 1) rfl)) (hty.2.1 _ (List.mem_of_getElem? (i := 2) rfl))
  obtain ⟨k1, h⟩ := h
  refine And.intro k1 ?_
  obtain ⟨k2, h⟩ := h
  refine And.intro k2 ?_
  obtain ⟨k3, h⟩ := h
  refine And.intro (And.intro (by decide) k3) ?_
  intro v3 e_v3
  replace h := h v3 e_v3
  refine And.intro k1 ?_
  obtain ⟨k4, h⟩ := h
  refine And.intro k4 ?_
  obtain ⟨k5, h⟩ := h
  refine And.intro (And.intro (by decide) k5) ?_
  intro v4 e_v4
  replace h := h v4 e_v4
  exact g_X12_isShapeOf_17 (fun _ _ _ _ _ => h)
theorem e_X12_isShapeOf {Q X : m_Po} {v0 v1 v2 : Int} {ε : m_E} {μ : m_M} (h : TY ε μ → i32 v1 → i32 v2 → kd ε v0 = 11 ∧ kd ε (fn ε v0 6) = 100 ∧ 119 < ln ε (fn ε v0 6) ∧ ∀ v3 : Int, v3 = μ (fn ε v0 6) 119 → kd ε (fn ε v0 9) = 100 ∧ 119 < ln ε (fn ε v0 9) ∧ ∀ v4 : Int, v4 = μ (fn ε v0 9) 119 → ∀ v5 : Int, v5 = 0 → G cd_X12_isShapeOf Q X 20 [(0, (2, v0)), (1, (0, v1)), (2, (0, v2)), (3, (0, v3)), (4, (0, v4)), (5, (0, v5))] [] ε μ) : o_X12_isShapeOf [(2, v0), (0, v1), (0, v2)] ε μ Q X := And.intro rfl (g_X12_isShapeOf_0 h)
/-! ArchYardModel.cutWeight(IF)I -/
set_option maxRecDepth 20000 in
theorem g_X12_cutWeight_0 {Q X : m_Po} {v0 v1 : Int} {ε : m_E} {μ : m_M} (h : TY ε μ → i32 v0 → vf_n32 (FP.fmul (UInt32.ofNat (Int.toNat (o_i2f v0))) (UInt32.ofNat (Int.toNat v1))) ∧ Q (o_f2i (o_fmul (o_i2f v0) v1)) ε μ) : G cd_X12_cutWeight Q X 0 [(0, (0, v0)), (1, (3, v1))] [] ε μ := by
  refine G_run (m_in []) 2 _ _ _ _ ?_
  show m_ty [(0, (0, v0)), (1, (3, v1))] [] ε μ → (vf_n32 (FP.fmul (UInt32.ofNat (Int.toNat (o_i2f v0))) (UInt32.ofNat (Int.toNat v1)))) ∧ Q (o_f2i (o_fmul (o_i2f v0) v1)) ε μ
  intro hty
  replace h := h hty.1 (hty.2.1 _ (List.mem_of_getElem? (i := 0) rfl))
  obtain ⟨k1, h⟩ := h
  refine And.intro k1 ?_
  exact h
theorem e_X12_cutWeight {Q X : m_Po} {v0 v1 : Int} {ε : m_E} {μ : m_M} (h : TY ε μ → i32 v0 → vf_n32 (FP.fmul (UInt32.ofNat (Int.toNat (o_i2f v0))) (UInt32.ofNat (Int.toNat v1))) ∧ Q (o_f2i (o_fmul (o_i2f v0) v1)) ε μ) : o_X12_cutWeight [(0, v0), (3, v1)] ε μ Q X := And.intro rfl (g_X12_cutWeight_0 h)
/-! ArchYardModel.weighs(II)V -/
set_option maxRecDepth 20000 in
theorem g_X12_weighs_315 {Q X : m_Po} {t t_1 t_2 : Int} {ε : m_E} {μ : m_M} (h : TY ε μ → i32 t_1 → i32 t_2 → kd ε t = 100 ∧ (0 : Int) ≤ t_1 ∧ t_1 < ln ε t ∧ ∀ μ_1 : m_M, μ_1 = st μ t t_1 t_2 → Q 0 ε μ_1) : G cd_X12_weighs Q X 315 [] [(0, t_2), (0, t_1), (2, t)] ε μ := by
  refine G_run (m_in [10, 16, 44, 94, 129, 151, 169, 178, 215, 262, 284, 287, 315]) 27 _ _ _ _ ?_
  show m_ty [] [(0, t_2), (0, t_1), (2, t)] ε μ → (kd ε t = 100) ∧ ((0 : Int) ≤ t_1 ∧ t_1 < ln ε t) ∧ ∀ μ_1 : m_M, μ_1 = st μ t t_1 t_2 → Q 0 ε μ_1
  intro hty
  replace h := h hty.1 (hty.2.2 _ (List.mem_of_getElem? (i := 1) rfl)) (hty.2.2 _ (List.mem_of_getElem? (i := 0) rfl))
  obtain ⟨k1, h⟩ := h
  refine And.intro k1 ?_
  obtain ⟨k2, h⟩ := h
  obtain ⟨k3, h⟩ := h
  refine And.intro (And.intro k2 k3) ?_
  intro μ_1 e_μ_1
  replace h := h μ_1 e_μ_1
  exact h
set_option maxRecDepth 20000 in
theorem g_X12_weighs_287 {Q X : m_Po} {v0 v1 v2 v10 t : Int} {ε : m_E} {μ : m_M} (h : TY ε μ → i32 v1 → i32 v2 → i32 v10 → i32 t → ∀ v11 : Int, v11 = t → kd ε v0 = 11 ∧ ∀ t_1 : Int, t_1 = (if v10 = (4 : Int) then w32 (v11 - (w32 (Int.tdiv (w32 (v11 * v2)) 100))) else v11) → kd ε (fn ε v0 10) = 100 ∧ (0 : Int) ≤ v1 ∧ v1 < ln ε (fn ε v0 10) ∧ ∀ μ_1 : m_M, μ_1 = st μ (fn ε v0 10) v1 t_1 → Q 0 ε μ_1) : G cd_X12_weighs Q X 287 [(0, (2, v0)), (1, (0, v1)), (2, (0, v2)), (10, (0, v10))] [(0, t)] ε μ := by
  refine G_run (m_in [10, 16, 44, 94, 129, 151, 169, 178, 215, 262, 284, 287, 315]) 27 _ _ _ _ ?_
  show m_ty [(0, (2, v0)), (1, (0, v1)), (2, (0, v2)), (10, (0, v10))] [(0, t)] ε μ → ∀ v11 : Int, v11 = t → (kd ε v0 = 11) ∧ (v10 ≠ (4 : Int) → (m_ty [(11, (0, v11))] [(0, v1), (2, fn ε v0 10)] ε μ → G cd_X12_weighs Q X 315 [] [(0, v11), (0, v1), (2, fn ε v0 10)] ε μ)) ∧ (v10 = (4 : Int) → (m_ty [(2, (0, v2)), (11, (0, v11))] [(0, v1), (2, fn ε v0 10)] ε μ → ((100 : Int) ≠ 0) ∧ G cd_X12_weighs Q X 315 [] [(0, w32 (v11 - (w32 (Int.tdiv (w32 (v11 * v2)) 100)))), (0, v1), (2, fn ε v0 10)] ε μ))
  intro hty
  replace h := h hty.1 (hty.2.1 _ (List.mem_of_getElem? (i := 1) rfl)) (hty.2.1 _ (List.mem_of_getElem? (i := 2) rfl)) (hty.2.1 _ (List.mem_of_getElem? (i := 3) rfl)) (hty.2.2 _ (List.mem_of_getElem? (i := 0) rfl))
  intro v11 e_v11
  replace h := h v11 e_v11
  obtain ⟨k1, h⟩ := h
  refine And.intro k1 ?_
  have hj := h
  refine And.intro (fun c1 => ?_) (fun c1 => ?_)
  · intro _
    exact g_X12_weighs_315 (fun _ _ _ => (hj _ (((if_neg (c1)).trans rfl)).symm))
  · intro _
    refine And.intro (by decide) ?_
    exact g_X12_weighs_315 (fun _ _ _ => (hj _ (((if_pos c1).trans rfl)).symm))
set_option maxRecDepth 20000 in
theorem g_X12_weighs_284 {Q X : m_Po} {v0 v1 v2 v10 t t_1 : Int} {ε : m_E} {μ : m_M} (h : TY ε μ → i32 v1 → i32 v2 → i32 v10 → i32 t → o_X12_cutWeight [(0, t), (3, t_1)] ε μ (fun z ε_1 μ_1 => G cd_X12_weighs Q X 287 [(0, (2, v0)), (1, (0, v1)), (2, (0, v2)), (10, (0, v10))] [(0, z)] ε_1 μ_1) m_F) : G cd_X12_weighs Q X 284 [(0, (2, v0)), (1, (0, v1)), (2, (0, v2)), (10, (0, v10))] [(3, t_1), (0, t)] ε μ := by
  refine G_run (m_in [10, 16, 44, 94, 129, 151, 169, 178, 215, 262, 284, 287, 315]) 27 _ _ _ _ ?_
  show m_ty [(0, (2, v0)), (1, (0, v1)), (2, (0, v2)), (10, (0, v10))] [(3, t_1), (0, t)] ε μ → o_X12_cutWeight [(0, t), (3, t_1)] ε μ (fun z ε_1 μ_1 => G cd_X12_weighs Q X 287 [(0, (2, v0)), (1, (0, v1)), (2, (0, v2)), (10, (0, v10))] [(0, z)] ε_1 μ_1) m_F
  intro hty
  replace h := h hty.1 (hty.2.1 _ (List.mem_of_getElem? (i := 1) rfl)) (hty.2.1 _ (List.mem_of_getElem? (i := 2) rfl)) (hty.2.1 _ (List.mem_of_getElem? (i := 3) rfl)) (hty.2.2 _ (List.mem_of_getElem? (i := 1) rfl))
  exact h
set_option maxRecDepth 20000 in
theorem g_X12_weighs_262 {Q X : m_Po} {v0 v1 v2 v10 t t_1 : Int} {ε : m_E} {μ : m_M} (h : TY ε μ → i32 v1 → i32 v2 → i32 v10 → i32 t → i32 t_1 → ∀ t_2 : Int, t_2 = (if t_1 = (1 : Int) then 1076887552 else if v10 < (3 : Int) then 1075838976 else 1070596096) → o_X12_cutWeight [(0, t), (3, t_2)] ε μ (fun z ε_1 μ_1 => G cd_X12_weighs Q X 287 [(0, (2, v0)), (1, (0, v1)), (2, (0, v2)), (10, (0, v10))] [(0, z)] ε_1 μ_1) m_F) : G cd_X12_weighs Q X 262 [(0, (2, v0)), (1, (0, v1)), (2, (0, v2)), (10, (0, v10))] [(0, t_1), (0, t)] ε μ := by
  refine G_run (m_in [10, 16, 44, 94, 129, 151, 169, 178, 215, 262, 284, 287, 315]) 27 _ _ _ _ ?_
  show m_ty [(0, (2, v0)), (1, (0, v1)), (2, (0, v2)), (10, (0, v10))] [(0, t_1), (0, t)] ε μ → (t_1 ≠ (1 : Int) → (m_ty [(0, (2, v0)), (1, (0, v1)), (2, (0, v2)), (10, (0, v10))] [(0, t)] ε μ → (v10 < (3 : Int) → (m_ty [(0, (2, v0)), (1, (0, v1)), (2, (0, v2)), (10, (0, v10))] [(0, t)] ε μ → G cd_X12_weighs Q X 284 [(0, (2, v0)), (1, (0, v1)), (2, (0, v2)), (10, (0, v10))] [(3, 1075838976), (0, t)] ε μ)) ∧ ((3 : Int) ≤ v10 → (m_ty [(0, (2, v0)), (1, (0, v1)), (2, (0, v2)), (10, (0, v10))] [(0, t)] ε μ → G cd_X12_weighs Q X 284 [(0, (2, v0)), (1, (0, v1)), (2, (0, v2)), (10, (0, v10))] [(3, 1070596096), (0, t)] ε μ)))) ∧ (t_1 = (1 : Int) → (m_ty [(0, (2, v0)), (1, (0, v1)), (2, (0, v2)), (10, (0, v10))] [(0, t)] ε μ → G cd_X12_weighs Q X 284 [(0, (2, v0)), (1, (0, v1)), (2, (0, v2)), (10, (0, v10))] [(3, 1076887552), (0, t)] ε μ))
  intro hty
  replace h := h hty.1 (hty.2.1 _ (List.mem_of_getElem? (i := 1) rfl)) (hty.2.1 _ (List.mem_of_getElem? (i := 2) rfl)) (hty.2.1 _ (List.mem_of_getElem? (i := 3) rfl)) (hty.2.2 _ (List.mem_of_getElem? (i := 1) rfl)) (hty.2.2 _ (List.mem_of_getElem? (i := 0) rfl))
  have hj := h
  refine And.intro (fun c0 => ?_) (fun c0 => ?_)
  · intro _
    refine And.intro (fun c1 => ?_) (fun c1 => ?_)
    · intro _
      exact g_X12_weighs_284 (fun _ _ _ _ _ => (hj _ (((if_neg (c0)).trans ((if_pos c1).trans rfl))).symm))
    · intro _
      exact g_X12_weighs_284 (fun _ _ _ _ _ => (hj _ (((if_neg (c0)).trans ((if_neg (Int.not_lt.mpr c1)).trans rfl))).symm))
  · intro _
    exact g_X12_weighs_284 (fun _ _ _ _ _ => (hj _ (((if_pos c0).trans rfl)).symm))
set_option maxRecDepth 20000 in
theorem g_X12_weighs_215 {Q X : m_Po} {v0 v1 v2 v4 v6 v8 v10 : Int} {ε : m_E} {μ : m_M} (h : TY ε μ → i32 v1 → i32 v2 → i64 v4 → i64 v6 → i64 v8 → i32 v10 → G cd_X12_weighs Q X 151 [(0, (2, v0)), (1, (0, v1)), (2, (0, v2)), (4, (1, v4)), (6, (1, v6)), (8, (1, v8)), (10, (0, v10))] [] ε μ) : G cd_X12_weighs Q X 215 [(0, (2, v0)), (1, (0, v1)), (2, (0, v2)), (4, (1, v4)), (6, (1, v6)), (8, (1, v8)), (10, (0, v10))] [] ε μ := by
  refine G_run (m_in [10, 16, 44, 94, 129, 151, 169, 178, 215, 262, 284, 287, 315]) 27 _ _ _ _ ?_
  show m_ty [(0, (2, v0)), (1, (0, v1)), (2, (0, v2)), (4, (1, v4)), (6, (1, v6)), (8, (1, v8)), (10, (0, v10))] [] ε μ → G cd_X12_weighs Q X 151 [(0, (2, v0)), (1, (0, v1)), (2, (0, v2)), (4, (1, v4)), (6, (1, v6)), (8, (1, v8)), (10, (0, v10))] [] ε μ
  intro hty
  replace h := h hty.1 (hty.2.1 _ (List.mem_of_getElem? (i := 1) rfl)) (hty.2.1 _ (List.mem_of_getElem? (i := 2) rfl)) (hty.2.1 _ (List.mem_of_getElem? (i := 3) rfl)) (hty.2.1 _ (List.mem_of_getElem? (i := 4) rfl)) (hty.2.1 _ (List.mem_of_getElem? (i := 5) rfl)) (hty.2.1 _ (List.mem_of_getElem? (i := 6) rfl))
  exact h
set_option maxRecDepth 20000 in
theorem g_X12_weighs_178 {Q X : m_Po} {v0 v1 v2 v4 v6 v8 v10 v11 t : Int} {ε : m_E} {μ : m_M} (h : TY ε μ → i32 v1 → i32 v2 → i64 v4 → i64 v6 → i64 v8 → i32 v10 → i64 v11 → i64 t → ∀ v13 : Int, v13 = t → kd ε v0 = 11 ∧ v13 ≠ 0 ∧ kd ε (fn ε v0 12) = 101 ∧ (0 : Int) ≤ w32 ((w32 (2 * v1)) + v10) ∧ w32 ((w32 (2 * v1)) + v10) < ln ε (fn ε v0 12) ∧ ∀ μ_1 : m_M, μ_1 = st μ (fn ε v0 12) (w32 ((w32 (2 * v1)) + v10)) (w64 (Int.tdiv v11 v13)) → kd ε (fn ε v0 13) = 101 ∧ w32 ((w32 (2 * v1)) + v10) < ln ε (fn ε v0 13) ∧ ∀ μ_2 : m_M, μ_2 = st μ_1 (fn ε v0 13) (w32 ((w32 (2 * v1)) + v10)) (w64 (Int.tdiv v8 v13)) → ∀ v10_1 : Int, v10_1 = w32 (v10 + 1) → G cd_X12_weighs Q X 151 [(0, (2, v0)), (1, (0, v1)), (2, (0, v2)), (4, (1, v4)), (6, (1, v6)), (8, (1, v8)), (10, (0, v10_1))] [] ε μ_2) : G cd_X12_weighs Q X 178 [(0, (2, v0)), (1, (0, v1)), (2, (0, v2)), (4, (1, v4)), (6, (1, v6)), (8, (1, v8)), (10, (0, v10)), (11, (1, v11))] [(1, t)] ε μ := by
  refine G_run (m_in [10, 16, 44, 94, 129, 151, 169, 178, 215, 262, 284, 287, 315]) 27 _ _ _ _ ?_
  show m_ty [(0, (2, v0)), (1, (0, v1)), (2, (0, v2)), (4, (1, v4)), (6, (1, v6)), (8, (1, v8)), (10, (0, v10)), (11, (1, v11))] [(1, t)] ε μ → ∀ v13 : Int, v13 = t → (kd ε v0 = 11) ∧ (v13 ≠ 0) ∧ (kd ε (fn ε v0 12) = 101) ∧ ((0 : Int) ≤ w32 ((w32 (2 * v1)) + v10) ∧ w32 ((w32 (2 * v1)) + v10) < ln ε (fn ε v0 12)) ∧ ∀ μ_1 : m_M, μ_1 = st μ (fn ε v0 12) (w32 ((w32 (2 * v1)) + v10)) (w64 (Int.tdiv v11 v13)) → (kd ε v0 = 11) ∧ (v13 ≠ 0) ∧ (kd ε (fn ε v0 13) = 101) ∧ ((0 : Int) ≤ w32 ((w32 (2 * v1)) + v10) ∧ w32 ((w32 (2 * v1)) + v10) < ln ε (fn ε v0 13)) ∧ ∀ μ_2 : m_M, μ_2 = st μ_1 (fn ε v0 13) (w32 ((w32 (2 * v1)) + v10)) (w64 (Int.tdiv v8 v13)) → ∀ v10_1 : Int, v10_1 = w32 (v10 + 1) → G cd_X12_weighs Q X 215 [(0, (2, v0)), (1, (0, v1)), (2, (0, v2)), (4, (1, v4)), (6, (1, v6)), (8, (1, v8)), (10, (0, v10_1))] [] ε μ_2
  intro hty
  replace h := h hty.1 (hty.2.1 _ (List.mem_of_getElem? (i := 1) rfl)) (hty.2.1 _ (List.mem_of_getElem? (i := 2) rfl)) (hty.2.1 _ (List.mem_of_getElem? (i := 3) rfl)) (hty.2.1 _ (List.mem_of_getElem? (i := 4) rfl)) (hty.2.1 _ (List.mem_of_getElem? (i := 5) rfl)) (hty.2.1 _ (List.mem_of_getElem? (i := 6) rfl)) (hty.2.1 _ (List.mem_of_getElem? (i := 7) rfl)) (hty.2.2 _ (List.mem_of_getElem? (i := 0) rfl))
  intro v13 e_v13
  replace h := h v13 e_v13
  obtain ⟨k1, h⟩ := h
  refine And.intro k1 ?_
  obtain ⟨k2, h⟩ := h
  refine And.intro k2 ?_
  obtain ⟨k3, h⟩ := h
  refine And.intro k3 ?_
  obtain ⟨k4, h⟩ := h
  obtain ⟨k5, h⟩ := h
  refine And.intro (And.intro k4 k5) ?_
  intro μ_1 e_μ_1
  replace h := h μ_1 e_μ_1
  refine And.intro k1 ?_
  refine And.intro k2 ?_
  obtain ⟨k6, h⟩ := h
  refine And.intro k6 ?_
  obtain ⟨k7, h⟩ := h
  refine And.intro (And.intro k4 k7) ?_
  intro μ_2 e_μ_2
  replace h := h μ_2 e_μ_2
  intro v10_1 e_v10_1
  replace h := h v10_1 e_v10_1
  exact g_X12_weighs_215 (fun _ _ _ _ _ _ _ => h)
set_option maxRecDepth 20000 in
theorem g_X12_weighs_169 {Q X : m_Po} {v0 v1 v2 v4 v6 v8 v10 t : Int} {ε : m_E} {μ : m_M} (h : TY ε μ → i32 v1 → i32 v2 → i64 v4 → i64 v6 → i64 v8 → i32 v10 → i64 t → ∀ v11 : Int, v11 = t → o_X12_gcd [(1, v11), (1, v8)] ε μ (fun z ε_1 μ_1 => G cd_X12_weighs Q X 178 [(0, (2, v0)), (1, (0, v1)), (2, (0, v2)), (4, (1, v4)), (6, (1, v6)), (8, (1, v8)), (10, (0, v10)), (11, (1, v11))] [(1, z)] ε_1 μ_1) m_F) : G cd_X12_weighs Q X 169 [(0, (2, v0)), (1, (0, v1)), (2, (0, v2)), (4, (1, v4)), (6, (1, v6)), (8, (1, v8)), (10, (0, v10))] [(1, t)] ε μ := by
  refine G_run (m_in [10, 16, 44, 94, 129, 151, 169, 178, 215, 262, 284, 287, 315]) 27 _ _ _ _ ?_
  show m_ty [(0, (2, v0)), (1, (0, v1)), (2, (0, v2)), (4, (1, v4)), (6, (1, v6)), (8, (1, v8)), (10, (0, v10))] [(1, t)] ε μ → ∀ v11 : Int, v11 = t → o_X12_gcd [(1, v11), (1, v8)] ε μ (fun z ε_1 μ_1 => G cd_X12_weighs Q X 178 [(0, (2, v0)), (1, (0, v1)), (2, (0, v2)), (4, (1, v4)), (6, (1, v6)), (8, (1, v8)), (10, (0, v10)), (11, (1, v11))] [(1, z)] ε_1 μ_1) m_F
  intro hty
  replace h := h hty.1 (hty.2.1 _ (List.mem_of_getElem? (i := 1) rfl)) (hty.2.1 _ (List.mem_of_getElem? (i := 2) rfl)) (hty.2.1 _ (List.mem_of_getElem? (i := 3) rfl)) (hty.2.1 _ (List.mem_of_getElem? (i := 4) rfl)) (hty.2.1 _ (List.mem_of_getElem? (i := 5) rfl)) (hty.2.1 _ (List.mem_of_getElem? (i := 6) rfl)) (hty.2.2 _ (List.mem_of_getElem? (i := 0) rfl))
  intro v11 e_v11
  replace h := h v11 e_v11
  exact h
set_option maxRecDepth 20000 in
theorem g_X12_weighs_151 {Q X : m_Po} {v0 v1 v2 v4 v6 v8 v10 : Int} {ε : m_E} {μ : m_M} (h : TY ε μ → i32 v1 → i32 v2 → i64 v4 → i64 v6 → i64 v8 → i32 v10 → ((2 : Int) ≤ v10 → kd ε v0 = 11 ∧ kd ε (fn ε v0 12) = 101 ∧ (0 : Int) ≤ w32 (2 * v1) ∧ w32 (2 * v1) < ln ε (fn ε v0 12) ∧ kd ε (fn ε v0 13) = 101 ∧ w32 (2 * v1) < ln ε (fn ε v0 13) ∧ (μ (fn ε v0 13) (w32 (2 * v1))) ≠ 0 ∧ kd ε (fn ε v0 11) = 100 ∧ (0 : Int) ≤ v1 ∧ v1 < ln ε (fn ε v0 11) ∧ ∀ μ_1 : m_M, μ_1 = st μ (fn ε v0 11) v1 (w32 (w64 (Int.tdiv (w64 (10 * (μ (fn ε v0 12) (w32 (2 * v1))))) (μ (fn ε v0 13) (w32 (2 * v1)))))) → kd ε (fn ε v0 5) = 100 ∧ v1 < ln ε (fn ε v0 5) ∧ ∀ v10_1 : Int, v10_1 = μ_1 (fn ε v0 5) v1 → kd ε (fn ε v0 9) = 100 ∧ v1 < ln ε (fn ε v0 9) ∧ ∀ t : Int, t = (if v10_1 = (1 : Int) then 1076887552 else if v10_1 < (3 : Int) then 1075838976 else 1070596096) → o_X12_cutWeight [(0, (μ_1 (fn ε v0 9) v1)), (3, t)] ε μ_1 (fun z ε_1 μ_2 => G cd_X12_weighs Q X 287 [(0, (2, v0)), (1, (0, v1)), (2, (0, v2)), (10, (0, v10_1))] [(0, z)] ε_1 μ_2) m_F) ∧ (v10 < (2 : Int) → ∀ t_1 : Int, t_1 = (if v10 = 0 then v4 else v6) → ∀ v11 : Int, v11 = t_1 → o_X12_gcd [(1, v11), (1, v8)] ε μ (fun z_1 ε_2 μ_3 => G cd_X12_weighs Q X 178 [(0, (2, v0)), (1, (0, v1)), (2, (0, v2)), (4, (1, v4)), (6, (1, v6)), (8, (1, v8)), (10, (0, v10)), (11, (1, v11))] [(1, z_1)] ε_2 μ_3) m_F)) : G cd_X12_weighs Q X 151 [(0, (2, v0)), (1, (0, v1)), (2, (0, v2)), (4, (1, v4)), (6, (1, v6)), (8, (1, v8)), (10, (0, v10))] [] ε μ := by
  refine G_run (m_in [10, 16, 44, 94, 129, 151, 169, 178, 215, 262, 284, 287, 315]) 27 _ _ _ _ ?_
  show m_ty [(0, (2, v0)), (1, (0, v1)), (2, (0, v2)), (4, (1, v4)), (6, (1, v6)), (8, (1, v8)), (10, (0, v10))] [] ε μ → ((2 : Int) ≤ v10 → (m_ty [(0, (2, v0)), (1, (0, v1)), (2, (0, v2))] [] ε μ → (kd ε v0 = 11) ∧ (kd ε v0 = 11) ∧ (kd ε (fn ε v0 12) = 101) ∧ ((0 : Int) ≤ w32 (2 * v1) ∧ w32 (2 * v1) < ln ε (fn ε v0 12)) ∧ (kd ε v0 = 11) ∧ (kd ε (fn ε v0 13) = 101) ∧ ((0 : Int) ≤ w32 (2 * v1) ∧ w32 (2 * v1) < ln ε (fn ε v0 13)) ∧ ((μ (fn ε v0 13) (w32 (2 * v1))) ≠ 0) ∧ (kd ε (fn ε v0 11) = 100) ∧ ((0 : Int) ≤ v1 ∧ v1 < ln ε (fn ε v0 11)) ∧ ∀ μ_1 : m_M, μ_1 = st μ (fn ε v0 11) v1 (w32 (w64 (Int.tdiv (w64 (10 * (μ (fn ε v0 12) (w32 (2 * v1))))) (μ (fn ε v0 13) (w32 (2 * v1)))))) → (kd ε v0 = 11) ∧ (kd ε (fn ε v0 5) = 100) ∧ ((0 : Int) ≤ v1 ∧ v1 < ln ε (fn ε v0 5)) ∧ ∀ v10_1 : Int, v10_1 = μ_1 (fn ε v0 5) v1 → (kd ε v0 = 11) ∧ (kd ε (fn ε v0 9) = 100) ∧ ((0 : Int) ≤ v1 ∧ v1 < ln ε (fn ε v0 9)) ∧ G cd_X12_weighs Q X 262 [(0, (2, v0)), (1, (0, v1)), (2, (0, v2)), (10, (0, v10_1))] [(0, v10_1), (0, μ_1 (fn ε v0 9) v1)] ε μ_1)) ∧ (v10 < (2 : Int) → (m_ty [(0, (2, v0)), (1, (0, v1)), (2, (0, v2)), (4, (1, v4)), (6, (1, v6)), (8, (1, v8)), (10, (0, v10))] [] ε μ → (v10 ≠ 0 → (m_ty [(0, (2, v0)), (1, (0, v1)), (2, (0, v2)), (4, (1, v4)), (6, (1, v6)), (8, (1, v8)), (10, (0, v10))] [] ε μ → G cd_X12_weighs Q X 169 [(0, (2, v0)), (1, (0, v1)), (2, (0, v2)), (4, (1, v4)), (6, (1, v6)), (8, (1, v8)), (10, (0, v10))] [(1, v6)] ε μ)) ∧ (v10 = 0 → (m_ty [(0, (2, v0)), (1, (0, v1)), (2, (0, v2)), (4, (1, v4)), (6, (1, v6)), (8, (1, v8)), (10, (0, v10))] [] ε μ → G cd_X12_weighs Q X 169 [(0, (2, v0)), (1, (0, v1)), (2, (0, v2)), (4, (1, v4)), (6, (1, v6)), (8, (1, v8)), (10, (0, v10))] [(1, v4)] ε μ))))
  intro hty
  replace h := h hty.1 (hty.2.1 _ (List.mem_of_getElem? (i := 1) rfl)) (hty.2.1 _ (List.mem_of_getElem? (i := 2) rfl)) (hty.2.1 _ (List.mem_of_getElem? (i := 3) rfl)) (hty.2.1 _ (List.mem_of_getElem? (i := 4) rfl)) (hty.2.1 _ (List.mem_of_getElem? (i := 5) rfl)) (hty.2.1 _ (List.mem_of_getElem? (i := 6) rfl))
  obtain ⟨ha, hb⟩ := h
  refine And.intro (fun c17 => ?_) (fun c17 => ?_)
  · replace h := ha c17
    clear ha hb
    intro _
    obtain ⟨k1, h⟩ := h
    refine And.intro k1 ?_
    refine And.intro k1 ?_
    obtain ⟨k2, h⟩ := h
    refine And.intro k2 ?_
    obtain ⟨k3, h⟩ := h
    obtain ⟨k4, h⟩ := h
    refine And.intro (And.intro k3 k4) ?_
    refine And.intro k1 ?_
    obtain ⟨k5, h⟩ := h
    refine And.intro k5 ?_
    obtain ⟨k6, h⟩ := h
    refine And.intro (And.intro k3 k6) ?_
    obtain ⟨k7, h⟩ := h
    refine And.intro k7 ?_
    obtain ⟨k8, h⟩ := h
    refine And.intro k8 ?_
    obtain ⟨k9, h⟩ := h
    obtain ⟨k10, h⟩ := h
    refine And.intro (And.intro k9 k10) ?_
    intro μ_1 e_μ_1
    replace h := h μ_1 e_μ_1
    refine And.intro k1 ?_
    obtain ⟨k11, h⟩ := h
    refine And.intro k11 ?_
    obtain ⟨k12, h⟩ := h
    refine And.intro (And.intro k9 k12) ?_
    intro v10_1 e_v10_1
    replace h := h v10_1 e_v10_1
    refine And.intro k1 ?_
    obtain ⟨k13, h⟩ := h
    refine And.intro k13 ?_
    obtain ⟨k14, h⟩ := h
    refine And.intro (And.intro k9 k14) ?_
    exact g_X12_weighs_262 (fun _ _ _ _ _ _ => h)
  · replace h := hb c17
    clear ha hb
    intro _
    have hj := h
    refine And.intro (fun c16 => ?_) (fun c16 => ?_)
    · intro _
      exact g_X12_weighs_169 (fun _ _ _ _ _ _ _ _ => (hj _ (((if_neg (c16)).trans rfl)).symm))
    · intro _
      exact g_X12_weighs_169 (fun _ _ _ _ _ _ _ _ => (hj _ (((if_pos c16).trans rfl)).symm))
set_option maxRecDepth 20000 in
theorem g_X12_weighs_129 {Q X : m_Po} {v0 v1 v2 v3 v4 v6 v8 : Int} {ε : m_E} {μ : m_M} (h : TY ε μ → i32 v1 → i32 v2 → i32 v3 → i64 v4 → i64 v6 → i32 v8 → ∀ v8_1 : Int, v8_1 = w32 (v8 + 1) → G cd_X12_weighs Q X 16 [(0, (2, v0)), (1, (0, v1)), (2, (0, v2)), (3, (0, v3)), (4, (1, v4)), (6, (1, v6)), (8, (0, v8_1))] [] ε μ) : G cd_X12_weighs Q X 129 [(0, (2, v0)), (1, (0, v1)), (2, (0, v2)), (3, (0, v3)), (4, (1, v4)), (6, (1, v6)), (8, (0, v8))] [] ε μ := by
  refine G_run (m_in [10, 16, 44, 94, 129, 151, 169, 178, 215, 262, 284, 287, 315]) 27 _ _ _ _ ?_
  show m_ty [(0, (2, v0)), (1, (0, v1)), (2, (0, v2)), (3, (0, v3)), (4, (1, v4)), (6, (1, v6)), (8, (0, v8))] [] ε μ → ∀ v8_1 : Int, v8_1 = w32 (v8 + 1) → G cd_X12_weighs Q X 16 [(0, (2, v0)), (1, (0, v1)), (2, (0, v2)), (3, (0, v3)), (4, (1, v4)), (6, (1, v6)), (8, (0, v8_1))] [] ε μ
  intro hty
  replace h := h hty.1 (hty.2.1 _ (List.mem_of_getElem? (i := 1) rfl)) (hty.2.1 _ (List.mem_of_getElem? (i := 2) rfl)) (hty.2.1 _ (List.mem_of_getElem? (i := 3) rfl)) (hty.2.1 _ (List.mem_of_getElem? (i := 4) rfl)) (hty.2.1 _ (List.mem_of_getElem? (i := 5) rfl)) (hty.2.1 _ (List.mem_of_getElem? (i := 6) rfl))
  intro v8_1 e_v8_1
  replace h := h v8_1 e_v8_1
  exact h
set_option maxRecDepth 20000 in
theorem g_X12_weighs_94 {Q X : m_Po} {v0 v1 v2 v3 v6 v8 v9 v10 v11 t t_1 t_2 : Int} {ε : m_E} {μ : m_M} (h : TY ε μ → i32 v1 → i32 v2 → i32 v3 → i64 v6 → i32 v8 → i32 v9 → i32 v10 → i64 v11 → i64 t → i32 t_1 → kd ε t_2 = 100 ∧ (0 : Int) ≤ v10 ∧ v10 < ln ε t_2 ∧ ∀ v4 : Int, v4 = w64 (t + (w64 ((w32 (t_1 + (μ t_2 v10))) * v11))) → kd ε v0 = 11 ∧ kd ε (fn ε v0 8) = 100 ∧ (0 : Int) ≤ v9 ∧ v9 < ln ε (fn ε v0 8) ∧ v10 < ln ε (fn ε v0 8) ∧ ∀ v6_1 : Int, v6_1 = w64 (v6 + (w64 ((w32 ((μ (fn ε v0 8) v9) + (μ (fn ε v0 8) v10))) * v11))) → ∀ v8_1 : Int, v8_1 = w32 (v8 + 1) → G cd_X12_weighs Q X 16 [(0, (2, v0)), (1, (0, v1)), (2, (0, v2)), (3, (0, v3)), (4, (1, v4)), (6, (1, v6_1)), (8, (0, v8_1))] [] ε μ) : G cd_X12_weighs Q X 94 [(0, (2, v0)), (1, (0, v1)), (2, (0, v2)), (3, (0, v3)), (6, (1, v6)), (8, (0, v8)), (9, (0, v9)), (10, (0, v10)), (11, (1, v11))] [(2, t_2), (0, t_1), (1, t)] ε μ := by
  refine G_run (m_in [10, 16, 44, 94, 129, 151, 169, 178, 215, 262, 284, 287, 315]) 27 _ _ _ _ ?_
  show m_ty [(0, (2, v0)), (1, (0, v1)), (2, (0, v2)), (3, (0, v3)), (6, (1, v6)), (8, (0, v8)), (9, (0, v9)), (10, (0, v10)), (11, (1, v11))] [(2, t_2), (0, t_1), (1, t)] ε μ → (kd ε t_2 = 100) ∧ ((0 : Int) ≤ v10 ∧ v10 < ln ε t_2) ∧ ∀ v4 : Int, v4 = w64 (t + (w64 ((w32 (t_1 + (μ t_2 v10))) * v11))) → (kd ε v0 = 11) ∧ (kd ε (fn ε v0 8) = 100) ∧ ((0 : Int) ≤ v9 ∧ v9 < ln ε (fn ε v0 8)) ∧ (kd ε v0 = 11) ∧ (kd ε (fn ε v0 8) = 100) ∧ ((0 : Int) ≤ v10 ∧ v10 < ln ε (fn ε v0 8)) ∧ ∀ v6_1 : Int, v6_1 = w64 (v6 + (w64 ((w32 ((μ (fn ε v0 8) v9) + (μ (fn ε v0 8) v10))) * v11))) → G cd_X12_weighs Q X 129 [(0, (2, v0)), (1, (0, v1)), (2, (0, v2)), (3, (0, v3)), (4, (1, v4)), (6, (1, v6_1)), (8, (0, v8))] [] ε μ
  intro hty
  replace h := h hty.1 (hty.2.1 _ (List.mem_of_getElem? (i := 1) rfl)) (hty.2.1 _ (List.mem_of_getElem? (i := 2) rfl)) (hty.2.1 _ (List.mem_of_getElem? (i := 3) rfl)) (hty.2.1 _ (List.mem_of_getElem? (i := 4) rfl)) (hty.2.1 _ (List.mem_of_getElem? (i := 5) rfl)) (hty.2.1 _ (List.mem_of_getElem? (i := 6) rfl)) (hty.2.1 _ (List.mem_of_getElem? (i := 7) rfl)) (hty.2.1 _ (List.mem_of_getElem? (i := 8) rfl)) (hty.2.2 _ (List.mem_of_getElem? (i := 2) rfl)) (hty.2.2 _ (List.mem_of_getElem? (i := 1) rfl))
  obtain ⟨k1, h⟩ := h
  refine And.intro k1 ?_
  obtain ⟨k2, h⟩ := h
  obtain ⟨k3, h⟩ := h
  refine And.intro (And.intro k2 k3) ?_
  intro v4 e_v4
  replace h := h v4 e_v4
  obtain ⟨k4, h⟩ := h
  refine And.intro k4 ?_
  obtain ⟨k5, h⟩ := h
  refine And.intro k5 ?_
  obtain ⟨k6, h⟩ := h
  obtain ⟨k7, h⟩ := h
  refine And.intro (And.intro k6 k7) ?_
  refine And.intro k4 ?_
  refine And.intro k5 ?_
  obtain ⟨k8, h⟩ := h
  refine And.intro (And.intro k2 k8) ?_
  intro v6_1 e_v6_1
  replace h := h v6_1 e_v6_1
  exact g_X12_weighs_129 (fun _ _ _ _ _ _ _ => h)
set_option maxRecDepth 20000 in
theorem g_X12_weighs_44 {Q X : m_Po} {v0 v1 v2 v3 v4 v6 v8 v9 v10 : Int} {ε : m_E} {μ : m_M} (h : TY ε μ → i32 v1 → i32 v2 → i32 v3 → i64 v4 → i64 v6 → i32 v8 → i32 v9 → i32 v10 → kd ε v0 = 11 ∧ kd ε (fn ε v0 7) = 100 ∧ (0 : Int) ≤ v9 ∧ v9 < ln ε (fn ε v0 7) ∧ kd ε (fn ε v0 8) = 100 ∧ (0 : Int) ≤ v10 ∧ v10 < ln ε (fn ε v0 8) ∧ v10 < ln ε (fn ε v0 7) ∧ v9 < ln ε (fn ε v0 8) ∧ ∀ v11 : Int, v11 = w64 ((w64 ((μ (fn ε v0 7) v9) * (μ (fn ε v0 8) v10))) - (w64 ((μ (fn ε v0 7) v10) * (μ (fn ε v0 8) v9)))) → kd ε (fn ε v0 7) = 100 ∧ (0 : Int) ≤ v10 ∧ v10 < ln ε (fn ε v0 7) ∧ ∀ v4_1 : Int, v4_1 = w64 (v4 + (w64 ((w32 ((μ (fn ε v0 7) v9) + (μ (fn ε v0 7) v10))) * v11))) → kd ε v0 = 11 ∧ kd ε (fn ε v0 8) = 100 ∧ (0 : Int) ≤ v9 ∧ v9 < ln ε (fn ε v0 8) ∧ v10 < ln ε (fn ε v0 8) ∧ ∀ v6_1 : Int, v6_1 = w64 (v6 + (w64 ((w32 ((μ (fn ε v0 8) v9) + (μ (fn ε v0 8) v10))) * v11))) → ∀ v8_1 : Int, v8_1 = w32 (v8 + 1) → G cd_X12_weighs Q X 16 [(0, (2, v0)), (1, (0, v1)), (2, (0, v2)), (3, (0, v3)), (4, (1, v4_1)), (6, (1, v6_1)), (8, (0, v8_1))] [] ε μ) : G cd_X12_weighs Q X 44 [(0, (2, v0)), (1, (0, v1)), (2, (0, v2)), (3, (0, v3)), (4, (1, v4)), (6, (1, v6)), (8, (0, v8)), (9, (0, v9)), (10, (0, v10))] [] ε μ := by
  refine G_run (m_in [10, 16, 44, 94, 129, 151, 169, 178, 215, 262, 284, 287, 315]) 27 _ _ _ _ ?_
  show m_ty [(0, (2, v0)), (1, (0, v1)), (2, (0, v2)), (3, (0, v3)), (4, (1, v4)), (6, (1, v6)), (8, (0, v8)), (9, (0, v9)), (10, (0, v10))] [] ε μ → (kd ε v0 = 11) ∧ (kd ε (fn ε v0 7) = 100) ∧ ((0 : Int) ≤ v9 ∧ v9 < ln ε (fn ε v0 7)) ∧ (kd ε v0 = 11) ∧ (kd ε (fn ε v0 8) = 100) ∧ ((0 : Int) ≤ v10 ∧ v10 < ln ε (fn ε v0 8)) ∧ (kd ε v0 = 11) ∧ (kd ε (fn ε v0 7) = 100) ∧ ((0 : Int) ≤ v10 ∧ v10 < ln ε (fn ε v0 7)) ∧ (kd ε v0 = 11) ∧ (kd ε (fn ε v0 8) = 100) ∧ ((0 : Int) ≤ v9 ∧ v9 < ln ε (fn ε v0 8)) ∧ ∀ v11 : Int, v11 = w64 ((w64 ((μ (fn ε v0 7) v9) * (μ (fn ε v0 8) v10))) - (w64 ((μ (fn ε v0 7) v10) * (μ (fn ε v0 8) v9)))) → (kd ε v0 = 11) ∧ (kd ε (fn ε v0 7) = 100) ∧ ((0 : Int) ≤ v9 ∧ v9 < ln ε (fn ε v0 7)) ∧ (kd ε v0 = 11) ∧ G cd_X12_weighs Q X 94 [(0, (2, v0)), (1, (0, v1)), (2, (0, v2)), (3, (0, v3)), (6, (1, v6)), (8, (0, v8)), (9, (0, v9)), (10, (0, v10)), (11, (1, v11))] [(2, fn ε v0 7), (0, μ (fn ε v0 7) v9), (1, v4)] ε μ
  intro hty
  replace h := h hty.1 (hty.2.1 _ (List.mem_of_getElem? (i := 1) rfl)) (hty.2.1 _ (List.mem_of_getElem? (i := 2) rfl)) (hty.2.1 _ (List.mem_of_getElem? (i := 3) rfl)) (hty.2.1 _ (List.mem_of_getElem? (i := 4) rfl)) (hty.2.1 _ (List.mem_of_getElem? (i := 5) rfl)) (hty.2.1 _ (List.mem_of_getElem? (i := 6) rfl)) (hty.2.1 _ (List.mem_of_getElem? (i := 7) rfl)) (hty.2.1 _ (List.mem_of_getElem? (i := 8) rfl))
  obtain ⟨k1, h⟩ := h
  refine And.intro k1 ?_
  obtain ⟨k2, h⟩ := h
  refine And.intro k2 ?_
  obtain ⟨k3, h⟩ := h
  obtain ⟨k4, h⟩ := h
  refine And.intro (And.intro k3 k4) ?_
  refine And.intro k1 ?_
  obtain ⟨k5, h⟩ := h
  refine And.intro k5 ?_
  obtain ⟨k6, h⟩ := h
  obtain ⟨k7, h⟩ := h
  refine And.intro (And.intro k6 k7) ?_
  refine And.intro k1 ?_
  refine And.intro k2 ?_
  obtain ⟨k8, h⟩ := h
  refine And.intro (And.intro k6 k8) ?_
  refine And.intro k1 ?_
  refine And.intro k5 ?_
  obtain ⟨k9, h⟩ := h
  refine And.intro (And.intro k3 k9) ?_
  intro v11 e_v11
  replace h := h v11 e_v11
  refine And.intro k1 ?_
  refine And.intro k2 ?_
  refine And.intro (And.intro k3 k4) ?_
  refine And.intro k1 ?_
  exact g_X12_weighs_94 (fun _ _ _ _ _ _ _ _ _ _ _ => h)
set_option maxRecDepth 20000 in
theorem g_X12_weighs_16 {Q X : m_Po} {v0 v1 v2 v3 v4 v6 v8 : Int} {ε : m_E} {μ : m_M} (h : TY ε μ → i32 v1 → i32 v2 → i32 v3 → i64 v4 → i64 v6 → i32 v8 → (v3 ≤ v8 → kd ε v0 = 11 ∧ kd ε (fn ε v0 9) = 100 ∧ (0 : Int) ≤ v1 ∧ v1 < ln ε (fn ε v0 9) ∧ ∀ v8_1 : Int, v8_1 = w64 (3 * (μ (fn ε v0 9) v1)) → ∀ v10 : Int, v10 = 0 → G cd_X12_weighs Q X 151 [(0, (2, v0)), (1, (0, v1)), (2, (0, v2)), (4, (1, v4)), (6, (1, v6)), (8, (1, v8_1)), (10, (0, v10))] [] ε μ) ∧ (v8 < v3 → ∀ v9 : Int, v9 = w32 ((w32 (12 * v1)) + v8) → v3 ≠ 0 ∧ ∀ v10_1 : Int, v10_1 = w32 ((w32 (12 * v1)) + (Int.tmod (w32 (v8 + 1)) v3)) → kd ε v0 = 11 ∧ kd ε (fn ε v0 7) = 100 ∧ (0 : Int) ≤ v9 ∧ v9 < ln ε (fn ε v0 7) ∧ kd ε (fn ε v0 8) = 100 ∧ (0 : Int) ≤ v10_1 ∧ v10_1 < ln ε (fn ε v0 8) ∧ v10_1 < ln ε (fn ε v0 7) ∧ v9 < ln ε (fn ε v0 8) ∧ ∀ v11 : Int, v11 = w64 ((w64 ((μ (fn ε v0 7) v9) * (μ (fn ε v0 8) v10_1))) - (w64 ((μ (fn ε v0 7) v10_1) * (μ (fn ε v0 8) v9)))) → kd ε (fn ε v0 7) = 100 ∧ (0 : Int) ≤ v10_1 ∧ v10_1 < ln ε (fn ε v0 7) ∧ ∀ v4_1 : Int, v4_1 = w64 (v4 + (w64 ((w32 ((μ (fn ε v0 7) v9) + (μ (fn ε v0 7) v10_1))) * v11))) → kd ε v0 = 11 ∧ kd ε (fn ε v0 8) = 100 ∧ (0 : Int) ≤ v9 ∧ v9 < ln ε (fn ε v0 8) ∧ v10_1 < ln ε (fn ε v0 8) ∧ ∀ v6_1 : Int, v6_1 = w64 (v6 + (w64 ((w32 ((μ (fn ε v0 8) v9) + (μ (fn ε v0 8) v10_1))) * v11))) → ∀ v8_2 : Int, v8_2 = w32 (v8 + 1) → G cd_X12_weighs Q X 16 [(0, (2, v0)), (1, (0, v1)), (2, (0, v2)), (3, (0, v3)), (4, (1, v4_1)), (6, (1, v6_1)), (8, (0, v8_2))] [] ε μ)) : G cd_X12_weighs Q X 16 [(0, (2, v0)), (1, (0, v1)), (2, (0, v2)), (3, (0, v3)), (4, (1, v4)), (6, (1, v6)), (8, (0, v8))] [] ε μ := by
  refine G_run (m_in [10, 16, 44, 94, 129, 151, 169, 178, 215, 262, 284, 287, 315]) 27 _ _ _ _ ?_
  show m_ty [(0, (2, v0)), (1, (0, v1)), (2, (0, v2)), (3, (0, v3)), (4, (1, v4)), (6, (1, v6)), (8, (0, v8))] [] ε μ → (v3 ≤ v8 → (m_ty [(0, (2, v0)), (1, (0, v1)), (2, (0, v2)), (4, (1, v4)), (6, (1, v6))] [] ε μ → (kd ε v0 = 11) ∧ (kd ε (fn ε v0 9) = 100) ∧ ((0 : Int) ≤ v1 ∧ v1 < ln ε (fn ε v0 9)) ∧ ∀ v8_1 : Int, v8_1 = w64 (3 * (μ (fn ε v0 9) v1)) → ∀ v10 : Int, v10 = 0 → G cd_X12_weighs Q X 151 [(0, (2, v0)), (1, (0, v1)), (2, (0, v2)), (4, (1, v4)), (6, (1, v6)), (8, (1, v8_1)), (10, (0, v10))] [] ε μ)) ∧ (v8 < v3 → (m_ty [(0, (2, v0)), (1, (0, v1)), (2, (0, v2)), (3, (0, v3)), (4, (1, v4)), (6, (1, v6)), (8, (0, v8))] [] ε μ → ∀ v9 : Int, v9 = w32 ((w32 (12 * v1)) + v8) → (v3 ≠ 0) ∧ ∀ v10_1 : Int, v10_1 = w32 ((w32 (12 * v1)) + (Int.tmod (w32 (v8 + 1)) v3)) → G cd_X12_weighs Q X 44 [(0, (2, v0)), (1, (0, v1)), (2, (0, v2)), (3, (0, v3)), (4, (1, v4)), (6, (1, v6)), (8, (0, v8)), (9, (0, v9)), (10, (0, v10_1))] [] ε μ))
  intro hty
  replace h := h hty.1 (hty.2.1 _ (List.mem_of_getElem? (i := 1) rfl)) (hty.2.1 _ (List.mem_of_getElem? (i := 2) rfl)) (hty.2.1 _ (List.mem_of_getElem? (i := 3) rfl)) (hty.2.1 _ (List.mem_of_getElem? (i := 4) rfl)) (hty.2.1 _ (List.mem_of_getElem? (i := 5) rfl)) (hty.2.1 _ (List.mem_of_getElem? (i := 6) rfl))
  obtain ⟨ha, hb⟩ := h
  refine And.intro (fun c22 => ?_) (fun c22 => ?_)
  · replace h := ha c22
    clear ha hb
    intro _
    obtain ⟨k1, h⟩ := h
    refine And.intro k1 ?_
    obtain ⟨k2, h⟩ := h
    refine And.intro k2 ?_
    obtain ⟨k3, h⟩ := h
    obtain ⟨k4, h⟩ := h
    refine And.intro (And.intro k3 k4) ?_
    intro v8_1 e_v8_1
    replace h := h v8_1 e_v8_1
    intro v10 e_v10
    replace h := h v10 e_v10
    exact h
  · replace h := hb c22
    clear ha hb
    intro _
    intro v9 e_v9
    replace h := h v9 e_v9
    obtain ⟨k5, h⟩ := h
    refine And.intro k5 ?_
    intro v10_1 e_v10_1
    replace h := h v10_1 e_v10_1
    exact g_X12_weighs_44 (fun _ _ _ _ _ _ _ _ _ => h)
set_option maxRecDepth 20000 in
theorem g_X12_weighs_10 {Q X : m_Po} {v0 v1 v2 v3 v4 : Int} {ε : m_E} {μ : m_M} (h : TY ε μ → i32 v1 → i32 v2 → i32 v3 → i64 v4 → ∀ v6 : Int, v6 = 0 → ∀ v8 : Int, v8 = 0 → G cd_X12_weighs Q X 16 [(0, (2, v0)), (1, (0, v1)), (2, (0, v2)), (3, (0, v3)), (4, (1, v4)), (6, (1, v6)), (8, (0, v8))] [] ε μ) : G cd_X12_weighs Q X 10 [(0, (2, v0)), (1, (0, v1)), (2, (0, v2)), (3, (0, v3)), (4, (1, v4))] [] ε μ := by
  refine G_run (m_in [10, 16, 44, 94, 129, 151, 169, 178, 215, 262, 284, 287, 315]) 27 _ _ _ _ ?_
  show m_ty [(0, (2, v0)), (1, (0, v1)), (2, (0, v2)), (3, (0, v3)), (4, (1, v4))] [] ε μ → ∀ v6 : Int, v6 = 0 → ∀ v8 : Int, v8 = 0 → G cd_X12_weighs Q X 16 [(0, (2, v0)), (1, (0, v1)), (2, (0, v2)), (3, (0, v3)), (4, (1, v4)), (6, (1, v6)), (8, (0, v8))] [] ε μ
  intro hty
  replace h := h hty.1 (hty.2.1 _ (List.mem_of_getElem? (i := 1) rfl)) (hty.2.1 _ (List.mem_of_getElem? (i := 2) rfl)) (hty.2.1 _ (List.mem_of_getElem? (i := 3) rfl)) (hty.2.1 _ (List.mem_of_getElem? (i := 4) rfl))
  intro v6 e_v6
  replace h := h v6 e_v6
  intro v8 e_v8
  replace h := h v8 e_v8
  exact h
set_option maxRecDepth 20000 in
theorem g_X12_weighs_0 {Q X : m_Po} {v0 v1 v2 : Int} {ε : m_E} {μ : m_M} (h : TY ε μ → i32 v1 → i32 v2 → kd ε v0 = 11 ∧ kd ε (fn ε v0 6) = 100 ∧ (0 : Int) ≤ v1 ∧ v1 < ln ε (fn ε v0 6) ∧ ∀ v3 : Int, v3 = μ (fn ε v0 6) v1 → ∀ v4 : Int, v4 = 0 → ∀ v6 : Int, v6 = 0 → ∀ v8 : Int, v8 = 0 → G cd_X12_weighs Q X 16 [(0, (2, v0)), (1, (0, v1)), (2, (0, v2)), (3, (0, v3)), (4, (1, v4)), (6, (1, v6)), (8, (0, v8))] [] ε μ) : G cd_X12_weighs Q X 0 [(0, (2, v0)), (1, (0, v1)), (2, (0, v2))] [] ε μ := by
  refine G_run (m_in [10, 16, 44, 94, 129, 151, 169, 178, 215, 262, 284, 287, 315]) 27 _ _ _ _ ?_
  show m_ty [(0, (2, v0)), (1, (0, v1)), (2, (0, v2))] [] ε μ → (kd ε v0 = 11) ∧ (kd ε (fn ε v0 6) = 100) ∧ ((0 : Int) ≤ v1 ∧ v1 < ln ε (fn ε v0 6)) ∧ ∀ v3 : Int, v3 = μ (fn ε v0 6) v1 → ∀ v4 : Int, v4 = 0 → G cd_X12_weighs Q X 10 [(0, (2, v0)), (1, (0, v1)), (2, (0, v2)), (3, (0, v3)), (4, (1, v4))] [] ε μ
  intro hty
  replace h := h hty.1 (hty.2.1 _ (List.mem_of_getElem? (i := 1) rfl)) (hty.2.1 _ (List.mem_of_getElem? (i := 2) rfl))
  obtain ⟨k1, h⟩ := h
  refine And.intro k1 ?_
  obtain ⟨k2, h⟩ := h
  refine And.intro k2 ?_
  obtain ⟨k3, h⟩ := h
  obtain ⟨k4, h⟩ := h
  refine And.intro (And.intro k3 k4) ?_
  intro v3 e_v3
  replace h := h v3 e_v3
  intro v4 e_v4
  replace h := h v4 e_v4
  exact g_X12_weighs_10 (fun _ _ _ _ _ => h)
theorem e_X12_weighs {Q X : m_Po} {v0 v1 v2 : Int} {ε : m_E} {μ : m_M} (h : TY ε μ → i32 v1 → i32 v2 → kd ε v0 = 11 ∧ kd ε (fn ε v0 6) = 100 ∧ (0 : Int) ≤ v1 ∧ v1 < ln ε (fn ε v0 6) ∧ ∀ v3 : Int, v3 = μ (fn ε v0 6) v1 → ∀ v4 : Int, v4 = 0 → ∀ v6 : Int, v6 = 0 → ∀ v8 : Int, v8 = 0 → G cd_X12_weighs Q X 16 [(0, (2, v0)), (1, (0, v1)), (2, (0, v2)), (3, (0, v3)), (4, (1, v4)), (6, (1, v6)), (8, (0, v8))] [] ε μ) : o_X12_weighs [(2, v0), (0, v1), (0, v2)] ε μ Q X := And.intro rfl (g_X12_weighs_0 h)
/-! ArchYardModel.stone(IIII)I -/
set_option maxRecDepth 20000 in
theorem g_X12_stone_328 {Q X : m_Po} {v0 v7 : Int} {ε : m_E} {μ : m_M} (h : TY ε μ → i32 v7 → kd ε v0 = 11 ∧ ∀ μ_1 : m_M, μ_1 = st μ v0 14 (w32 ((μ v0 14) + 1)) → Q v7 ε μ_1) : G cd_X12_stone Q X 328 [(0, (2, v0)), (7, (0, v7))] [] ε μ := by
  refine G_run (m_in [6, 48, 77, 113, 183, 202, 212, 227, 285, 306, 328]) 45 _ _ _ _ ?_
  show m_ty [(0, (2, v0)), (7, (0, v7))] [] ε μ → (kd ε v0 = 11) ∧ (kd ε v0 = 11) ∧ ∀ μ_1 : m_M, μ_1 = st μ v0 14 (w32 ((μ v0 14) + 1)) → Q v7 ε μ_1
  intro hty
  replace h := h hty.1 (hty.2.1 _ (List.mem_of_getElem? (i := 1) rfl))
  obtain ⟨k1, h⟩ := h
  refine And.intro k1 ?_
  refine And.intro k1 ?_
  intro μ_1 e_μ_1
  replace h := h μ_1 e_μ_1
  exact h
set_option maxRecDepth 20000 in
theorem g_X12_stone_306 {Q X : m_Po} {v0 v1 v4 v7 t : Int} {ε : m_E} {μ : m_M} (h : TY ε μ → i32 v1 → i32 v4 → i32 v7 → i32 t → (t ≠ 0 → kd ε v0 = 11 ∧ kd ε (fn ε v0 5) = 100 ∧ (0 : Int) ≤ v7 ∧ v7 < ln ε (fn ε v0 5) ∧ ∀ μ_1 : m_M, μ_1 = st μ (fn ε v0 5) v7 v1 → o_X12_weighs [(2, v0), (0, v7), (0, v4)] ε μ_1 (fun z ε_1 μ_2 => G cd_X12_stone Q X 328 [(0, (2, v0)), (7, (0, v7))] [] ε_1 μ_2) m_F) ∧ (t = 0 → Q (-4) ε μ)) : G cd_X12_stone Q X 306 [(0, (2, v0)), (1, (0, v1)), (4, (0, v4)), (7, (0, v7))] [(0, t)] ε μ := by
  refine G_run (m_in [6, 48, 77, 113, 183, 202, 212, 227, 285, 306, 328]) 45 _ _ _ _ ?_
  show m_ty [(0, (2, v0)), (1, (0, v1)), (4, (0, v4)), (7, (0, v7))] [(0, t)] ε μ → (t ≠ 0 → (m_ty [(0, (2, v0)), (1, (0, v1)), (4, (0, v4)), (7, (0, v7))] [] ε μ → (kd ε v0 = 11) ∧ (kd ε (fn ε v0 5) = 100) ∧ ((0 : Int) ≤ v7 ∧ v7 < ln ε (fn ε v0 5)) ∧ ∀ μ_1 : m_M, μ_1 = st μ (fn ε v0 5) v7 v1 → (kd ε v0 = 11) ∧ o_X12_weighs [(2, v0), (0, v7), (0, v4)] ε μ_1 (fun z ε_1 μ_2 => G cd_X12_stone Q X 328 [(0, (2, v0)), (7, (0, v7))] [] ε_1 μ_2) m_F)) ∧ (t = 0 → (m_ty [] [] ε μ → Q (-4) ε μ))
  intro hty
  replace h := h hty.1 (hty.2.1 _ (List.mem_of_getElem? (i := 1) rfl)) (hty.2.1 _ (List.mem_of_getElem? (i := 2) rfl)) (hty.2.1 _ (List.mem_of_getElem? (i := 3) rfl)) (hty.2.2 _ (List.mem_of_getElem? (i := 0) rfl))
  obtain ⟨ha, hb⟩ := h
  refine And.intro (fun c4 => ?_) (fun c4 => ?_)
  · replace h := ha c4
    clear ha hb
    intro _
    obtain ⟨k1, h⟩ := h
    refine And.intro k1 ?_
    obtain ⟨k2, h⟩ := h
    refine And.intro k2 ?_
    obtain ⟨k3, h⟩ := h
    obtain ⟨k4, h⟩ := h
    refine And.intro (And.intro k3 k4) ?_
    intro μ_1 e_μ_1
    replace h := h μ_1 e_μ_1
    refine And.intro k1 ?_
    exact h
  · replace h := hb c4
    clear ha hb
    intro _
    exact h
set_option maxRecDepth 20000 in
theorem g_X12_stone_285 {Q X : m_Po} {v0 v1 v4 v5 v6 v7 v8 t t_1 t_2 t_3 : Int} {ε : m_E} {μ : m_M} (h : TY ε μ → i32 v1 → i32 v4 → i32 v5 → i32 v6 → i32 v7 → i32 v8 → i32 t_1 → i32 t_3 → kd ε t_2 = 100 ∧ (0 : Int) ≤ w32 ((w32 (t_3 + (w32 (2 * v8)))) + 1) ∧ w32 ((w32 (t_3 + (w32 (2 * v8)))) + 1) < ln ε t_2 ∧ kd ε t = 100 ∧ (0 : Int) ≤ t_1 ∧ t_1 < ln ε t ∧ ∀ μ_1 : m_M, μ_1 = st μ t t_1 (μ t_2 (w32 ((w32 (t_3 + (w32 (2 * v8)))) + 1))) → ∀ v8_1 : Int, v8_1 = w32 (v8 + 1) → G cd_X12_stone Q X 227 [(0, (2, v0)), (1, (0, v1)), (4, (0, v4)), (5, (0, v5)), (6, (0, v6)), (7, (0, v7)), (8, (0, v8_1))] [] ε μ_1) : G cd_X12_stone Q X 285 [(0, (2, v0)), (1, (0, v1)), (4, (0, v4)), (5, (0, v5)), (6, (0, v6)), (7, (0, v7)), (8, (0, v8))] [(0, t_3), (2, t_2), (0, t_1), (2, t)] ε μ := by
  refine G_run (m_in [6, 48, 77, 113, 183, 202, 212, 227, 285, 306, 328]) 45 _ _ _ _ ?_
  show m_ty [(0, (2, v0)), (1, (0, v1)), (4, (0, v4)), (5, (0, v5)), (6, (0, v6)), (7, (0, v7)), (8, (0, v8))] [(0, t_3), (2, t_2), (0, t_1), (2, t)] ε μ → (kd ε t_2 = 100) ∧ ((0 : Int) ≤ w32 ((w32 (t_3 + (w32 (2 * v8)))) + 1) ∧ w32 ((w32 (t_3 + (w32 (2 * v8)))) + 1) < ln ε t_2) ∧ (kd ε t = 100) ∧ ((0 : Int) ≤ t_1 ∧ t_1 < ln ε t) ∧ ∀ μ_1 : m_M, μ_1 = st μ t t_1 (μ t_2 (w32 ((w32 (t_3 + (w32 (2 * v8)))) + 1))) → ∀ v8_1 : Int, v8_1 = w32 (v8 + 1) → G cd_X12_stone Q X 227 [(0, (2, v0)), (1, (0, v1)), (4, (0, v4)), (5, (0, v5)), (6, (0, v6)), (7, (0, v7)), (8, (0, v8_1))] [] ε μ_1
  intro hty
  replace h := h hty.1 (hty.2.1 _ (List.mem_of_getElem? (i := 1) rfl)) (hty.2.1 _ (List.mem_of_getElem? (i := 2) rfl)) (hty.2.1 _ (List.mem_of_getElem? (i := 3) rfl)) (hty.2.1 _ (List.mem_of_getElem? (i := 4) rfl)) (hty.2.1 _ (List.mem_of_getElem? (i := 5) rfl)) (hty.2.1 _ (List.mem_of_getElem? (i := 6) rfl)) (hty.2.2 _ (List.mem_of_getElem? (i := 2) rfl)) (hty.2.2 _ (List.mem_of_getElem? (i := 0) rfl))
  obtain ⟨k1, h⟩ := h
  refine And.intro k1 ?_
  obtain ⟨k2, h⟩ := h
  obtain ⟨k3, h⟩ := h
  refine And.intro (And.intro k2 k3) ?_
  obtain ⟨k4, h⟩ := h
  refine And.intro k4 ?_
  obtain ⟨k5, h⟩ := h
  obtain ⟨k6, h⟩ := h
  refine And.intro (And.intro k5 k6) ?_
  intro μ_1 e_μ_1
  replace h := h μ_1 e_μ_1
  intro v8_1 e_v8_1
  replace h := h v8_1 e_v8_1
  exact h
set_option maxRecDepth 20000 in
theorem g_X12_stone_227 {Q X : m_Po} {v0 v1 v4 v5 v6 v7 v8 : Int} {ε : m_E} {μ : m_M} (h : TY ε μ → i32 v1 → i32 v4 → i32 v5 → i32 v6 → i32 v7 → i32 v8 → ((w32 (Int.tdiv v6 2)) ≤ v8 → kd ε v0 = 11 ∧ o_X12_isShape [(2, v0), (0, v7)] ε μ (fun z ε_1 μ_1 => G cd_X12_stone Q X 306 [(0, (2, v0)), (1, (0, v1)), (4, (0, v4)), (7, (0, v7))] [(0, z)] ε_1 μ_1) m_F) ∧ (v8 < (w32 (Int.tdiv v6 2)) → kd ε v0 = 11 ∧ kd ε (fn ε v0 3) = 100 ∧ (0 : Int) ≤ w32 ((w32 (40 * v5)) + (w32 (2 * v8))) ∧ w32 ((w32 (40 * v5)) + (w32 (2 * v8))) < ln ε (fn ε v0 3) ∧ kd ε (fn ε v0 7) = 100 ∧ (0 : Int) ≤ w32 ((w32 (12 * v7)) + v8) ∧ w32 ((w32 (12 * v7)) + v8) < ln ε (fn ε v0 7) ∧ ∀ μ_2 : m_M, μ_2 = st μ (fn ε v0 7) (w32 ((w32 (12 * v7)) + v8)) (μ (fn ε v0 3) (w32 ((w32 (40 * v5)) + (w32 (2 * v8))))) → kd ε (fn ε v0 3) = 100 ∧ (0 : Int) ≤ w32 ((w32 ((w32 (40 * v5)) + (w32 (2 * v8)))) + 1) ∧ w32 ((w32 ((w32 (40 * v5)) + (w32 (2 * v8)))) + 1) < ln ε (fn ε v0 3) ∧ kd ε (fn ε v0 8) = 100 ∧ (0 : Int) ≤ (w32 ((w32 (12 * v7)) + v8)) ∧ (w32 ((w32 (12 * v7)) + v8)) < ln ε (fn ε v0 8) ∧ ∀ μ_3 : m_M, μ_3 = st μ_2 (fn ε v0 8) (w32 ((w32 (12 * v7)) + v8)) (μ_2 (fn ε v0 3) (w32 ((w32 ((w32 (40 * v5)) + (w32 (2 * v8)))) + 1))) → ∀ v8_1 : Int, v8_1 = w32 (v8 + 1) → G cd_X12_stone Q X 227 [(0, (2, v0)), (1, (0, v1)), (4, (0, v4)), (5, (0, v5)), (6, (0, v6)), (7, (0, v7)), (8, (0, v8_1))] [] ε μ_3)) : G cd_X12_stone Q X 227 [(0, (2, v0)), (1, (0, v1)), (4, (0, v4)), (5, (0, v5)), (6, (0, v6)), (7, (0, v7)), (8, (0, v8))] [] ε μ := by
  refine G_run (m_in [6, 48, 77, 113, 183, 202, 212, 227, 285, 306, 328]) 45 _ _ _ _ ?_
  show m_ty [(0, (2, v0)), (1, (0, v1)), (4, (0, v4)), (5, (0, v5)), (6, (0, v6)), (7, (0, v7)), (8, (0, v8))] [] ε μ → (2 : Int) ≠ 0 ∧ ((w32 (Int.tdiv v6 2)) ≤ v8 → (m_ty [(0, (2, v0)), (1, (0, v1)), (4, (0, v4)), (7, (0, v7))] [] ε μ → (kd ε v0 = 11) ∧ o_X12_isShape [(2, v0), (0, v7)] ε μ (fun z ε_1 μ_1 => G cd_X12_stone Q X 306 [(0, (2, v0)), (1, (0, v1)), (4, (0, v4)), (7, (0, v7))] [(0, z)] ε_1 μ_1) m_F)) ∧ (v8 < (w32 (Int.tdiv v6 2)) → (m_ty [(0, (2, v0)), (1, (0, v1)), (4, (0, v4)), (5, (0, v5)), (6, (0, v6)), (7, (0, v7)), (8, (0, v8))] [] ε μ → (kd ε v0 = 11) ∧ (kd ε v0 = 11) ∧ (kd ε (fn ε v0 3) = 100) ∧ ((0 : Int) ≤ w32 ((w32 (40 * v5)) + (w32 (2 * v8))) ∧ w32 ((w32 (40 * v5)) + (w32 (2 * v8))) < ln ε (fn ε v0 3)) ∧ (kd ε (fn ε v0 7) = 100) ∧ ((0 : Int) ≤ w32 ((w32 (12 * v7)) + v8) ∧ w32 ((w32 (12 * v7)) + v8) < ln ε (fn ε v0 7)) ∧ ∀ μ_2 : m_M, μ_2 = st μ (fn ε v0 7) (w32 ((w32 (12 * v7)) + v8)) (μ (fn ε v0 3) (w32 ((w32 (40 * v5)) + (w32 (2 * v8))))) → (kd ε v0 = 11) ∧ (kd ε v0 = 11) ∧ G cd_X12_stone Q X 285 [(0, (2, v0)), (1, (0, v1)), (4, (0, v4)), (5, (0, v5)), (6, (0, v6)), (7, (0, v7)), (8, (0, v8))] [(0, w32 (40 * v5)), (2, fn ε v0 3), (0, w32 ((w32 (12 * v7)) + v8)), (2, fn ε v0 8)] ε μ_2))
  intro hty
  replace h := h hty.1 (hty.2.1 _ (List.mem_of_getElem? (i := 1) rfl)) (hty.2.1 _ (List.mem_of_getElem? (i := 2) rfl)) (hty.2.1 _ (List.mem_of_getElem? (i := 3) rfl)) (hty.2.1 _ (List.mem_of_getElem? (i := 4) rfl)) (hty.2.1 _ (List.mem_of_getElem? (i := 5) rfl)) (hty.2.1 _ (List.mem_of_getElem? (i := 6) rfl))
  refine And.intro (by decide) ?_
  obtain ⟨ha, hb⟩ := h
  refine And.intro (fun c14 => ?_) (fun c14 => ?_)
  · replace h := ha c14
    clear ha hb
    intro _
    obtain ⟨k1, h⟩ := h
    refine And.intro k1 ?_
    exact h
  · replace h := hb c14
    clear ha hb
    intro _
    obtain ⟨k2, h⟩ := h
    refine And.intro k2 ?_
    refine And.intro k2 ?_
    obtain ⟨k3, h⟩ := h
    refine And.intro k3 ?_
    obtain ⟨k4, h⟩ := h
    obtain ⟨k5, h⟩ := h
    refine And.intro (And.intro k4 k5) ?_
    obtain ⟨k6, h⟩ := h
    refine And.intro k6 ?_
    obtain ⟨k7, h⟩ := h
    obtain ⟨k8, h⟩ := h
    refine And.intro (And.intro k7 k8) ?_
    intro μ_2 e_μ_2
    replace h := h μ_2 e_μ_2
    refine And.intro k2 ?_
    refine And.intro k2 ?_
    exact g_X12_stone_285 (fun _ _ _ _ _ _ _ _ _ => h)
set_option maxRecDepth 20000 in
theorem g_X12_stone_212 {Q X : m_Po} {t : Int} {ε : m_E} {μ : m_M} (h : TY ε μ → i32 t → Q t ε μ) : G cd_X12_stone Q X 212 [] [(0, t)] ε μ := by
  refine G_run (m_in [6, 48, 77, 113, 183, 202, 212, 227, 285, 306, 328]) 45 _ _ _ _ ?_
  show m_ty [] [(0, t)] ε μ → Q t ε μ
  intro hty
  replace h := h hty.1 (hty.2.2 _ (List.mem_of_getElem? (i := 0) rfl))
  exact h
set_option maxRecDepth 20000 in
theorem g_X12_stone_202 {Q X : m_Po} {t : Int} {ε : m_E} {μ : m_M} (h : TY ε μ → i32 t → ∀ t_1 : Int, t_1 = (if t = 0 then (-4) else (-5)) → Q t_1 ε μ) : G cd_X12_stone Q X 202 [] [(0, t)] ε μ := by
  refine G_run (m_in [6, 48, 77, 113, 183, 202, 212, 227, 285, 306, 328]) 45 _ _ _ _ ?_
  show m_ty [] [(0, t)] ε μ → (t = 0 → (m_ty [] [] ε μ → G cd_X12_stone Q X 212 [] [(0, (-4))] ε μ)) ∧ (t ≠ 0 → (m_ty [] [] ε μ → G cd_X12_stone Q X 212 [] [(0, (-5))] ε μ))
  intro hty
  replace h := h hty.1 (hty.2.2 _ (List.mem_of_getElem? (i := 0) rfl))
  have hj := h
  refine And.intro (fun c0 => ?_) (fun c0 => ?_)
  · intro _
    exact g_X12_stone_212 (fun _ _ => (hj _ (((if_pos c0).trans rfl)).symm))
  · intro _
    exact g_X12_stone_212 (fun _ _ => (hj _ (((if_neg (c0)).trans rfl)).symm))
set_option maxRecDepth 20000 in
theorem g_X12_stone_183 {Q X : m_Po} {v0 v1 v4 v5 v6 t : Int} {ε : m_E} {μ : m_M} (h : TY ε μ → i32 v1 → i32 v4 → i32 v5 → i32 v6 → i32 t → ∀ v7 : Int, v7 = t → kd ε v0 = 11 ∧ ((μ v0 14) ≠ (120 : Int) → kd ε (fn ε v0 6) = 100 ∧ (0 : Int) ≤ v7 ∧ v7 < ln ε (fn ε v0 6) ∧ ∀ μ_1 : m_M, μ_1 = st μ (fn ε v0 6) v7 (w32 (Int.tdiv v6 2)) → ∀ v8 : Int, v8 = 0 → G cd_X12_stone Q X 227 [(0, (2, v0)), (1, (0, v1)), (4, (0, v4)), (5, (0, v5)), (6, (0, v6)), (7, (0, v7)), (8, (0, v8))] [] ε μ_1) ∧ ((μ v0 14) = (120 : Int) → o_X12_isShapeOf [(2, v0), (0, v5), (0, v6)] ε μ (fun z ε_1 μ_2 => G cd_X12_stone Q X 202 [] [(0, z)] ε_1 μ_2) m_F)) : G cd_X12_stone Q X 183 [(0, (2, v0)), (1, (0, v1)), (4, (0, v4)), (5, (0, v5)), (6, (0, v6))] [(0, t)] ε μ := by
  refine G_run (m_in [6, 48, 77, 113, 183, 202, 212, 227, 285, 306, 328]) 45 _ _ _ _ ?_
  show m_ty [(0, (2, v0)), (1, (0, v1)), (4, (0, v4)), (5, (0, v5)), (6, (0, v6))] [(0, t)] ε μ → ∀ v7 : Int, v7 = t → (kd ε v0 = 11) ∧ ((μ v0 14) ≠ (120 : Int) → (m_ty [(0, (2, v0)), (1, (0, v1)), (4, (0, v4)), (5, (0, v5)), (6, (0, v6)), (7, (0, v7))] [] ε μ → (kd ε v0 = 11) ∧ (2 : Int) ≠ 0 ∧ (kd ε (fn ε v0 6) = 100) ∧ ((0 : Int) ≤ v7 ∧ v7 < ln ε (fn ε v0 6)) ∧ ∀ μ_1 : m_M, μ_1 = st μ (fn ε v0 6) v7 (w32 (Int.tdiv v6 2)) → ∀ v8 : Int, v8 = 0 → G cd_X12_stone Q X 227 [(0, (2, v0)), (1, (0, v1)), (4, (0, v4)), (5, (0, v5)), (6, (0, v6)), (7, (0, v7)), (8, (0, v8))] [] ε μ_1)) ∧ ((μ v0 14) = (120 : Int) → (m_ty [(0, (2, v0)), (5, (0, v5)), (6, (0, v6))] [] ε μ → (kd ε v0 = 11) ∧ o_X12_isShapeOf [(2, v0), (0, v5), (0, v6)] ε μ (fun z ε_1 μ_2 => G cd_X12_stone Q X 202 [] [(0, z)] ε_1 μ_2) m_F))
  intro hty
  replace h := h hty.1 (hty.2.1 _ (List.mem_of_getElem? (i := 1) rfl)) (hty.2.1 _ (List.mem_of_getElem? (i := 2) rfl)) (hty.2.1 _ (List.mem_of_getElem? (i := 3) rfl)) (hty.2.1 _ (List.mem_of_getElem? (i := 4) rfl)) (hty.2.2 _ (List.mem_of_getElem? (i := 0) rfl))
  intro v7 e_v7
  replace h := h v7 e_v7
  obtain ⟨k1, h⟩ := h
  refine And.intro k1 ?_
  obtain ⟨ha, hb⟩ := h
  refine And.intro (fun c4 => ?_) (fun c4 => ?_)
  · replace h := ha c4
    clear ha hb
    intro _
    refine And.intro k1 ?_
    refine And.intro (by decide) ?_
    obtain ⟨k2, h⟩ := h
    refine And.intro k2 ?_
    obtain ⟨k3, h⟩ := h
    obtain ⟨k4, h⟩ := h
    refine And.intro (And.intro k3 k4) ?_
    intro μ_1 e_μ_1
    replace h := h μ_1 e_μ_1
    intro v8 e_v8
    replace h := h v8 e_v8
    exact h
  · replace h := hb c4
    clear ha hb
    intro _
    refine And.intro k1 ?_
    exact h
set_option maxRecDepth 20000 in
theorem g_X12_stone_113 {Q X : m_Po} {v0 v1 v4 v5 v6 v7 : Int} {ε : m_E} {μ : m_M} (h : TY ε μ → i32 v1 → i32 v4 → i32 v5 → i32 v6 → i32 v7 → (v6 ≤ v7 → kd ε v0 = 11 ∧ ∀ t : Int, t = (if (μ v0 14) = (120 : Int) then 119 else μ v0 14) → ∀ v7_1 : Int, v7_1 = t → kd ε v0 = 11 ∧ ((μ v0 14) ≠ (120 : Int) → kd ε (fn ε v0 6) = 100 ∧ (0 : Int) ≤ v7_1 ∧ v7_1 < ln ε (fn ε v0 6) ∧ ∀ μ_1 : m_M, μ_1 = st μ (fn ε v0 6) v7_1 (w32 (Int.tdiv v6 2)) → ∀ v8 : Int, v8 = 0 → G cd_X12_stone Q X 227 [(0, (2, v0)), (1, (0, v1)), (4, (0, v4)), (5, (0, v5)), (6, (0, v6)), (7, (0, v7_1)), (8, (0, v8))] [] ε μ_1) ∧ ((μ v0 14) = (120 : Int) → o_X12_isShapeOf [(2, v0), (0, v5), (0, v6)] ε μ (fun z ε_1 μ_2 => G cd_X12_stone Q X 202 [] [(0, z)] ε_1 μ_2) m_F)) ∧ (v7 < v6 → kd ε v0 = 11 ∧ kd ε (fn ε v0 3) = 100 ∧ (0 : Int) ≤ w32 ((w32 (40 * v5)) + v7) ∧ w32 ((w32 (40 * v5)) + v7) < ln ε (fn ε v0 3) ∧ ((μ (fn ε v0 3) (w32 ((w32 (40 * v5)) + v7))) < (-100) → Q (-3) ε μ) ∧ ((-100) ≤ (μ (fn ε v0 3) (w32 ((w32 (40 * v5)) + v7))) → ((μ (fn ε v0 3) (w32 ((w32 (40 * v5)) + v7))) ≤ (100 : Int) → ∀ v7_2 : Int, v7_2 = w32 (v7 + 1) → G cd_X12_stone Q X 113 [(0, (2, v0)), (1, (0, v1)), (4, (0, v4)), (5, (0, v5)), (6, (0, v6)), (7, (0, v7_2))] [] ε μ) ∧ ((100 : Int) < (μ (fn ε v0 3) (w32 ((w32 (40 * v5)) + v7))) → Q (-3) ε μ)))) : G cd_X12_stone Q X 113 [(0, (2, v0)), (1, (0, v1)), (4, (0, v4)), (5, (0, v5)), (6, (0, v6)), (7, (0, v7))] [] ε μ := by
  refine G_run (m_in [6, 48, 77, 113, 183, 202, 212, 227, 285, 306, 328]) 45 _ _ _ _ ?_
  show m_ty [(0, (2, v0)), (1, (0, v1)), (4, (0, v4)), (5, (0, v5)), (6, (0, v6)), (7, (0, v7))] [] ε μ → (v6 ≤ v7 → (m_ty [(0, (2, v0)), (1, (0, v1)), (4, (0, v4)), (5, (0, v5)), (6, (0, v6))] [] ε μ → (kd ε v0 = 11) ∧ ((μ v0 14) ≠ (120 : Int) → (m_ty [(0, (2, v0)), (1, (0, v1)), (4, (0, v4)), (5, (0, v5)), (6, (0, v6))] [] ε μ → (kd ε v0 = 11) ∧ G cd_X12_stone Q X 183 [(0, (2, v0)), (1, (0, v1)), (4, (0, v4)), (5, (0, v5)), (6, (0, v6))] [(0, μ v0 14)] ε μ)) ∧ ((μ v0 14) = (120 : Int) → (m_ty [(0, (2, v0)), (1, (0, v1)), (4, (0, v4)), (5, (0, v5)), (6, (0, v6))] [] ε μ → G cd_X12_stone Q X 183 [(0, (2, v0)), (1, (0, v1)), (4, (0, v4)), (5, (0, v5)), (6, (0, v6))] [(0, 119)] ε μ)))) ∧ (v7 < v6 → (m_ty [(0, (2, v0)), (1, (0, v1)), (4, (0, v4)), (5, (0, v5)), (6, (0, v6)), (7, (0, v7))] [] ε μ → (kd ε v0 = 11) ∧ (kd ε (fn ε v0 3) = 100) ∧ ((0 : Int) ≤ w32 ((w32 (40 * v5)) + v7) ∧ w32 ((w32 (40 * v5)) + v7) < ln ε (fn ε v0 3)) ∧ ((μ (fn ε v0 3) (w32 ((w32 (40 * v5)) + v7))) < (-100) → (m_ty [] [] ε μ → Q (-3) ε μ)) ∧ ((-100) ≤ (μ (fn ε v0 3) (w32 ((w32 (40 * v5)) + v7))) → (m_ty [(0, (2, v0)), (1, (0, v1)), (4, (0, v4)), (5, (0, v5)), (6, (0, v6)), (7, (0, v7))] [] ε μ → (kd ε v0 = 11) ∧ (kd ε (fn ε v0 3) = 100) ∧ ((0 : Int) ≤ w32 ((w32 (40 * v5)) + v7) ∧ w32 ((w32 (40 * v5)) + v7) < ln ε (fn ε v0 3)) ∧ ((μ (fn ε v0 3) (w32 ((w32 (40 * v5)) + v7))) ≤ (100 : Int) → (m_ty [(0, (2, v0)), (1, (0, v1)), (4, (0, v4)), (5, (0, v5)), (6, (0, v6)), (7, (0, v7))] [] ε μ → ∀ v7_2 : Int, v7_2 = w32 (v7 + 1) → G cd_X12_stone Q X 113 [(0, (2, v0)), (1, (0, v1)), (4, (0, v4)), (5, (0, v5)), (6, (0, v6)), (7, (0, v7_2))] [] ε μ)) ∧ ((100 : Int) < (μ (fn ε v0 3) (w32 ((w32 (40 * v5)) + v7))) → (m_ty [] [] ε μ → Q (-3) ε μ))))))
  intro hty
  replace h := h hty.1 (hty.2.1 _ (List.mem_of_getElem? (i := 1) rfl)) (hty.2.1 _ (List.mem_of_getElem? (i := 2) rfl)) (hty.2.1 _ (List.mem_of_getElem? (i := 3) rfl)) (hty.2.1 _ (List.mem_of_getElem? (i := 4) rfl)) (hty.2.1 _ (List.mem_of_getElem? (i := 5) rfl))
  obtain ⟨ha, hb⟩ := h
  refine And.intro (fun c13 => ?_) (fun c13 => ?_)
  · replace h := ha c13
    clear ha hb
    intro _
    obtain ⟨k1, h⟩ := h
    refine And.intro k1 ?_
    have hj := h
    refine And.intro (fun c1 => ?_) (fun c1 => ?_)
    · intro _
      refine And.intro k1 ?_
      exact g_X12_stone_183 (fun _ _ _ _ _ _ => (hj _ (((if_neg (c1)).trans rfl)).symm))
    · intro _
      exact g_X12_stone_183 (fun _ _ _ _ _ _ => (hj _ (((if_pos c1).trans rfl)).symm))
  · replace h := hb c13
    clear ha hb
    intro _
    obtain ⟨k8, h⟩ := h
    refine And.intro k8 ?_
    obtain ⟨k9, h⟩ := h
    refine And.intro k9 ?_
    obtain ⟨k10, h⟩ := h
    obtain ⟨k11, h⟩ := h
    refine And.intro (And.intro k10 k11) ?_
    obtain ⟨ha, hb⟩ := h
    refine And.intro (fun c12 => ?_) (fun c12 => ?_)
    · replace h := ha c12
      clear ha hb
      intro _
      exact h
    · replace h := hb c12
      clear ha hb
      intro _
      refine And.intro k8 ?_
      refine And.intro k9 ?_
      refine And.intro (And.intro k10 k11) ?_
      obtain ⟨ha, hb⟩ := h
      refine And.intro (fun c11 => ?_) (fun c11 => ?_)
      · replace h := ha c11
        clear ha hb
        intro _
        intro v7_2 e_v7_2
        replace h := h v7_2 e_v7_2
        exact h
      · replace h := hb c11
        clear ha hb
        intro _
        exact h
set_option maxRecDepth 20000 in
theorem g_X12_stone_77 {Q X : m_Po} {v0 v1 v4 v5 v6 : Int} {ε : m_E} {μ : m_M} (h : TY ε μ → i32 v1 → i32 v4 → i32 v5 → i32 v6 → (v6 ≠ (-1) → (v6 < (6 : Int) → Q (-2) ε μ) ∧ ((6 : Int) ≤ v6 → ((24 : Int) < v6 → Q (-2) ε μ) ∧ (v6 ≤ (24 : Int) → ((Int.tmod v6 2) ≠ (1 : Int) → ∀ v7 : Int, v7 = 0 → G cd_X12_stone Q X 113 [(0, (2, v0)), (1, (0, v1)), (4, (0, v4)), (5, (0, v5)), (6, (0, v6)), (7, (0, v7))] [] ε μ) ∧ ((Int.tmod v6 2) = (1 : Int) → Q (-2) ε μ)))) ∧ (v6 = (-1) → Q (-1) ε μ)) : G cd_X12_stone Q X 77 [(0, (2, v0)), (1, (0, v1)), (4, (0, v4)), (5, (0, v5)), (6, (0, v6))] [] ε μ := by
  refine G_run (m_in [6, 48, 77, 113, 183, 202, 212, 227, 285, 306, 328]) 45 _ _ _ _ ?_
  show m_ty [(0, (2, v0)), (1, (0, v1)), (4, (0, v4)), (5, (0, v5)), (6, (0, v6))] [] ε μ → (v6 ≠ (-1) → (m_ty [(0, (2, v0)), (1, (0, v1)), (4, (0, v4)), (5, (0, v5)), (6, (0, v6))] [] ε μ → (v6 < (6 : Int) → (m_ty [] [] ε μ → Q (-2) ε μ)) ∧ ((6 : Int) ≤ v6 → (m_ty [(0, (2, v0)), (1, (0, v1)), (4, (0, v4)), (5, (0, v5)), (6, (0, v6))] [] ε μ → ((24 : Int) < v6 → (m_ty [] [] ε μ → Q (-2) ε μ)) ∧ (v6 ≤ (24 : Int) → (m_ty [(0, (2, v0)), (1, (0, v1)), (4, (0, v4)), (5, (0, v5)), (6, (0, v6))] [] ε μ → (2 : Int) ≠ 0 ∧ ((Int.tmod v6 2) ≠ (1 : Int) → (m_ty [(0, (2, v0)), (1, (0, v1)), (4, (0, v4)), (5, (0, v5)), (6, (0, v6))] [] ε μ → ∀ v7 : Int, v7 = 0 → G cd_X12_stone Q X 113 [(0, (2, v0)), (1, (0, v1)), (4, (0, v4)), (5, (0, v5)), (6, (0, v6)), (7, (0, v7))] [] ε μ)) ∧ ((Int.tmod v6 2) = (1 : Int) → (m_ty [] [] ε μ → Q (-2) ε μ)))))))) ∧ (v6 = (-1) → (m_ty [] [] ε μ → Q (-1) ε μ))
  intro hty
  replace h := h hty.1 (hty.2.1 _ (List.mem_of_getElem? (i := 1) rfl)) (hty.2.1 _ (List.mem_of_getElem? (i := 2) rfl)) (hty.2.1 _ (List.mem_of_getElem? (i := 3) rfl)) (hty.2.1 _ (List.mem_of_getElem? (i := 4) rfl))
  obtain ⟨ha, hb⟩ := h
  refine And.intro (fun c3 => ?_) (fun c3 => ?_)
  · replace h := ha c3
    clear ha hb
    intro _
    obtain ⟨ha, hb⟩ := h
    refine And.intro (fun c2 => ?_) (fun c2 => ?_)
    · replace h := ha c2
      clear ha hb
      intro _
      exact h
    · replace h := hb c2
      clear ha hb
      intro _
      obtain ⟨ha, hb⟩ := h
      refine And.intro (fun c1 => ?_) (fun c1 => ?_)
      · replace h := ha c1
        clear ha hb
        intro _
        exact h
      · replace h := hb c1
        clear ha hb
        intro _
        refine And.intro (by decide) ?_
        obtain ⟨ha, hb⟩ := h
        refine And.intro (fun c0 => ?_) (fun c0 => ?_)
        · replace h := ha c0
          clear ha hb
          intro _
          intro v7 e_v7
          replace h := h v7 e_v7
          exact h
        · replace h := hb c0
          clear ha hb
          intro _
          exact h
  · replace h := hb c3
    clear ha hb
    intro _
    exact h
set_option maxRecDepth 20000 in
theorem g_X12_stone_48 {Q X : m_Po} {v0 v1 v2 v3 v4 t t_1 : Int} {ε : m_E} {μ : m_M} (h : TY ε μ → i32 v1 → i32 v2 → i32 v3 → i32 v4 → i32 t_1 → kd ε t = 11 ∧ ∀ μ_1 : m_M, μ_1 = st μ t 0 t_1 → kd ε v0 = 11 ∧ ((μ_1 v0 0) ≤ 0 → ∀ v5 : Int, v5 = w32 ((w32 (40 * v2)) + v3) → kd ε (fn ε v0 2) = 100 ∧ (0 : Int) ≤ v5 ∧ v5 < ln ε (fn ε v0 2) ∧ ∀ v6 : Int, v6 = μ_1 (fn ε v0 2) v5 → (v6 ≠ (-1) → (v6 < (6 : Int) → Q (-2) ε μ_1) ∧ ((6 : Int) ≤ v6 → ((24 : Int) < v6 → Q (-2) ε μ_1) ∧ (v6 ≤ (24 : Int) → ((Int.tmod v6 2) ≠ (1 : Int) → ∀ v7 : Int, v7 = 0 → G cd_X12_stone Q X 113 [(0, (2, v0)), (1, (0, v1)), (4, (0, v4)), (5, (0, v5)), (6, (0, v6)), (7, (0, v7))] [] ε μ_1) ∧ ((Int.tmod v6 2) = (1 : Int) → Q (-2) ε μ_1)))) ∧ (v6 = (-1) → Q (-1) ε μ_1)) ∧ (0 < (μ_1 v0 0) → Q 0 ε μ_1)) : G cd_X12_stone Q X 48 [(0, (2, v0)), (1, (0, v1)), (2, (0, v2)), (3, (0, v3)), (4, (0, v4))] [(0, t_1), (2, t)] ε μ := by
  refine G_run (m_in [6, 48, 77, 113, 183, 202, 212, 227, 285, 306, 328]) 45 _ _ _ _ ?_
  show m_ty [(0, (2, v0)), (1, (0, v1)), (2, (0, v2)), (3, (0, v3)), (4, (0, v4))] [(0, t_1), (2, t)] ε μ → (kd ε t = 11) ∧ ∀ μ_1 : m_M, μ_1 = st μ t 0 t_1 → (kd ε v0 = 11) ∧ ((μ_1 v0 0) ≤ 0 → (m_ty [(0, (2, v0)), (1, (0, v1)), (2, (0, v2)), (3, (0, v3)), (4, (0, v4))] [] ε μ_1 → ∀ v5 : Int, v5 = w32 ((w32 (40 * v2)) + v3) → (kd ε v0 = 11) ∧ (kd ε (fn ε v0 2) = 100) ∧ ((0 : Int) ≤ v5 ∧ v5 < ln ε (fn ε v0 2)) ∧ ∀ v6 : Int, v6 = μ_1 (fn ε v0 2) v5 → G cd_X12_stone Q X 77 [(0, (2, v0)), (1, (0, v1)), (4, (0, v4)), (5, (0, v5)), (6, (0, v6))] [] ε μ_1)) ∧ (0 < (μ_1 v0 0) → (m_ty [] [] ε μ_1 → Q 0 ε μ_1))
  intro hty
  replace h := h hty.1 (hty.2.1 _ (List.mem_of_getElem? (i := 1) rfl)) (hty.2.1 _ (List.mem_of_getElem? (i := 2) rfl)) (hty.2.1 _ (List.mem_of_getElem? (i := 3) rfl)) (hty.2.1 _ (List.mem_of_getElem? (i := 4) rfl)) (hty.2.2 _ (List.mem_of_getElem? (i := 0) rfl))
  obtain ⟨k1, h⟩ := h
  refine And.intro k1 ?_
  intro μ_1 e_μ_1
  replace h := h μ_1 e_μ_1
  obtain ⟨k2, h⟩ := h
  refine And.intro k2 ?_
  obtain ⟨ha, hb⟩ := h
  refine And.intro (fun c9 => ?_) (fun c9 => ?_)
  · replace h := ha c9
    clear ha hb
    intro _
    intro v5 e_v5
    replace h := h v5 e_v5
    refine And.intro k2 ?_
    obtain ⟨k3, h⟩ := h
    refine And.intro k3 ?_
    obtain ⟨k4, h⟩ := h
    obtain ⟨k5, h⟩ := h
    refine And.intro (And.intro k4 k5) ?_
    intro v6 e_v6
    replace h := h v6 e_v6
    exact g_X12_stone_77 (fun _ _ _ _ _ => h)
  · replace h := hb c9
    clear ha hb
    intro _
    exact h
set_option maxRecDepth 20000 in
theorem g_X12_stone_6 {Q X : m_Po} {v0 v1 v2 v3 v4 t : Int} {ε : m_E} {μ : m_M} (h : TY ε μ → i32 v1 → i32 v2 → i32 v3 → i32 v4 → i32 t → (t ≠ 0 → ∀ t_1 : Int, t_1 = (if v1 < 0 then 2 else if (4 : Int) < v1 then 2 else if v4 < 0 then 2 else if (99 : Int) < v4 then 2 else if v1 = (4 : Int) then 0 else if v4 = 0 then 0 else 2) → kd ε v0 = 11 ∧ ∀ μ_1 : m_M, μ_1 = st μ v0 0 t_1 → kd ε v0 = 11 ∧ ((μ_1 v0 0) ≤ 0 → ∀ v5 : Int, v5 = w32 ((w32 (40 * v2)) + v3) → kd ε (fn ε v0 2) = 100 ∧ (0 : Int) ≤ v5 ∧ v5 < ln ε (fn ε v0 2) ∧ ∀ v6 : Int, v6 = μ_1 (fn ε v0 2) v5 → (v6 ≠ (-1) → (v6 < (6 : Int) → Q (-2) ε μ_1) ∧ ((6 : Int) ≤ v6 → ((24 : Int) < v6 → Q (-2) ε μ_1) ∧ (v6 ≤ (24 : Int) → ((Int.tmod v6 2) ≠ (1 : Int) → ∀ v7 : Int, v7 = 0 → G cd_X12_stone Q X 113 [(0, (2, v0)), (1, (0, v1)), (4, (0, v4)), (5, (0, v5)), (6, (0, v6)), (7, (0, v7))] [] ε μ_1) ∧ ((Int.tmod v6 2) = (1 : Int) → Q (-2) ε μ_1)))) ∧ (v6 = (-1) → Q (-1) ε μ_1)) ∧ (0 < (μ_1 v0 0) → Q 0 ε μ_1)) ∧ (t = 0 → Q 0 ε μ)) : G cd_X12_stone Q X 6 [(0, (2, v0)), (1, (0, v1)), (2, (0, v2)), (3, (0, v3)), (4, (0, v4))] [(0, t)] ε μ := by
  refine G_run (m_in [6, 48, 77, 113, 183, 202, 212, 227, 285, 306, 328]) 45 _ _ _ _ ?_
  show m_ty [(0, (2, v0)), (1, (0, v1)), (2, (0, v2)), (3, (0, v3)), (4, (0, v4))] [(0, t)] ε μ → (t ≠ 0 → (m_ty [(0, (2, v0)), (1, (0, v1)), (2, (0, v2)), (3, (0, v3)), (4, (0, v4))] [] ε μ → (v1 < 0 → (m_ty [(0, (2, v0)), (1, (0, v1)), (2, (0, v2)), (3, (0, v3)), (4, (0, v4))] [(2, v0)] ε μ → G cd_X12_stone Q X 48 [(0, (2, v0)), (1, (0, v1)), (2, (0, v2)), (3, (0, v3)), (4, (0, v4))] [(0, 2), (2, v0)] ε μ)) ∧ (0 ≤ v1 → (m_ty [(0, (2, v0)), (1, (0, v1)), (2, (0, v2)), (3, (0, v3)), (4, (0, v4))] [(2, v0)] ε μ → ((4 : Int) < v1 → (m_ty [(0, (2, v0)), (1, (0, v1)), (2, (0, v2)), (3, (0, v3)), (4, (0, v4))] [(2, v0)] ε μ → G cd_X12_stone Q X 48 [(0, (2, v0)), (1, (0, v1)), (2, (0, v2)), (3, (0, v3)), (4, (0, v4))] [(0, 2), (2, v0)] ε μ)) ∧ (v1 ≤ (4 : Int) → (m_ty [(0, (2, v0)), (1, (0, v1)), (2, (0, v2)), (3, (0, v3)), (4, (0, v4))] [(2, v0)] ε μ → (v4 < 0 → (m_ty [(0, (2, v0)), (1, (0, v1)), (2, (0, v2)), (3, (0, v3)), (4, (0, v4))] [(2, v0)] ε μ → G cd_X12_stone Q X 48 [(0, (2, v0)), (1, (0, v1)), (2, (0, v2)), (3, (0, v3)), (4, (0, v4))] [(0, 2), (2, v0)] ε μ)) ∧ (0 ≤ v4 → (m_ty [(0, (2, v0)), (1, (0, v1)), (2, (0, v2)), (3, (0, v3)), (4, (0, v4))] [(2, v0)] ε μ → ((99 : Int) < v4 → (m_ty [(0, (2, v0)), (1, (0, v1)), (2, (0, v2)), (3, (0, v3)), (4, (0, v4))] [(2, v0)] ε μ → G cd_X12_stone Q X 48 [(0, (2, v0)), (1, (0, v1)), (2, (0, v2)), (3, (0, v3)), (4, (0, v4))] [(0, 2), (2, v0)] ε μ)) ∧ (v4 ≤ (99 : Int) → (m_ty [(0, (2, v0)), (1, (0, v1)), (2, (0, v2)), (3, (0, v3)), (4, (0, v4))] [(2, v0)] ε μ → (v1 = (4 : Int) → (m_ty [(0, (2, v0)), (1, (0, v1)), (2, (0, v2)), (3, (0, v3)), (4, (0, v4))] [(2, v0)] ε μ → G cd_X12_stone Q X 48 [(0, (2, v0)), (1, (0, v1)), (2, (0, v2)), (3, (0, v3)), (4, (0, v4))] [(0, 0), (2, v0)] ε μ)) ∧ (v1 ≠ (4 : Int) → (m_ty [(0, (2, v0)), (1, (0, v1)), (2, (0, v2)), (3, (0, v3)), (4, (0, v4))] [(2, v0)] ε μ → (v4 = 0 → (m_ty [(0, (2, v0)), (1, (0, v1)), (2, (0, v2)), (3, (0, v3)), (4, (0, v4))] [(2, v0)] ε μ → G cd_X12_stone Q X 48 [(0, (2, v0)), (1, (0, v1)), (2, (0, v2)), (3, (0, v3)), (4, (0, v4))] [(0, 0), (2, v0)] ε μ)) ∧ (v4 ≠ 0 → (m_ty [(0, (2, v0)), (1, (0, v1)), (2, (0, v2)), (3, (0, v3)), (4, (0, v4))] [(2, v0)] ε μ → G cd_X12_stone Q X 48 [(0, (2, v0)), (1, (0, v1)), (2, (0, v2)), (3, (0, v3)), (4, (0, v4))] [(0, 2), (2, v0)] ε μ)))))))))))))) ∧ (t = 0 → (m_ty [] [] ε μ → Q 0 ε μ))
  intro hty
  replace h := h hty.1 (hty.2.1 _ (List.mem_of_getElem? (i := 1) rfl)) (hty.2.1 _ (List.mem_of_getElem? (i := 2) rfl)) (hty.2.1 _ (List.mem_of_getElem? (i := 3) rfl)) (hty.2.1 _ (List.mem_of_getElem? (i := 4) rfl)) (hty.2.2 _ (List.mem_of_getElem? (i := 0) rfl))
  obtain ⟨ha, hb⟩ := h
  refine And.intro (fun c16 => ?_) (fun c16 => ?_)
  · replace h := ha c16
    clear ha hb
    intro _
    have hj := h
    refine And.intro (fun c0 => ?_) (fun c0 => ?_)
    · intro _
      exact g_X12_stone_48 (fun _ _ _ _ _ _ => (hj _ (((if_pos c0).trans rfl)).symm))
    · intro _
      refine And.intro (fun c1 => ?_) (fun c1 => ?_)
      · intro _
        exact g_X12_stone_48 (fun _ _ _ _ _ _ => (hj _ (((if_neg (Int.not_lt.mpr c0)).trans ((if_pos c1).trans rfl))).symm))
      · intro _
        refine And.intro (fun c2 => ?_) (fun c2 => ?_)
        · intro _
          exact g_X12_stone_48 (fun _ _ _ _ _ _ => (hj _ (((if_neg (Int.not_lt.mpr c0)).trans ((if_neg (Int.not_lt.mpr c1)).trans ((if_pos c2).trans rfl)))).symm))
        · intro _
          refine And.intro (fun c3 => ?_) (fun c3 => ?_)
          · intro _
            exact g_X12_stone_48 (fun _ _ _ _ _ _ => (hj _ (((if_neg (Int.not_lt.mpr c0)).trans ((if_neg (Int.not_lt.mpr c1)).trans ((if_neg (Int.not_lt.mpr c2)).trans ((if_pos c3).trans rfl))))).symm))
          · intro _
            refine And.intro (fun c4 => ?_) (fun c4 => ?_)
            · intro _
              exact g_X12_stone_48 (fun _ _ _ _ _ _ => (hj _ (((if_neg (Int.not_lt.mpr c0)).trans ((if_neg (Int.not_lt.mpr c1)).trans ((if_neg (Int.not_lt.mpr c2)).trans ((if_neg (Int.not_lt.mpr c3)).trans ((if_pos c4).trans rfl)))))).symm))
            · intro _
              refine And.intro (fun c5 => ?_) (fun c5 => ?_)
              · intro _
                exact g_X12_stone_48 (fun _ _ _ _ _ _ => (hj _ (((if_neg (Int.not_lt.mpr c0)).trans ((if_neg (Int.not_lt.mpr c1)).trans ((if_neg (Int.not_lt.mpr c2)).trans ((if_neg (Int.not_lt.mpr c3)).trans ((if_neg (c4)).trans ((if_pos c5).trans rfl))))))).symm))
              · intro _
                exact g_X12_stone_48 (fun _ _ _ _ _ _ => (hj _ (((if_neg (Int.not_lt.mpr c0)).trans ((if_neg (Int.not_lt.mpr c1)).trans ((if_neg (Int.not_lt.mpr c2)).trans ((if_neg (Int.not_lt.mpr c3)).trans ((if_neg (c4)).trans ((if_neg (c5)).trans rfl))))))).symm))
  · replace h := hb c16
    clear ha hb
    intro _
    exact h
set_option maxRecDepth 20000 in
theorem g_X12_stone_0 {Q X : m_Po} {v0 v1 v2 v3 v4 : Int} {ε : m_E} {μ : m_M} (h : TY ε μ → i32 v1 → i32 v2 → i32 v3 → i32 v4 → kd ε v0 = 11 ∧ o_X12_isRow [(2, v0), (0, v2), (0, v3)] ε μ (fun z ε_1 μ_1 => G cd_X12_stone Q X 6 [(0, (2, v0)), (1, (0, v1)), (2, (0, v2)), (3, (0, v3)), (4, (0, v4))] [(0, z)] ε_1 μ_1) m_F) : G cd_X12_stone Q X 0 [(0, (2, v0)), (1, (0, v1)), (2, (0, v2)), (3, (0, v3)), (4, (0, v4))] [] ε μ := by
  refine G_run (m_in [6, 48, 77, 113, 183, 202, 212, 227, 285, 306, 328]) 45 _ _ _ _ ?_
  show m_ty [(0, (2, v0)), (1, (0, v1)), (2, (0, v2)), (3, (0, v3)), (4, (0, v4))] [] ε μ → (kd ε v0 = 11) ∧ o_X12_isRow [(2, v0), (0, v2), (0, v3)] ε μ (fun z ε_1 μ_1 => G cd_X12_stone Q X 6 [(0, (2, v0)), (1, (0, v1)), (2, (0, v2)), (3, (0, v3)), (4, (0, v4))] [(0, z)] ε_1 μ_1) m_F
  intro hty
  replace h := h hty.1 (hty.2.1 _ (List.mem_of_getElem? (i := 1) rfl)) (hty.2.1 _ (List.mem_of_getElem? (i := 2) rfl)) (hty.2.1 _ (List.mem_of_getElem? (i := 3) rfl)) (hty.2.1 _ (List.mem_of_getElem? (i := 4) rfl))
  obtain ⟨k1, h⟩ := h
  refine And.intro k1 ?_
  exact h
theorem e_X12_stone {Q X : m_Po} {v0 v1 v2 v3 v4 : Int} {ε : m_E} {μ : m_M} (h : TY ε μ → i32 v1 → i32 v2 → i32 v3 → i32 v4 → kd ε v0 = 11 ∧ o_X12_isRow [(2, v0), (0, v2), (0, v3)] ε μ (fun z ε_1 μ_1 => G cd_X12_stone Q X 6 [(0, (2, v0)), (1, (0, v1)), (2, (0, v2)), (3, (0, v3)), (4, (0, v4))] [(0, z)] ε_1 μ_1) m_F) : o_X12_stone [(2, v0), (0, v1), (0, v2), (0, v3), (0, v4)] ε μ Q X := And.intro rfl (g_X12_stone_0 h)
