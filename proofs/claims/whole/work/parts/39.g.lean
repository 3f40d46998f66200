/-! ArchYardModel.fours()V -/
set_option maxRecDepth 20000 in
theorem g_X12_fours_333 {Q X : m_Po} {v0 v1 v2 v3 : Int} {ε : m_E} {μ : m_M} (h : TY ε μ → i32 v1 → i32 v2 → i32 v3 → ∀ v3_1 : Int, v3_1 = w32 (v3 + 1) → G cd_X12_fours Q X 26 [(0, (2, v0)), (1, (0, v1)), (2, (0, v2)), (3, (0, v3_1))] [] ε μ) : G cd_X12_fours Q X 333 [(0, (2, v0)), (1, (0, v1)), (2, (0, v2)), (3, (0, v3))] [] ε μ := by
  refine G_run (m_in [2, 14, 26, 41, 48, 72, 82, 93, 100, 133, 145, 160, 172, 187, 199, 254, 275, 296, 317, 323, 327, 333]) 60 _ _ _ _ ?_
  show m_ty [(0, (2, v0)), (1, (0, v1)), (2, (0, v2)), (3, (0, v3))] [] ε μ → ∀ v3_1 : Int, v3_1 = w32 (v3 + 1) → G cd_X12_fours Q X 26 [(0, (2, v0)), (1, (0, v1)), (2, (0, v2)), (3, (0, v3_1))] [] ε μ
  intro hty
  replace h := h hty.1 (hty.2.1 _ (List.mem_of_getElem? (i := 1) rfl)) (hty.2.1 _ (List.mem_of_getElem? (i := 2) rfl)) (hty.2.1 _ (List.mem_of_getElem? (i := 3) rfl))
  intro v3_1 e_v3_1
  replace h := h v3_1 e_v3_1
  exact h
set_option maxRecDepth 20000 in
theorem g_X12_fours_327 {Q X : m_Po} {v0 v1 v2 v3 v4 v6 : Int} {ε : m_E} {μ : m_M} (h : TY ε μ → i32 v1 → i32 v2 → i32 v3 → i64 v4 → i32 v6 → ∀ v6_1 : Int, v6_1 = w32 (v6 + 1) → G cd_X12_fours Q X 48 [(0, (2, v0)), (1, (0, v1)), (2, (0, v2)), (3, (0, v3)), (4, (1, v4)), (6, (0, v6_1))] [] ε μ) : G cd_X12_fours Q X 327 [(0, (2, v0)), (1, (0, v1)), (2, (0, v2)), (3, (0, v3)), (4, (1, v4)), (6, (0, v6))] [] ε μ := by
  refine G_run (m_in [2, 14, 26, 41, 48, 72, 82, 93, 100, 133, 145, 160, 172, 187, 199, 254, 275, 296, 317, 323, 327, 333]) 60 _ _ _ _ ?_
  show m_ty [(0, (2, v0)), (1, (0, v1)), (2, (0, v2)), (3, (0, v3)), (4, (1, v4)), (6, (0, v6))] [] ε μ → ∀ v6_1 : Int, v6_1 = w32 (v6 + 1) → G cd_X12_fours Q X 48 [(0, (2, v0)), (1, (0, v1)), (2, (0, v2)), (3, (0, v3)), (4, (1, v4)), (6, (0, v6_1))] [] ε μ
  intro hty
  replace h := h hty.1 (hty.2.1 _ (List.mem_of_getElem? (i := 1) rfl)) (hty.2.1 _ (List.mem_of_getElem? (i := 2) rfl)) (hty.2.1 _ (List.mem_of_getElem? (i := 3) rfl)) (hty.2.1 _ (List.mem_of_getElem? (i := 4) rfl)) (hty.2.1 _ (List.mem_of_getElem? (i := 5) rfl))
  intro v6_1 e_v6_1
  replace h := h v6_1 e_v6_1
  exact h
set_option maxRecDepth 20000 in
theorem g_X12_fours_323 {Q X : m_Po} {v0 v1 v2 v3 v4 v6 t : Int} {ε : m_E} {μ : m_M} (h : TY ε μ → i32 v1 → i32 v2 → i32 v3 → i64 v4 → i32 v6 → i32 t → (t = 0 → G cd_X12_fours Q X 327 [(0, (2, v0)), (1, (0, v1)), (2, (0, v2)), (3, (0, v3)), (4, (1, v4)), (6, (0, v6))] [] ε μ) ∧ (t ≠ 0 → Q 0 ε μ)) : G cd_X12_fours Q X 323 [(0, (2, v0)), (1, (0, v1)), (2, (0, v2)), (3, (0, v3)), (4, (1, v4)), (6, (0, v6))] [(0, t)] ε μ := by
  refine G_run (m_in [2, 14, 26, 41, 48, 72, 82, 93, 100, 133, 145, 160, 172, 187, 199, 254, 275, 296, 317, 323, 327, 333]) 60 _ _ _ _ ?_
  show m_ty [(0, (2, v0)), (1, (0, v1)), (2, (0, v2)), (3, (0, v3)), (4, (1, v4)), (6, (0, v6))] [(0, t)] ε μ → (t = 0 → G cd_X12_fours Q X 327 [(0, (2, v0)), (1, (0, v1)), (2, (0, v2)), (3, (0, v3)), (4, (1, v4)), (6, (0, v6))] [] ε μ) ∧ (t ≠ 0 → (m_ty [] [] ε μ → Q 0 ε μ))
  intro hty
  replace h := h hty.1 (hty.2.1 _ (List.mem_of_getElem? (i := 1) rfl)) (hty.2.1 _ (List.mem_of_getElem? (i := 2) rfl)) (hty.2.1 _ (List.mem_of_getElem? (i := 3) rfl)) (hty.2.1 _ (List.mem_of_getElem? (i := 4) rfl)) (hty.2.1 _ (List.mem_of_getElem? (i := 5) rfl)) (hty.2.2 _ (List.mem_of_getElem? (i := 0) rfl))
  obtain ⟨ha, hb⟩ := h
  refine And.intro (fun c0 => ?_) (fun c0 => ?_)
  · replace h := ha c0
    clear ha hb
    exact h
  · replace h := hb c0
    clear ha hb
    intro _
    exact h
set_option maxRecDepth 20000 in
theorem g_X12_fours_317 {Q X : m_Po} {v0 v1 v2 v3 v4 v6 t t_1 t_2 : Int} {ε : m_E} {μ : m_M} (h : TY ε μ → i32 v1 → i32 v2 → i32 v3 → i64 v4 → i32 v6 → i32 t_1 → i64 t_2 → kd ε t = 101 ∧ (0 : Int) ≤ t_1 ∧ t_1 < ln ε t ∧ ∀ μ_1 : m_M, μ_1 = st μ t t_1 t_2 → kd ε v0 = 11 ∧ o_X12_isNever [(2, v0), (0, 4)] ε μ_1 (fun z ε_1 μ_2 => G cd_X12_fours Q X 323 [(0, (2, v0)), (1, (0, v1)), (2, (0, v2)), (3, (0, v3)), (4, (1, v4)), (6, (0, v6))] [(0, z)] ε_1 μ_2) m_F) : G cd_X12_fours Q X 317 [(0, (2, v0)), (1, (0, v1)), (2, (0, v2)), (3, (0, v3)), (4, (1, v4)), (6, (0, v6))] [(1, t_2), (0, t_1), (2, t)] ε μ := by
  refine G_run (m_in [2, 14, 26, 41, 48, 72, 82, 93, 100, 133, 145, 160, 172, 187, 199, 254, 275, 296, 317, 323, 327, 333]) 60 _ _ _ _ ?_
  show m_ty [(0, (2, v0)), (1, (0, v1)), (2, (0, v2)), (3, (0, v3)), (4, (1, v4)), (6, (0, v6))] [(1, t_2), (0, t_1), (2, t)] ε μ → (kd ε t = 101) ∧ ((0 : Int) ≤ t_1 ∧ t_1 < ln ε t) ∧ ∀ μ_1 : m_M, μ_1 = st μ t t_1 t_2 → (kd ε v0 = 11) ∧ o_X12_isNever [(2, v0), (0, 4)] ε μ_1 (fun z ε_1 μ_2 => G cd_X12_fours Q X 323 [(0, (2, v0)), (1, (0, v1)), (2, (0, v2)), (3, (0, v3)), (4, (1, v4)), (6, (0, v6))] [(0, z)] ε_1 μ_2) m_F
  intro hty
  replace h := h hty.1 (hty.2.1 _ (List.mem_of_getElem? (i := 1) rfl)) (hty.2.1 _ (List.mem_of_getElem? (i := 2) rfl)) (hty.2.1 _ (List.mem_of_getElem? (i := 3) rfl)) (hty.2.1 _ (List.mem_of_getElem? (i := 4) rfl)) (hty.2.1 _ (List.mem_of_getElem? (i := 5) rfl)) (hty.2.2 _ (List.mem_of_getElem? (i := 1) rfl)) (hty.2.2 _ (List.mem_of_getElem? (i := 0) rfl))
  obtain ⟨k1, h⟩ := h
  refine And.intro k1 ?_
  obtain ⟨k2, h⟩ := h
  obtain ⟨k3, h⟩ := h
  refine And.intro (And.intro k2 k3) ?_
  intro μ_1 e_μ_1
  replace h := h μ_1 e_μ_1
  obtain ⟨k4, h⟩ := h
  refine And.intro k4 ?_
  exact h
set_option maxRecDepth 20000 in
theorem g_X12_fours_296 {Q X : m_Po} {v0 v1 v2 v3 v4 v6 v13 t t_1 t_2 : Int} {ε : m_E} {μ : m_M} (h : TY ε μ → i32 v1 → i32 v2 → i32 v3 → i64 v4 → i32 v6 → i64 v13 → i32 t_1 → i64 t_2 → kd ε t = 101 ∧ (0 : Int) ≤ t_1 ∧ t_1 < ln ε t ∧ ∀ μ_1 : m_M, μ_1 = st μ t t_1 t_2 → kd ε v0 = 11 ∧ ∀ t_3 : Int, t_3 = (if (0 : Int) ≤ v13 then v13 else w64 (-v13)) → kd ε (fn ε v0 60) = 101 ∧ (0 : Int) ≤ 3 ∧ 3 < ln ε (fn ε v0 60) ∧ ∀ μ_2 : m_M, μ_2 = st μ_1 (fn ε v0 60) 3 t_3 → kd ε v0 = 11 ∧ o_X12_isNever [(2, v0), (0, 4)] ε μ_2 (fun z ε_1 μ_3 => G cd_X12_fours Q X 323 [(0, (2, v0)), (1, (0, v1)), (2, (0, v2)), (3, (0, v3)), (4, (1, v4)), (6, (0, v6))] [(0, z)] ε_1 μ_3) m_F) : G cd_X12_fours Q X 296 [(0, (2, v0)), (1, (0, v1)), (2, (0, v2)), (3, (0, v3)), (4, (1, v4)), (6, (0, v6)), (13, (1, v13))] [(1, t_2), (0, t_1), (2, t)] ε μ := by
  refine G_run (m_in [2, 14, 26, 41, 48, 72, 82, 93, 100, 133, 145, 160, 172, 187, 199, 254, 275, 296, 317, 323, 327, 333]) 60 _ _ _ _ ?_
  show m_ty [(0, (2, v0)), (1, (0, v1)), (2, (0, v2)), (3, (0, v3)), (4, (1, v4)), (6, (0, v6)), (13, (1, v13))] [(1, t_2), (0, t_1), (2, t)] ε μ → (kd ε t = 101) ∧ ((0 : Int) ≤ t_1 ∧ t_1 < ln ε t) ∧ ∀ μ_1 : m_M, μ_1 = st μ t t_1 t_2 → (kd ε v0 = 11) ∧ ((0 : Int) ≤ v13 → (m_ty [(0, (2, v0)), (1, (0, v1)), (2, (0, v2)), (3, (0, v3)), (4, (1, v4)), (6, (0, v6)), (13, (1, v13))] [(0, 3), (2, fn ε v0 60)] ε μ_1 → G cd_X12_fours Q X 317 [(0, (2, v0)), (1, (0, v1)), (2, (0, v2)), (3, (0, v3)), (4, (1, v4)), (6, (0, v6))] [(1, v13), (0, 3), (2, fn ε v0 60)] ε μ_1)) ∧ (v13 < (0 : Int) → (m_ty [(0, (2, v0)), (1, (0, v1)), (2, (0, v2)), (3, (0, v3)), (4, (1, v4)), (6, (0, v6)), (13, (1, v13))] [(0, 3), (2, fn ε v0 60)] ε μ_1 → G cd_X12_fours Q X 317 [(0, (2, v0)), (1, (0, v1)), (2, (0, v2)), (3, (0, v3)), (4, (1, v4)), (6, (0, v6))] [(1, w64 (-v13)), (0, 3), (2, fn ε v0 60)] ε μ_1))
  intro hty
  replace h := h hty.1 (hty.2.1 _ (List.mem_of_getElem? (i := 1) rfl)) (hty.2.1 _ (List.mem_of_getElem? (i := 2) rfl)) (hty.2.1 _ (List.mem_of_getElem? (i := 3) rfl)) (hty.2.1 _ (List.mem_of_getElem? (i := 4) rfl)) (hty.2.1 _ (List.mem_of_getElem? (i := 5) rfl)) (hty.2.1 _ (List.mem_of_getElem? (i := 6) rfl)) (hty.2.2 _ (List.mem_of_getElem? (i := 1) rfl)) (hty.2.2 _ (List.mem_of_getElem? (i := 0) rfl))
  obtain ⟨k1, h⟩ := h
  refine And.intro k1 ?_
  obtain ⟨k2, h⟩ := h
  obtain ⟨k3, h⟩ := h
  refine And.intro (And.intro k2 k3) ?_
  intro μ_1 e_μ_1
  replace h := h μ_1 e_μ_1
  obtain ⟨k4, h⟩ := h
  refine And.intro k4 ?_
  have hj := h
  refine And.intro (fun c4 => ?_) (fun c4 => ?_)
  · intro _
    exact g_X12_fours_317 (fun _ _ _ _ _ _ _ _ => (hj _ (((if_pos c4).trans rfl)).symm))
  · intro _
    exact g_X12_fours_317 (fun _ _ _ _ _ _ _ _ => (hj _ (((if_neg (Int.not_le.mpr c4)).trans rfl)).symm))
set_option maxRecDepth 20000 in
theorem g_X12_fours_275 {Q X : m_Po} {v0 v1 v2 v3 v4 v6 v11 v13 t t_1 t_2 : Int} {ε : m_E} {μ : m_M} (h : TY ε μ → i32 v1 → i32 v2 → i32 v3 → i64 v4 → i32 v6 → i64 v11 → i64 v13 → i32 t_1 → i64 t_2 → kd ε t = 101 ∧ (0 : Int) ≤ t_1 ∧ t_1 < ln ε t ∧ ∀ μ_1 : m_M, μ_1 = st μ t t_1 t_2 → kd ε v0 = 11 ∧ ∀ t_3 : Int, t_3 = (if (0 : Int) ≤ v11 then v11 else w64 (-v11)) → kd ε (fn ε v0 60) = 101 ∧ (0 : Int) ≤ 2 ∧ 2 < ln ε (fn ε v0 60) ∧ ∀ μ_2 : m_M, μ_2 = st μ_1 (fn ε v0 60) 2 t_3 → kd ε v0 = 11 ∧ ∀ t_4 : Int, t_4 = (if (0 : Int) ≤ v13 then v13 else w64 (-v13)) → kd ε (fn ε v0 60) = 101 ∧ (0 : Int) ≤ 3 ∧ 3 < ln ε (fn ε v0 60) ∧ ∀ μ_3 : m_M, μ_3 = st μ_2 (fn ε v0 60) 3 t_4 → kd ε v0 = 11 ∧ o_X12_isNever [(2, v0), (0, 4)] ε μ_3 (fun z ε_1 μ_4 => G cd_X12_fours Q X 323 [(0, (2, v0)), (1, (0, v1)), (2, (0, v2)), (3, (0, v3)), (4, (1, v4)), (6, (0, v6))] [(0, z)] ε_1 μ_4) m_F) : G cd_X12_fours Q X 275 [(0, (2, v0)), (1, (0, v1)), (2, (0, v2)), (3, (0, v3)), (4, (1, v4)), (6, (0, v6)), (11, (1, v11)), (13, (1, v13))] [(1, t_2), (0, t_1), (2, t)] ε μ := by
  refine G_run (m_in [2, 14, 26, 41, 48, 72, 82, 93, 100, 133, 145, 160, 172, 187, 199, 254, 275, 296, 317, 323, 327, 333]) 60 _ _ _ _ ?_
  show m_ty [(0, (2, v0)), (1, (0, v1)), (2, (0, v2)), (3, (0, v3)), (4, (1, v4)), (6, (0, v6)), (11, (1, v11)), (13, (1, v13))] [(1, t_2), (0, t_1), (2, t)] ε μ → (kd ε t = 101) ∧ ((0 : Int) ≤ t_1 ∧ t_1 < ln ε t) ∧ ∀ μ_1 : m_M, μ_1 = st μ t t_1 t_2 → (kd ε v0 = 11) ∧ ((0 : Int) ≤ v11 → (m_ty [(0, (2, v0)), (1, (0, v1)), (2, (0, v2)), (3, (0, v3)), (4, (1, v4)), (6, (0, v6)), (11, (1, v11)), (13, (1, v13))] [(0, 2), (2, fn ε v0 60)] ε μ_1 → G cd_X12_fours Q X 296 [(0, (2, v0)), (1, (0, v1)), (2, (0, v2)), (3, (0, v3)), (4, (1, v4)), (6, (0, v6)), (13, (1, v13))] [(1, v11), (0, 2), (2, fn ε v0 60)] ε μ_1)) ∧ (v11 < (0 : Int) → (m_ty [(0, (2, v0)), (1, (0, v1)), (2, (0, v2)), (3, (0, v3)), (4, (1, v4)), (6, (0, v6)), (11, (1, v11)), (13, (1, v13))] [(0, 2), (2, fn ε v0 60)] ε μ_1 → G cd_X12_fours Q X 296 [(0, (2, v0)), (1, (0, v1)), (2, (0, v2)), (3, (0, v3)), (4, (1, v4)), (6, (0, v6)), (13, (1, v13))] [(1, w64 (-v11)), (0, 2), (2, fn ε v0 60)] ε μ_1))
  intro hty
  replace h := h hty.1 (hty.2.1 _ (List.mem_of_getElem? (i := 1) rfl)) (hty.2.1 _ (List.mem_of_getElem? (i := 2) rfl)) (hty.2.1 _ (List.mem_of_getElem? (i := 3) rfl)) (hty.2.1 _ (List.mem_of_getElem? (i := 4) rfl)) (hty.2.1 _ (List.mem_of_getElem? (i := 5) rfl)) (hty.2.1 _ (List.mem_of_getElem? (i := 6) rfl)) (hty.2.1 _ (List.mem_of_getElem? (i := 7) rfl)) (hty.2.2 _ (List.mem_of_getElem? (i := 1) rfl)) (hty.2.2 _ (List.mem_of_getElem? (i := 0) rfl))
  obtain ⟨k1, h⟩ := h
  refine And.intro k1 ?_
  obtain ⟨k2, h⟩ := h
  obtain ⟨k3, h⟩ := h
  refine And.intro (And.intro k2 k3) ?_
  intro μ_1 e_μ_1
  replace h := h μ_1 e_μ_1
  obtain ⟨k4, h⟩ := h
  refine And.intro k4 ?_
  have hj := h
  refine And.intro (fun c4 => ?_) (fun c4 => ?_)
  · intro _
    exact g_X12_fours_296 (fun _ _ _ _ _ _ _ _ _ => (hj _ (((if_pos c4).trans rfl)).symm))
  · intro _
    exact g_X12_fours_296 (fun _ _ _ _ _ _ _ _ _ => (hj _ (((if_neg (Int.not_le.mpr c4)).trans rfl)).symm))
set_option maxRecDepth 20000 in
theorem g_X12_fours_254 {Q X : m_Po} {v0 v1 v2 v3 v4 v6 v9 v11 v13 t t_1 t_2 : Int} {ε : m_E} {μ : m_M} (h : TY ε μ → i32 v1 → i32 v2 → i32 v3 → i64 v4 → i32 v6 → i64 v9 → i64 v11 → i64 v13 → i32 t_1 → i64 t_2 → kd ε t = 101 ∧ (0 : Int) ≤ t_1 ∧ t_1 < ln ε t ∧ ∀ μ_1 : m_M, μ_1 = st μ t t_1 t_2 → kd ε v0 = 11 ∧ ∀ t_3 : Int, t_3 = (if (0 : Int) ≤ v9 then v9 else w64 (-v9)) → kd ε (fn ε v0 60) = 101 ∧ (0 : Int) ≤ 1 ∧ 1 < ln ε (fn ε v0 60) ∧ ∀ μ_2 : m_M, μ_2 = st μ_1 (fn ε v0 60) 1 t_3 → kd ε v0 = 11 ∧ ∀ t_4 : Int, t_4 = (if (0 : Int) ≤ v11 then v11 else w64 (-v11)) → kd ε (fn ε v0 60) = 101 ∧ (0 : Int) ≤ 2 ∧ 2 < ln ε (fn ε v0 60) ∧ ∀ μ_3 : m_M, μ_3 = st μ_2 (fn ε v0 60) 2 t_4 → kd ε v0 = 11 ∧ ∀ t_5 : Int, t_5 = (if (0 : Int) ≤ v13 then v13 else w64 (-v13)) → kd ε (fn ε v0 60) = 101 ∧ (0 : Int) ≤ 3 ∧ 3 < ln ε (fn ε v0 60) ∧ ∀ μ_4 : m_M, μ_4 = st μ_3 (fn ε v0 60) 3 t_5 → kd ε v0 = 11 ∧ o_X12_isNever [(2, v0), (0, 4)] ε μ_4 (fun z ε_1 μ_5 => G cd_X12_fours Q X 323 [(0, (2, v0)), (1, (0, v1)), (2, (0, v2)), (3, (0, v3)), (4, (1, v4)), (6, (0, v6))] [(0, z)] ε_1 μ_5) m_F) : G cd_X12_fours Q X 254 [(0, (2, v0)), (1, (0, v1)), (2, (0, v2)), (3, (0, v3)), (4, (1, v4)), (6, (0, v6)), (9, (1, v9)), (11, (1, v11)), (13, (1, v13))] [(1, t_2), (0, t_1), (2, t)] ε μ := by
  refine G_run (m_in [2, 14, 26, 41, 48, 72, 82, 93, 100, 133, 145, 160, 172, 187, 199, 254, 275, 296, 317, 323, 327, 333]) 60 _ _ _ _ ?_
  show m_ty [(0, (2, v0)), (1, (0, v1)), (2, (0, v2)), (3, (0, v3)), (4, (1, v4)), (6, (0, v6)), (9, (1, v9)), (11, (1, v11)), (13, (1, v13))] [(1, t_2), (0, t_1), (2, t)] ε μ → (kd ε t = 101) ∧ ((0 : Int) ≤ t_1 ∧ t_1 < ln ε t) ∧ ∀ μ_1 : m_M, μ_1 = st μ t t_1 t_2 → (kd ε v0 = 11) ∧ ((0 : Int) ≤ v9 → (m_ty [(0, (2, v0)), (1, (0, v1)), (2, (0, v2)), (3, (0, v3)), (4, (1, v4)), (6, (0, v6)), (9, (1, v9)), (11, (1, v11)), (13, (1, v13))] [(0, 1), (2, fn ε v0 60)] ε μ_1 → G cd_X12_fours Q X 275 [(0, (2, v0)), (1, (0, v1)), (2, (0, v2)), (3, (0, v3)), (4, (1, v4)), (6, (0, v6)), (11, (1, v11)), (13, (1, v13))] [(1, v9), (0, 1), (2, fn ε v0 60)] ε μ_1)) ∧ (v9 < (0 : Int) → (m_ty [(0, (2, v0)), (1, (0, v1)), (2, (0, v2)), (3, (0, v3)), (4, (1, v4)), (6, (0, v6)), (9, (1, v9)), (11, (1, v11)), (13, (1, v13))] [(0, 1), (2, fn ε v0 60)] ε μ_1 → G cd_X12_fours Q X 275 [(0, (2, v0)), (1, (0, v1)), (2, (0, v2)), (3, (0, v3)), (4, (1, v4)), (6, (0, v6)), (11, (1, v11)), (13, (1, v13))] [(1, w64 (-v9)), (0, 1), (2, fn ε v0 60)] ε μ_1))
  intro hty
  replace h := h hty.1 (hty.2.1 _ (List.mem_of_getElem? (i := 1) rfl)) (hty.2.1 _ (List.mem_of_getElem? (i := 2) rfl)) (hty.2.1 _ (List.mem_of_getElem? (i := 3) rfl)) (hty.2.1 _ (List.mem_of_getElem? (i := 4) rfl)) (hty.2.1 _ (List.mem_of_getElem? (i := 5) rfl)) (hty.2.1 _ (List.mem_of_getElem? (i := 6) rfl)) (hty.2.1 _ (List.mem_of_getElem? (i := 7) rfl)) (hty.2.1 _ (List.mem_of_getElem? (i := 8) rfl)) (hty.2.2 _ (List.mem_of_getElem? (i := 1) rfl)) (hty.2.2 _ (List.mem_of_getElem? (i := 0) rfl))
  obtain ⟨k1, h⟩ := h
  refine And.intro k1 ?_
  obtain ⟨k2, h⟩ := h
  obtain ⟨k3, h⟩ := h
  refine And.intro (And.intro k2 k3) ?_
  intro μ_1 e_μ_1
  replace h := h μ_1 e_μ_1
  obtain ⟨k4, h⟩ := h
  refine And.intro k4 ?_
  have hj := h
  refine And.intro (fun c4 => ?_) (fun c4 => ?_)
  · intro _
    exact g_X12_fours_275 (fun _ _ _ _ _ _ _ _ _ _ => (hj _ (((if_pos c4).trans rfl)).symm))
  · intro _
    exact g_X12_fours_275 (fun _ _ _ _ _ _ _ _ _ _ => (hj _ (((if_neg (Int.not_le.mpr c4)).trans rfl)).symm))
set_option maxRecDepth 20000 in
theorem g_X12_fours_199 {Q X : m_Po} {v0 v1 v2 v3 v4 v6 v7 v9 v11 v13 t t_1 : Int} {ε : m_E} {μ : m_M} (h : TY ε μ → i32 v1 → i32 v2 → i32 v3 → i64 v4 → i32 v6 → i64 v7 → i64 v9 → i64 v11 → i64 v13 → i32 t → i32 t_1 → (t = t_1 → kd ε v0 = 11 ∧ kd ε (fn ε v0 61) = 100 ∧ 0 < ln ε (fn ε v0 61) ∧ ∀ μ_1 : m_M, μ_1 = st μ (fn ε v0 61) 0 v1 → 1 < ln ε (fn ε v0 61) ∧ ∀ μ_2 : m_M, μ_2 = st μ_1 (fn ε v0 61) 1 v2 → 2 < ln ε (fn ε v0 61) ∧ ∀ μ_3 : m_M, μ_3 = st μ_2 (fn ε v0 61) 2 v3 → 3 < ln ε (fn ε v0 61) ∧ ∀ μ_4 : m_M, μ_4 = st μ_3 (fn ε v0 61) 3 v6 → ∀ t_2 : Int, t_2 = (if (0 : Int) ≤ v7 then v7 else w64 (-v7)) → kd ε (fn ε v0 60) = 101 ∧ (0 : Int) ≤ 0 ∧ 0 < ln ε (fn ε v0 60) ∧ ∀ μ_5 : m_M, μ_5 = st μ_4 (fn ε v0 60) 0 t_2 → kd ε v0 = 11 ∧ ∀ t_3 : Int, t_3 = (if (0 : Int) ≤ v9 then v9 else w64 (-v9)) → kd ε (fn ε v0 60) = 101 ∧ (0 : Int) ≤ 1 ∧ 1 < ln ε (fn ε v0 60) ∧ ∀ μ_6 : m_M, μ_6 = st μ_5 (fn ε v0 60) 1 t_3 → kd ε v0 = 11 ∧ ∀ t_4 : Int, t_4 = (if (0 : Int) ≤ v11 then v11 else w64 (-v11)) → kd ε (fn ε v0 60) = 101 ∧ (0 : Int) ≤ 2 ∧ 2 < ln ε (fn ε v0 60) ∧ ∀ μ_7 : m_M, μ_7 = st μ_6 (fn ε v0 60) 2 t_4 → kd ε v0 = 11 ∧ ∀ t_5 : Int, t_5 = (if (0 : Int) ≤ v13 then v13 else w64 (-v13)) → kd ε (fn ε v0 60) = 101 ∧ (0 : Int) ≤ 3 ∧ 3 < ln ε (fn ε v0 60) ∧ ∀ μ_8 : m_M, μ_8 = st μ_7 (fn ε v0 60) 3 t_5 → kd ε v0 = 11 ∧ o_X12_isNever [(2, v0), (0, 4)] ε μ_8 (fun z ε_1 μ_9 => G cd_X12_fours Q X 323 [(0, (2, v0)), (1, (0, v1)), (2, (0, v2)), (3, (0, v3)), (4, (1, v4)), (6, (0, v6))] [(0, z)] ε_1 μ_9) m_F) ∧ (t ≠ t_1 → G cd_X12_fours Q X 327 [(0, (2, v0)), (1, (0, v1)), (2, (0, v2)), (3, (0, v3)), (4, (1, v4)), (6, (0, v6))] [] ε μ)) : G cd_X12_fours Q X 199 [(0, (2, v0)), (1, (0, v1)), (2, (0, v2)), (3, (0, v3)), (4, (1, v4)), (6, (0, v6)), (7, (1, v7)), (9, (1, v9)), (11, (1, v11)), (13, (1, v13))] [(0, t_1), (0, t)] ε μ := by
  refine G_run (m_in [2, 14, 26, 41, 48, 72, 82, 93, 100, 133, 145, 160, 172, 187, 199, 254, 275, 296, 317, 323, 327, 333]) 60 _ _ _ _ ?_
  show m_ty [(0, (2, v0)), (1, (0, v1)), (2, (0, v2)), (3, (0, v3)), (4, (1, v4)), (6, (0, v6)), (7, (1, v7)), (9, (1, v9)), (11, (1, v11)), (13, (1, v13))] [(0, t_1), (0, t)] ε μ → (t = t_1 → (m_ty [(0, (2, v0)), (1, (0, v1)), (2, (0, v2)), (3, (0, v3)), (4, (1, v4)), (6, (0, v6)), (7, (1, v7)), (9, (1, v9)), (11, (1, v11)), (13, (1, v13))] [] ε μ → (kd ε v0 = 11) ∧ (kd ε (fn ε v0 61) = 100) ∧ ((0 : Int) ≤ 0 ∧ 0 < ln ε (fn ε v0 61)) ∧ ∀ μ_1 : m_M, μ_1 = st μ (fn ε v0 61) 0 v1 → (kd ε v0 = 11) ∧ (kd ε (fn ε v0 61) = 100) ∧ ((0 : Int) ≤ 1 ∧ 1 < ln ε (fn ε v0 61)) ∧ ∀ μ_2 : m_M, μ_2 = st μ_1 (fn ε v0 61) 1 v2 → (kd ε v0 = 11) ∧ (kd ε (fn ε v0 61) = 100) ∧ ((0 : Int) ≤ 2 ∧ 2 < ln ε (fn ε v0 61)) ∧ ∀ μ_3 : m_M, μ_3 = st μ_2 (fn ε v0 61) 2 v3 → (kd ε v0 = 11) ∧ (kd ε (fn ε v0 61) = 100) ∧ ((0 : Int) ≤ 3 ∧ 3 < ln ε (fn ε v0 61)) ∧ ∀ μ_4 : m_M, μ_4 = st μ_3 (fn ε v0 61) 3 v6 → (kd ε v0 = 11) ∧ ((0 : Int) ≤ v7 → (m_ty [(0, (2, v0)), (1, (0, v1)), (2, (0, v2)), (3, (0, v3)), (4, (1, v4)), (6, (0, v6)), (7, (1, v7)), (9, (1, v9)), (11, (1, v11)), (13, (1, v13))] [(0, 0), (2, fn ε v0 60)] ε μ_4 → G cd_X12_fours Q X 254 [(0, (2, v0)), (1, (0, v1)), (2, (0, v2)), (3, (0, v3)), (4, (1, v4)), (6, (0, v6)), (9, (1, v9)), (11, (1, v11)), (13, (1, v13))] [(1, v7), (0, 0), (2, fn ε v0 60)] ε μ_4)) ∧ (v7 < (0 : Int) → (m_ty [(0, (2, v0)), (1, (0, v1)), (2, (0, v2)), (3, (0, v3)), (4, (1, v4)), (6, (0, v6)), (7, (1, v7)), (9, (1, v9)), (11, (1, v11)), (13, (1, v13))] [(0, 0), (2, fn ε v0 60)] ε μ_4 → G cd_X12_fours Q X 254 [(0, (2, v0)), (1, (0, v1)), (2, (0, v2)), (3, (0, v3)), (4, (1, v4)), (6, (0, v6)), (9, (1, v9)), (11, (1, v11)), (13, (1, v13))] [(1, w64 (-v7)), (0, 0), (2, fn ε v0 60)] ε μ_4)))) ∧ (t ≠ t_1 → (m_ty [(0, (2, v0)), (1, (0, v1)), (2, (0, v2)), (3, (0, v3)), (4, (1, v4)), (6, (0, v6))] [] ε μ → G cd_X12_fours Q X 327 [(0, (2, v0)), (1, (0, v1)), (2, (0, v2)), (3, (0, v3)), (4, (1, v4)), (6, (0, v6))] [] ε μ))
  intro hty
  replace h := h hty.1 (hty.2.1 _ (List.mem_of_getElem? (i := 1) rfl)) (hty.2.1 _ (List.mem_of_getElem? (i := 2) rfl)) (hty.2.1 _ (List.mem_of_getElem? (i := 3) rfl)) (hty.2.1 _ (List.mem_of_getElem? (i := 4) rfl)) (hty.2.1 _ (List.mem_of_getElem? (i := 5) rfl)) (hty.2.1 _ (List.mem_of_getElem? (i := 6) rfl)) (hty.2.1 _ (List.mem_of_getElem? (i := 7) rfl)) (hty.2.1 _ (List.mem_of_getElem? (i := 8) rfl)) (hty.2.1 _ (List.mem_of_getElem? (i := 9) rfl)) (hty.2.2 _ (List.mem_of_getElem? (i := 1) rfl)) (hty.2.2 _ (List.mem_of_getElem? (i := 0) rfl))
  obtain ⟨ha, hb⟩ := h
  refine And.intro (fun c26 => ?_) (fun c26 => ?_)
  · replace h := ha c26
    clear ha hb
    intro _
    obtain ⟨k1, h⟩ := h
    refine And.intro k1 ?_
    obtain ⟨k2, h⟩ := h
    refine And.intro k2 ?_
    obtain ⟨k3, h⟩ := h
    refine And.intro (And.intro (by decide) k3) ?_
    intro μ_1 e_μ_1
    replace h := h μ_1 e_μ_1
    refine And.intro k1 ?_
    refine And.intro k2 ?_
    obtain ⟨k4, h⟩ := h
    refine And.intro (And.intro (by decide) k4) ?_
    intro μ_2 e_μ_2
    replace h := h μ_2 e_μ_2
    refine And.intro k1 ?_
    refine And.intro k2 ?_
    obtain ⟨k5, h⟩ := h
    refine And.intro (And.intro (by decide) k5) ?_
    intro μ_3 e_μ_3
    replace h := h μ_3 e_μ_3
    refine And.intro k1 ?_
    refine And.intro k2 ?_
    obtain ⟨k6, h⟩ := h
    refine And.intro (And.intro (by decide) k6) ?_
    intro μ_4 e_μ_4
    replace h := h μ_4 e_μ_4
    refine And.intro k1 ?_
    have hj := h
    refine And.intro (fun c6 => ?_) (fun c6 => ?_)
    · intro _
      exact g_X12_fours_254 (fun _ _ _ _ _ _ _ _ _ _ _ => (hj _ (((if_pos c6).trans rfl)).symm))
    · intro _
      exact g_X12_fours_254 (fun _ _ _ _ _ _ _ _ _ _ _ => (hj _ (((if_neg (Int.not_le.mpr c6)).trans rfl)).symm))
  · replace h := hb c26
    clear ha hb
    intro _
    exact h
set_option maxRecDepth 20000 in
theorem g_X12_fours_187 {Q X : m_Po} {v0 v1 v2 v3 v4 v6 v7 v9 v11 v13 t : Int} {ε : m_E} {μ : m_M} (h : TY ε μ → i32 v1 → i32 v2 → i32 v3 → i64 v4 → i32 v6 → i64 v7 → i64 v9 → i64 v11 → i64 v13 → i32 t → ∀ t_1 : Int, t_1 = (if v13 ≤ (0 : Int) then 0 else 1) → (t = t_1 → kd ε v0 = 11 ∧ kd ε (fn ε v0 61) = 100 ∧ 0 < ln ε (fn ε v0 61) ∧ ∀ μ_1 : m_M, μ_1 = st μ (fn ε v0 61) 0 v1 → 1 < ln ε (fn ε v0 61) ∧ ∀ μ_2 : m_M, μ_2 = st μ_1 (fn ε v0 61) 1 v2 → 2 < ln ε (fn ε v0 61) ∧ ∀ μ_3 : m_M, μ_3 = st μ_2 (fn ε v0 61) 2 v3 → 3 < ln ε (fn ε v0 61) ∧ ∀ μ_4 : m_M, μ_4 = st μ_3 (fn ε v0 61) 3 v6 → ∀ t_2 : Int, t_2 = (if (0 : Int) ≤ v7 then v7 else w64 (-v7)) → kd ε (fn ε v0 60) = 101 ∧ (0 : Int) ≤ 0 ∧ 0 < ln ε (fn ε v0 60) ∧ ∀ μ_5 : m_M, μ_5 = st μ_4 (fn ε v0 60) 0 t_2 → kd ε v0 = 11 ∧ ∀ t_3 : Int, t_3 = (if (0 : Int) ≤ v9 then v9 else w64 (-v9)) → kd ε (fn ε v0 60) = 101 ∧ (0 : Int) ≤ 1 ∧ 1 < ln ε (fn ε v0 60) ∧ ∀ μ_6 : m_M, μ_6 = st μ_5 (fn ε v0 60) 1 t_3 → kd ε v0 = 11 ∧ ∀ t_4 : Int, t_4 = (if (0 : Int) ≤ v11 then v11 else w64 (-v11)) → kd ε (fn ε v0 60) = 101 ∧ (0 : Int) ≤ 2 ∧ 2 < ln ε (fn ε v0 60) ∧ ∀ μ_7 : m_M, μ_7 = st μ_6 (fn ε v0 60) 2 t_4 → kd ε v0 = 11 ∧ ∀ t_5 : Int, t_5 = (if (0 : Int) ≤ v13 then v13 else w64 (-v13)) → kd ε (fn ε v0 60) = 101 ∧ (0 : Int) ≤ 3 ∧ 3 < ln ε (fn ε v0 60) ∧ ∀ μ_8 : m_M, μ_8 = st μ_7 (fn ε v0 60) 3 t_5 → kd ε v0 = 11 ∧ o_X12_isNever [(2, v0), (0, 4)] ε μ_8 (fun z ε_1 μ_9 => G cd_X12_fours Q X 323 [(0, (2, v0)), (1, (0, v1)), (2, (0, v2)), (3, (0, v3)), (4, (1, v4)), (6, (0, v6))] [(0, z)] ε_1 μ_9) m_F) ∧ (t ≠ t_1 → G cd_X12_fours Q X 327 [(0, (2, v0)), (1, (0, v1)), (2, (0, v2)), (3, (0, v3)), (4, (1, v4)), (6, (0, v6))] [] ε μ)) : G cd_X12_fours Q X 187 [(0, (2, v0)), (1, (0, v1)), (2, (0, v2)), (3, (0, v3)), (4, (1, v4)), (6, (0, v6)), (7, (1, v7)), (9, (1, v9)), (11, (1, v11)), (13, (1, v13))] [(0, t)] ε μ := by
  refine G_run (m_in [2, 14, 26, 41, 48, 72, 82, 93, 100, 133, 145, 160, 172, 187, 199, 254, 275, 296, 317, 323, 327, 333]) 60 _ _ _ _ ?_
  show m_ty [(0, (2, v0)), (1, (0, v1)), (2, (0, v2)), (3, (0, v3)), (4, (1, v4)), (6, (0, v6)), (7, (1, v7)), (9, (1, v9)), (11, (1, v11)), (13, (1, v13))] [(0, t)] ε μ → (v13 ≤ (0 : Int) → (m_ty [(0, (2, v0)), (1, (0, v1)), (2, (0, v2)), (3, (0, v3)), (4, (1, v4)), (6, (0, v6)), (7, (1, v7)), (9, (1, v9)), (11, (1, v11)), (13, (1, v13))] [(0, t)] ε μ → G cd_X12_fours Q X 199 [(0, (2, v0)), (1, (0, v1)), (2, (0, v2)), (3, (0, v3)), (4, (1, v4)), (6, (0, v6)), (7, (1, v7)), (9, (1, v9)), (11, (1, v11)), (13, (1, v13))] [(0, 0), (0, t)] ε μ)) ∧ ((0 : Int) < v13 → (m_ty [(0, (2, v0)), (1, (0, v1)), (2, (0, v2)), (3, (0, v3)), (4, (1, v4)), (6, (0, v6)), (7, (1, v7)), (9, (1, v9)), (11, (1, v11)), (13, (1, v13))] [(0, t)] ε μ → G cd_X12_fours Q X 199 [(0, (2, v0)), (1, (0, v1)), (2, (0, v2)), (3, (0, v3)), (4, (1, v4)), (6, (0, v6)), (7, (1, v7)), (9, (1, v9)), (11, (1, v11)), (13, (1, v13))] [(0, 1), (0, t)] ε μ))
  intro hty
  replace h := h hty.1 (hty.2.1 _ (List.mem_of_getElem? (i := 1) rfl)) (hty.2.1 _ (List.mem_of_getElem? (i := 2) rfl)) (hty.2.1 _ (List.mem_of_getElem? (i := 3) rfl)) (hty.2.1 _ (List.mem_of_getElem? (i := 4) rfl)) (hty.2.1 _ (List.mem_of_getElem? (i := 5) rfl)) (hty.2.1 _ (List.mem_of_getElem? (i := 6) rfl)) (hty.2.1 _ (List.mem_of_getElem? (i := 7) rfl)) (hty.2.1 _ (List.mem_of_getElem? (i := 8) rfl)) (hty.2.1 _ (List.mem_of_getElem? (i := 9) rfl)) (hty.2.2 _ (List.mem_of_getElem? (i := 0) rfl))
  have hj := h
  refine And.intro (fun c0 => ?_) (fun c0 => ?_)
  · intro _
    exact g_X12_fours_199 (fun _ _ _ _ _ _ _ _ _ _ _ _ => (hj _ (((if_pos c0).trans rfl)).symm))
  · intro _
    exact g_X12_fours_199 (fun _ _ _ _ _ _ _ _ _ _ _ _ => (hj _ (((if_neg (Int.not_le.mpr c0)).trans rfl)).symm))
set_option maxRecDepth 20000 in
theorem g_X12_fours_172 {Q X : m_Po} {v0 v1 v2 v3 v4 v6 v7 v9 v11 v13 t t_1 : Int} {ε : m_E} {μ : m_M} (h : TY ε μ → i32 v1 → i32 v2 → i32 v3 → i64 v4 → i32 v6 → i64 v7 → i64 v9 → i64 v11 → i64 v13 → i32 t → i32 t_1 → (t ≠ t_1 → G cd_X12_fours Q X 327 [(0, (2, v0)), (1, (0, v1)), (2, (0, v2)), (3, (0, v3)), (4, (1, v4)), (6, (0, v6))] [] ε μ) ∧ (t = t_1 → ∀ t_2 : Int, t_2 = (if v7 ≤ (0 : Int) then 0 else 1) → ∀ t_3 : Int, t_3 = (if v13 ≤ (0 : Int) then 0 else 1) → (t_2 = t_3 → kd ε v0 = 11 ∧ kd ε (fn ε v0 61) = 100 ∧ 0 < ln ε (fn ε v0 61) ∧ ∀ μ_1 : m_M, μ_1 = st μ (fn ε v0 61) 0 v1 → 1 < ln ε (fn ε v0 61) ∧ ∀ μ_2 : m_M, μ_2 = st μ_1 (fn ε v0 61) 1 v2 → 2 < ln ε (fn ε v0 61) ∧ ∀ μ_3 : m_M, μ_3 = st μ_2 (fn ε v0 61) 2 v3 → 3 < ln ε (fn ε v0 61) ∧ ∀ μ_4 : m_M, μ_4 = st μ_3 (fn ε v0 61) 3 v6 → ∀ t_4 : Int, t_4 = (if (0 : Int) ≤ v7 then v7 else w64 (-v7)) → kd ε (fn ε v0 60) = 101 ∧ (0 : Int) ≤ 0 ∧ 0 < ln ε (fn ε v0 60) ∧ ∀ μ_5 : m_M, μ_5 = st μ_4 (fn ε v0 60) 0 t_4 → kd ε v0 = 11 ∧ ∀ t_5 : Int, t_5 = (if (0 : Int) ≤ v9 then v9 else w64 (-v9)) → kd ε (fn ε v0 60) = 101 ∧ (0 : Int) ≤ 1 ∧ 1 < ln ε (fn ε v0 60) ∧ ∀ μ_6 : m_M, μ_6 = st μ_5 (fn ε v0 60) 1 t_5 → kd ε v0 = 11 ∧ ∀ t_6 : Int, t_6 = (if (0 : Int) ≤ v11 then v11 else w64 (-v11)) → kd ε (fn ε v0 60) = 101 ∧ (0 : Int) ≤ 2 ∧ 2 < ln ε (fn ε v0 60) ∧ ∀ μ_7 : m_M, μ_7 = st μ_6 (fn ε v0 60) 2 t_6 → kd ε v0 = 11 ∧ ∀ t_7 : Int, t_7 = (if (0 : Int) ≤ v13 then v13 else w64 (-v13)) → kd ε (fn ε v0 60) = 101 ∧ (0 : Int) ≤ 3 ∧ 3 < ln ε (fn ε v0 60) ∧ ∀ μ_8 : m_M, μ_8 = st μ_7 (fn ε v0 60) 3 t_7 → kd ε v0 = 11 ∧ o_X12_isNever [(2, v0), (0, 4)] ε μ_8 (fun z ε_1 μ_9 => G cd_X12_fours Q X 323 [(0, (2, v0)), (1, (0, v1)), (2, (0, v2)), (3, (0, v3)), (4, (1, v4)), (6, (0, v6))] [(0, z)] ε_1 μ_9) m_F) ∧ (t_2 ≠ t_3 → G cd_X12_fours Q X 327 [(0, (2, v0)), (1, (0, v1)), (2, (0, v2)), (3, (0, v3)), (4, (1, v4)), (6, (0, v6))] [] ε μ))) : G cd_X12_fours Q X 172 [(0, (2, v0)), (1, (0, v1)), (2, (0, v2)), (3, (0, v3)), (4, (1, v4)), (6, (0, v6)), (7, (1, v7)), (9, (1, v9)), (11, (1, v11)), (13, (1, v13))] [(0, t_1), (0, t)] ε μ := by
  refine G_run (m_in [2, 14, 26, 41, 48, 72, 82, 93, 100, 133, 145, 160, 172, 187, 199, 254, 275, 296, 317, 323, 327, 333]) 60 _ _ _ _ ?_
  show m_ty [(0, (2, v0)), (1, (0, v1)), (2, (0, v2)), (3, (0, v3)), (4, (1, v4)), (6, (0, v6)), (7, (1, v7)), (9, (1, v9)), (11, (1, v11)), (13, (1, v13))] [(0, t_1), (0, t)] ε μ → (t ≠ t_1 → G cd_X12_fours Q X 327 [(0, (2, v0)), (1, (0, v1)), (2, (0, v2)), (3, (0, v3)), (4, (1, v4)), (6, (0, v6))] [] ε μ) ∧ (t = t_1 → (m_ty [(0, (2, v0)), (1, (0, v1)), (2, (0, v2)), (3, (0, v3)), (4, (1, v4)), (6, (0, v6)), (7, (1, v7)), (9, (1, v9)), (11, (1, v11)), (13, (1, v13))] [] ε μ → (v7 ≤ (0 : Int) → (m_ty [(0, (2, v0)), (1, (0, v1)), (2, (0, v2)), (3, (0, v3)), (4, (1, v4)), (6, (0, v6)), (7, (1, v7)), (9, (1, v9)), (11, (1, v11)), (13, (1, v13))] [] ε μ → G cd_X12_fours Q X 187 [(0, (2, v0)), (1, (0, v1)), (2, (0, v2)), (3, (0, v3)), (4, (1, v4)), (6, (0, v6)), (7, (1, v7)), (9, (1, v9)), (11, (1, v11)), (13, (1, v13))] [(0, 0)] ε μ)) ∧ ((0 : Int) < v7 → (m_ty [(0, (2, v0)), (1, (0, v1)), (2, (0, v2)), (3, (0, v3)), (4, (1, v4)), (6, (0, v6)), (7, (1, v7)), (9, (1, v9)), (11, (1, v11)), (13, (1, v13))] [] ε μ → G cd_X12_fours Q X 187 [(0, (2, v0)), (1, (0, v1)), (2, (0, v2)), (3, (0, v3)), (4, (1, v4)), (6, (0, v6)), (7, (1, v7)), (9, (1, v9)), (11, (1, v11)), (13, (1, v13))] [(0, 1)] ε μ))))
  intro hty
  replace h := h hty.1 (hty.2.1 _ (List.mem_of_getElem? (i := 1) rfl)) (hty.2.1 _ (List.mem_of_getElem? (i := 2) rfl)) (hty.2.1 _ (List.mem_of_getElem? (i := 3) rfl)) (hty.2.1 _ (List.mem_of_getElem? (i := 4) rfl)) (hty.2.1 _ (List.mem_of_getElem? (i := 5) rfl)) (hty.2.1 _ (List.mem_of_getElem? (i := 6) rfl)) (hty.2.1 _ (List.mem_of_getElem? (i := 7) rfl)) (hty.2.1 _ (List.mem_of_getElem? (i := 8) rfl)) (hty.2.1 _ (List.mem_of_getElem? (i := 9) rfl)) (hty.2.2 _ (List.mem_of_getElem? (i := 1) rfl)) (hty.2.2 _ (List.mem_of_getElem? (i := 0) rfl))
  obtain ⟨ha, hb⟩ := h
  refine And.intro (fun c29 => ?_) (fun c29 => ?_)
  · replace h := ha c29
    clear ha hb
    exact h
  · replace h := hb c29
    clear ha hb
    intro _
    have hj := h
    refine And.intro (fun c0 => ?_) (fun c0 => ?_)
    · intro _
      exact g_X12_fours_187 (fun _ _ _ _ _ _ _ _ _ _ _ => (hj _ (((if_pos c0).trans rfl)).symm))
    · intro _
      exact g_X12_fours_187 (fun _ _ _ _ _ _ _ _ _ _ _ => (hj _ (((if_neg (Int.not_le.mpr c0)).trans rfl)).symm))
set_option maxRecDepth 20000 in
theorem g_X12_fours_160 {Q X : m_Po} {v0 v1 v2 v3 v4 v6 v7 v9 v11 v13 t : Int} {ε : m_E} {μ : m_M} (h : TY ε μ → i32 v1 → i32 v2 → i32 v3 → i64 v4 → i32 v6 → i64 v7 → i64 v9 → i64 v11 → i64 v13 → i32 t → ∀ t_1 : Int, t_1 = (if v11 ≤ (0 : Int) then 0 else 1) → (t ≠ t_1 → G cd_X12_fours Q X 327 [(0, (2, v0)), (1, (0, v1)), (2, (0, v2)), (3, (0, v3)), (4, (1, v4)), (6, (0, v6))] [] ε μ) ∧ (t = t_1 → ∀ t_2 : Int, t_2 = (if v7 ≤ (0 : Int) then 0 else 1) → ∀ t_3 : Int, t_3 = (if v13 ≤ (0 : Int) then 0 else 1) → (t_2 = t_3 → kd ε v0 = 11 ∧ kd ε (fn ε v0 61) = 100 ∧ 0 < ln ε (fn ε v0 61) ∧ ∀ μ_1 : m_M, μ_1 = st μ (fn ε v0 61) 0 v1 → 1 < ln ε (fn ε v0 61) ∧ ∀ μ_2 : m_M, μ_2 = st μ_1 (fn ε v0 61) 1 v2 → 2 < ln ε (fn ε v0 61) ∧ ∀ μ_3 : m_M, μ_3 = st μ_2 (fn ε v0 61) 2 v3 → 3 < ln ε (fn ε v0 61) ∧ ∀ μ_4 : m_M, μ_4 = st μ_3 (fn ε v0 61) 3 v6 → ∀ t_4 : Int, t_4 = (if (0 : Int) ≤ v7 then v7 else w64 (-v7)) → kd ε (fn ε v0 60) = 101 ∧ (0 : Int) ≤ 0 ∧ 0 < ln ε (fn ε v0 60) ∧ ∀ μ_5 : m_M, μ_5 = st μ_4 (fn ε v0 60) 0 t_4 → kd ε v0 = 11 ∧ ∀ t_5 : Int, t_5 = (if (0 : Int) ≤ v9 then v9 else w64 (-v9)) → kd ε (fn ε v0 60) = 101 ∧ (0 : Int) ≤ 1 ∧ 1 < ln ε (fn ε v0 60) ∧ ∀ μ_6 : m_M, μ_6 = st μ_5 (fn ε v0 60) 1 t_5 → kd ε v0 = 11 ∧ ∀ t_6 : Int, t_6 = (if (0 : Int) ≤ v11 then v11 else w64 (-v11)) → kd ε (fn ε v0 60) = 101 ∧ (0 : Int) ≤ 2 ∧ 2 < ln ε (fn ε v0 60) ∧ ∀ μ_7 : m_M, μ_7 = st μ_6 (fn ε v0 60) 2 t_6 → kd ε v0 = 11 ∧ ∀ t_7 : Int, t_7 = (if (0 : Int) ≤ v13 then v13 else w64 (-v13)) → kd ε (fn ε v0 60) = 101 ∧ (0 : Int) ≤ 3 ∧ 3 < ln ε (fn ε v0 60) ∧ ∀ μ_8 : m_M, μ_8 = st μ_7 (fn ε v0 60) 3 t_7 → kd ε v0 = 11 ∧ o_X12_isNever [(2, v0), (0, 4)] ε μ_8 (fun z ε_1 μ_9 => G cd_X12_fours Q X 323 [(0, (2, v0)), (1, (0, v1)), (2, (0, v2)), (3, (0, v3)), (4, (1, v4)), (6, (0, v6))] [(0, z)] ε_1 μ_9) m_F) ∧ (t_2 ≠ t_3 → G cd_X12_fours Q X 327 [(0, (2, v0)), (1, (0, v1)), (2, (0, v2)), (3, (0, v3)), (4, (1, v4)), (6, (0, v6))] [] ε μ))) : G cd_X12_fours Q X 160 [(0, (2, v0)), (1, (0, v1)), (2, (0, v2)), (3, (0, v3)), (4, (1, v4)), (6, (0, v6)), (7, (1, v7)), (9, (1, v9)), (11, (1, v11)), (13, (1, v13))] [(0, t)] ε μ := by
  refine G_run (m_in [2, 14, 26, 41, 48, 72, 82, 93, 100, 133, 145, 160, 172, 187, 199, 254, 275, 296, 317, 323, 327, 333]) 60 _ _ _ _ ?_
  show m_ty [(0, (2, v0)), (1, (0, v1)), (2, (0, v2)), (3, (0, v3)), (4, (1, v4)), (6, (0, v6)), (7, (1, v7)), (9, (1, v9)), (11, (1, v11)), (13, (1, v13))] [(0, t)] ε μ → (v11 ≤ (0 : Int) → (m_ty [(0, (2, v0)), (1, (0, v1)), (2, (0, v2)), (3, (0, v3)), (4, (1, v4)), (6, (0, v6)), (7, (1, v7)), (9, (1, v9)), (11, (1, v11)), (13, (1, v13))] [(0, t)] ε μ → G cd_X12_fours Q X 172 [(0, (2, v0)), (1, (0, v1)), (2, (0, v2)), (3, (0, v3)), (4, (1, v4)), (6, (0, v6)), (7, (1, v7)), (9, (1, v9)), (11, (1, v11)), (13, (1, v13))] [(0, 0), (0, t)] ε μ)) ∧ ((0 : Int) < v11 → (m_ty [(0, (2, v0)), (1, (0, v1)), (2, (0, v2)), (3, (0, v3)), (4, (1, v4)), (6, (0, v6)), (7, (1, v7)), (9, (1, v9)), (11, (1, v11)), (13, (1, v13))] [(0, t)] ε μ → G cd_X12_fours Q X 172 [(0, (2, v0)), (1, (0, v1)), (2, (0, v2)), (3, (0, v3)), (4, (1, v4)), (6, (0, v6)), (7, (1, v7)), (9, (1, v9)), (11, (1, v11)), (13, (1, v13))] [(0, 1), (0, t)] ε μ))
  intro hty
  replace h := h hty.1 (hty.2.1 _ (List.mem_of_getElem? (i := 1) rfl)) (hty.2.1 _ (List.mem_of_getElem? (i := 2) rfl)) (hty.2.1 _ (List.mem_of_getElem? (i := 3) rfl)) (hty.2.1 _ (List.mem_of_getElem? (i := 4) rfl)) (hty.2.1 _ (List.mem_of_getElem? (i := 5) rfl)) (hty.2.1 _ (List.mem_of_getElem? (i := 6) rfl)) (hty.2.1 _ (List.mem_of_getElem? (i := 7) rfl)) (hty.2.1 _ (List.mem_of_getElem? (i := 8) rfl)) (hty.2.1 _ (List.mem_of_getElem? (i := 9) rfl)) (hty.2.2 _ (List.mem_of_getElem? (i := 0) rfl))
  have hj := h
  refine And.intro (fun c0 => ?_) (fun c0 => ?_)
  · intro _
    exact g_X12_fours_172 (fun _ _ _ _ _ _ _ _ _ _ _ _ => (hj _ (((if_pos c0).trans rfl)).symm))
  · intro _
    exact g_X12_fours_172 (fun _ _ _ _ _ _ _ _ _ _ _ _ => (hj _ (((if_neg (Int.not_le.mpr c0)).trans rfl)).symm))
set_option maxRecDepth 20000 in
theorem g_X12_fours_145 {Q X : m_Po} {v0 v1 v2 v3 v4 v6 v7 v9 v11 v13 t t_1 : Int} {ε : m_E} {μ : m_M} (h : TY ε μ → i32 v1 → i32 v2 → i32 v3 → i64 v4 → i32 v6 → i64 v7 → i64 v9 → i64 v11 → i64 v13 → i32 t → i32 t_1 → (t ≠ t_1 → G cd_X12_fours Q X 327 [(0, (2, v0)), (1, (0, v1)), (2, (0, v2)), (3, (0, v3)), (4, (1, v4)), (6, (0, v6))] [] ε μ) ∧ (t = t_1 → ∀ t_2 : Int, t_2 = (if v7 ≤ (0 : Int) then 0 else 1) → ∀ t_3 : Int, t_3 = (if v11 ≤ (0 : Int) then 0 else 1) → (t_2 ≠ t_3 → G cd_X12_fours Q X 327 [(0, (2, v0)), (1, (0, v1)), (2, (0, v2)), (3, (0, v3)), (4, (1, v4)), (6, (0, v6))] [] ε μ) ∧ (t_2 = t_3 → ∀ t_4 : Int, t_4 = (if v7 ≤ (0 : Int) then 0 else 1) → ∀ t_5 : Int, t_5 = (if v13 ≤ (0 : Int) then 0 else 1) → (t_4 = t_5 → kd ε v0 = 11 ∧ kd ε (fn ε v0 61) = 100 ∧ 0 < ln ε (fn ε v0 61) ∧ ∀ μ_1 : m_M, μ_1 = st μ (fn ε v0 61) 0 v1 → 1 < ln ε (fn ε v0 61) ∧ ∀ μ_2 : m_M, μ_2 = st μ_1 (fn ε v0 61) 1 v2 → 2 < ln ε (fn ε v0 61) ∧ ∀ μ_3 : m_M, μ_3 = st μ_2 (fn ε v0 61) 2 v3 → 3 < ln ε (fn ε v0 61) ∧ ∀ μ_4 : m_M, μ_4 = st μ_3 (fn ε v0 61) 3 v6 → ∀ t_6 : Int, t_6 = (if (0 : Int) ≤ v7 then v7 else w64 (-v7)) → kd ε (fn ε v0 60) = 101 ∧ (0 : Int) ≤ 0 ∧ 0 < ln ε (fn ε v0 60) ∧ ∀ μ_5 : m_M, μ_5 = st μ_4 (fn ε v0 60) 0 t_6 → kd ε v0 = 11 ∧ ∀ t_7 : Int, t_7 = (if (0 : Int) ≤ v9 then v9 else w64 (-v9)) → kd ε (fn ε v0 60) = 101 ∧ (0 : Int) ≤ 1 ∧ 1 < ln ε (fn ε v0 60) ∧ ∀ μ_6 : m_M, μ_6 = st μ_5 (fn ε v0 60) 1 t_7 → kd ε v0 = 11 ∧ ∀ t_8 : Int, t_8 = (if (0 : Int) ≤ v11 then v11 else w64 (-v11)) → kd ε (fn ε v0 60) = 101 ∧ (0 : Int) ≤ 2 ∧ 2 < ln ε (fn ε v0 60) ∧ ∀ μ_7 : m_M, μ_7 = st μ_6 (fn ε v0 60) 2 t_8 → kd ε v0 = 11 ∧ ∀ t_9 : Int, t_9 = (if (0 : Int) ≤ v13 then v13 else w64 (-v13)) → kd ε (fn ε v0 60) = 101 ∧ (0 : Int) ≤ 3 ∧ 3 < ln ε (fn ε v0 60) ∧ ∀ μ_8 : m_M, μ_8 = st μ_7 (fn ε v0 60) 3 t_9 → kd ε v0 = 11 ∧ o_X12_isNever [(2, v0), (0, 4)] ε μ_8 (fun z ε_1 μ_9 => G cd_X12_fours Q X 323 [(0, (2, v0)), (1, (0, v1)), (2, (0, v2)), (3, (0, v3)), (4, (1, v4)), (6, (0, v6))] [(0, z)] ε_1 μ_9) m_F) ∧ (t_4 ≠ t_5 → G cd_X12_fours Q X 327 [(0, (2, v0)), (1, (0, v1)), (2, (0, v2)), (3, (0, v3)), (4, (1, v4)), (6, (0, v6))] [] ε μ)))) : G cd_X12_fours Q X 145 [(0, (2, v0)), (1, (0, v1)), (2, (0, v2)), (3, (0, v3)), (4, (1, v4)), (6, (0, v6)), (7, (1, v7)), (9, (1, v9)), (11, (1, v11)), (13, (1, v13))] [(0, t_1), (0, t)] ε μ := by
  refine G_run (m_in [2, 14, 26, 41, 48, 72, 82, 93, 100, 133, 145, 160, 172, 187, 199, 254, 275, 296, 317, 323, 327, 333]) 60 _ _ _ _ ?_
  show m_ty [(0, (2, v0)), (1, (0, v1)), (2, (0, v2)), (3, (0, v3)), (4, (1, v4)), (6, (0, v6)), (7, (1, v7)), (9, (1, v9)), (11, (1, v11)), (13, (1, v13))] [(0, t_1), (0, t)] ε μ → (t ≠ t_1 → G cd_X12_fours Q X 327 [(0, (2, v0)), (1, (0, v1)), (2, (0, v2)), (3, (0, v3)), (4, (1, v4)), (6, (0, v6))] [] ε μ) ∧ (t = t_1 → (m_ty [(0, (2, v0)), (1, (0, v1)), (2, (0, v2)), (3, (0, v3)), (4, (1, v4)), (6, (0, v6)), (7, (1, v7)), (9, (1, v9)), (11, (1, v11)), (13, (1, v13))] [] ε μ → (v7 ≤ (0 : Int) → (m_ty [(0, (2, v0)), (1, (0, v1)), (2, (0, v2)), (3, (0, v3)), (4, (1, v4)), (6, (0, v6)), (7, (1, v7)), (9, (1, v9)), (11, (1, v11)), (13, (1, v13))] [] ε μ → G cd_X12_fours Q X 160 [(0, (2, v0)), (1, (0, v1)), (2, (0, v2)), (3, (0, v3)), (4, (1, v4)), (6, (0, v6)), (7, (1, v7)), (9, (1, v9)), (11, (1, v11)), (13, (1, v13))] [(0, 0)] ε μ)) ∧ ((0 : Int) < v7 → (m_ty [(0, (2, v0)), (1, (0, v1)), (2, (0, v2)), (3, (0, v3)), (4, (1, v4)), (6, (0, v6)), (7, (1, v7)), (9, (1, v9)), (11, (1, v11)), (13, (1, v13))] [] ε μ → G cd_X12_fours Q X 160 [(0, (2, v0)), (1, (0, v1)), (2, (0, v2)), (3, (0, v3)), (4, (1, v4)), (6, (0, v6)), (7, (1, v7)), (9, (1, v9)), (11, (1, v11)), (13, (1, v13))] [(0, 1)] ε μ))))
  intro hty
  replace h := h hty.1 (hty.2.1 _ (List.mem_of_getElem? (i := 1) rfl)) (hty.2.1 _ (List.mem_of_getElem? (i := 2) rfl)) (hty.2.1 _ (List.mem_of_getElem? (i := 3) rfl)) (hty.2.1 _ (List.mem_of_getElem? (i := 4) rfl)) (hty.2.1 _ (List.mem_of_getElem? (i := 5) rfl)) (hty.2.1 _ (List.mem_of_getElem? (i := 6) rfl)) (hty.2.1 _ (List.mem_of_getElem? (i := 7) rfl)) (hty.2.1 _ (List.mem_of_getElem? (i := 8) rfl)) (hty.2.1 _ (List.mem_of_getElem? (i := 9) rfl)) (hty.2.2 _ (List.mem_of_getElem? (i := 1) rfl)) (hty.2.2 _ (List.mem_of_getElem? (i := 0) rfl))
  obtain ⟨ha, hb⟩ := h
  refine And.intro (fun c32 => ?_) (fun c32 => ?_)
  · replace h := ha c32
    clear ha hb
    exact h
  · replace h := hb c32
    clear ha hb
    intro _
    have hj := h
    refine And.intro (fun c0 => ?_) (fun c0 => ?_)
    · intro _
      exact g_X12_fours_160 (fun _ _ _ _ _ _ _ _ _ _ _ => (hj _ (((if_pos c0).trans rfl)).symm))
    · intro _
      exact g_X12_fours_160 (fun _ _ _ _ _ _ _ _ _ _ _ => (hj _ (((if_neg (Int.not_le.mpr c0)).trans rfl)).symm))
set_option maxRecDepth 20000 in
theorem g_X12_fours_133 {Q X : m_Po} {v0 v1 v2 v3 v4 v6 v7 v9 v11 v13 t : Int} {ε : m_E} {μ : m_M} (h : TY ε μ → i32 v1 → i32 v2 → i32 v3 → i64 v4 → i32 v6 → i64 v7 → i64 v9 → i64 v11 → i64 v13 → i32 t → ∀ t_1 : Int, t_1 = (if v9 ≤ (0 : Int) then 0 else 1) → (t ≠ t_1 → G cd_X12_fours Q X 327 [(0, (2, v0)), (1, (0, v1)), (2, (0, v2)), (3, (0, v3)), (4, (1, v4)), (6, (0, v6))] [] ε μ) ∧ (t = t_1 → ∀ t_2 : Int, t_2 = (if v7 ≤ (0 : Int) then 0 else 1) → ∀ t_3 : Int, t_3 = (if v11 ≤ (0 : Int) then 0 else 1) → (t_2 ≠ t_3 → G cd_X12_fours Q X 327 [(0, (2, v0)), (1, (0, v1)), (2, (0, v2)), (3, (0, v3)), (4, (1, v4)), (6, (0, v6))] [] ε μ) ∧ (t_2 = t_3 → ∀ t_4 : Int, t_4 = (if v7 ≤ (0 : Int) then 0 else 1) → ∀ t_5 : Int, t_5 = (if v13 ≤ (0 : Int) then 0 else 1) → (t_4 = t_5 → kd ε v0 = 11 ∧ kd ε (fn ε v0 61) = 100 ∧ 0 < ln ε (fn ε v0 61) ∧ ∀ μ_1 : m_M, μ_1 = st μ (fn ε v0 61) 0 v1 → 1 < ln ε (fn ε v0 61) ∧ ∀ μ_2 : m_M, μ_2 = st μ_1 (fn ε v0 61) 1 v2 → 2 < ln ε (fn ε v0 61) ∧ ∀ μ_3 : m_M, μ_3 = st μ_2 (fn ε v0 61) 2 v3 → 3 < ln ε (fn ε v0 61) ∧ ∀ μ_4 : m_M, μ_4 = st μ_3 (fn ε v0 61) 3 v6 → ∀ t_6 : Int, t_6 = (if (0 : Int) ≤ v7 then v7 else w64 (-v7)) → kd ε (fn ε v0 60) = 101 ∧ (0 : Int) ≤ 0 ∧ 0 < ln ε (fn ε v0 60) ∧ ∀ μ_5 : m_M, μ_5 = st μ_4 (fn ε v0 60) 0 t_6 → kd ε v0 = 11 ∧ ∀ t_7 : Int, t_7 = (if (0 : Int) ≤ v9 then v9 else w64 (-v9)) → kd ε (fn ε v0 60) = 101 ∧ (0 : Int) ≤ 1 ∧ 1 < ln ε (fn ε v0 60) ∧ ∀ μ_6 : m_M, μ_6 = st μ_5 (fn ε v0 60) 1 t_7 → kd ε v0 = 11 ∧ ∀ t_8 : Int, t_8 = (if (0 : Int) ≤ v11 then v11 else w64 (-v11)) → kd ε (fn ε v0 60) = 101 ∧ (0 : Int) ≤ 2 ∧ 2 < ln ε (fn ε v0 60) ∧ ∀ μ_7 : m_M, μ_7 = st μ_6 (fn ε v0 60) 2 t_8 → kd ε v0 = 11 ∧ ∀ t_9 : Int, t_9 = (if (0 : Int) ≤ v13 then v13 else w64 (-v13)) → kd ε (fn ε v0 60) = 101 ∧ (0 : Int) ≤ 3 ∧ 3 < ln ε (fn ε v0 60) ∧ ∀ μ_8 : m_M, μ_8 = st μ_7 (fn ε v0 60) 3 t_9 → kd ε v0 = 11 ∧ o_X12_isNever [(2, v0), (0, 4)] ε μ_8 (fun z ε_1 μ_9 => G cd_X12_fours Q X 323 [(0, (2, v0)), (1, (0, v1)), (2, (0, v2)), (3, (0, v3)), (4, (1, v4)), (6, (0, v6))] [(0, z)] ε_1 μ_9) m_F) ∧ (t_4 ≠ t_5 → G cd_X12_fours Q X 327 [(0, (2, v0)), (1, (0, v1)), (2, (0, v2)), (3, (0, v3)), (4, (1, v4)), (6, (0, v6))] [] ε μ)))) : G cd_X12_fours Q X 133 [(0, (2, v0)), (1, (0, v1)), (2, (0, v2)), (3, (0, v3)), (4, (1, v4)), (6, (0, v6)), (7, (1, v7)), (9, (1, v9)), (11, (1, v11)), (13, (1, v13))] [(0, t)] ε μ := by
  refine G_run (m_in [2, 14, 26, 41, 48, 72, 82, 93, 100, 133, 145, 160, 172, 187, 199, 254, 275, 296, 317, 323, 327, 333]) 60 _ _ _ _ ?_
  show m_ty [(0, (2, v0)), (1, (0, v1)), (2, (0, v2)), (3, (0, v3)), (4, (1, v4)), (6, (0, v6)), (7, (1, v7)), (9, (1, v9)), (11, (1, v11)), (13, (1, v13))] [(0, t)] ε μ → (v9 ≤ (0 : Int) → (m_ty [(0, (2, v0)), (1, (0, v1)), (2, (0, v2)), (3, (0, v3)), (4, (1, v4)), (6, (0, v6)), (7, (1, v7)), (9, (1, v9)), (11, (1, v11)), (13, (1, v13))] [(0, t)] ε μ → G cd_X12_fours Q X 145 [(0, (2, v0)), (1, (0, v1)), (2, (0, v2)), (3, (0, v3)), (4, (1, v4)), (6, (0, v6)), (7, (1, v7)), (9, (1, v9)), (11, (1, v11)), (13, (1, v13))] [(0, 0), (0, t)] ε μ)) ∧ ((0 : Int) < v9 → (m_ty [(0, (2, v0)), (1, (0, v1)), (2, (0, v2)), (3, (0, v3)), (4, (1, v4)), (6, (0, v6)), (7, (1, v7)), (9, (1, v9)), (11, (1, v11)), (13, (1, v13))] [(0, t)] ε μ → G cd_X12_fours Q X 145 [(0, (2, v0)), (1, (0, v1)), (2, (0, v2)), (3, (0, v3)), (4, (1, v4)), (6, (0, v6)), (7, (1, v7)), (9, (1, v9)), (11, (1, v11)), (13, (1, v13))] [(0, 1), (0, t)] ε μ))
  intro hty
  replace h := h hty.1 (hty.2.1 _ (List.mem_of_getElem? (i := 1) rfl)) (hty.2.1 _ (List.mem_of_getElem? (i := 2) rfl)) (hty.2.1 _ (List.mem_of_getElem? (i := 3) rfl)) (hty.2.1 _ (List.mem_of_getElem? (i := 4) rfl)) (hty.2.1 _ (List.mem_of_getElem? (i := 5) rfl)) (hty.2.1 _ (List.mem_of_getElem? (i := 6) rfl)) (hty.2.1 _ (List.mem_of_getElem? (i := 7) rfl)) (hty.2.1 _ (List.mem_of_getElem? (i := 8) rfl)) (hty.2.1 _ (List.mem_of_getElem? (i := 9) rfl)) (hty.2.2 _ (List.mem_of_getElem? (i := 0) rfl))
  have hj := h
  refine And.intro (fun c0 => ?_) (fun c0 => ?_)
  · intro _
    exact g_X12_fours_145 (fun _ _ _ _ _ _ _ _ _ _ _ _ => (hj _ (((if_pos c0).trans rfl)).symm))
  · intro _
    exact g_X12_fours_145 (fun _ _ _ _ _ _ _ _ _ _ _ _ => (hj _ (((if_neg (Int.not_le.mpr c0)).trans rfl)).symm))
set_option maxRecDepth 20000 in
theorem g_X12_fours_100 {Q X : m_Po} {v0 v1 v2 v3 v4 v6 v7 v9 v11 v13 : Int} {ε : m_E} {μ : m_M} (h : TY ε μ → i32 v1 → i32 v2 → i32 v3 → i64 v4 → i32 v6 → i64 v7 → i64 v9 → i64 v11 → i64 v13 → (v7 = (0 : Int) → G cd_X12_fours Q X 327 [(0, (2, v0)), (1, (0, v1)), (2, (0, v2)), (3, (0, v3)), (4, (1, v4)), (6, (0, v6))] [] ε μ) ∧ (v7 ≠ (0 : Int) → (v9 = (0 : Int) → G cd_X12_fours Q X 327 [(0, (2, v0)), (1, (0, v1)), (2, (0, v2)), (3, (0, v3)), (4, (1, v4)), (6, (0, v6))] [] ε μ) ∧ (v9 ≠ (0 : Int) → (v11 = (0 : Int) → G cd_X12_fours Q X 327 [(0, (2, v0)), (1, (0, v1)), (2, (0, v2)), (3, (0, v3)), (4, (1, v4)), (6, (0, v6))] [] ε μ) ∧ (v11 ≠ (0 : Int) → ∀ t : Int, t = (if v7 ≤ (0 : Int) then 0 else 1) → ∀ t_1 : Int, t_1 = (if v9 ≤ (0 : Int) then 0 else 1) → (t ≠ t_1 → G cd_X12_fours Q X 327 [(0, (2, v0)), (1, (0, v1)), (2, (0, v2)), (3, (0, v3)), (4, (1, v4)), (6, (0, v6))] [] ε μ) ∧ (t = t_1 → ∀ t_2 : Int, t_2 = (if v7 ≤ (0 : Int) then 0 else 1) → ∀ t_3 : Int, t_3 = (if v11 ≤ (0 : Int) then 0 else 1) → (t_2 ≠ t_3 → G cd_X12_fours Q X 327 [(0, (2, v0)), (1, (0, v1)), (2, (0, v2)), (3, (0, v3)), (4, (1, v4)), (6, (0, v6))] [] ε μ) ∧ (t_2 = t_3 → ∀ t_4 : Int, t_4 = (if v7 ≤ (0 : Int) then 0 else 1) → ∀ t_5 : Int, t_5 = (if v13 ≤ (0 : Int) then 0 else 1) → (t_4 = t_5 → kd ε v0 = 11 ∧ kd ε (fn ε v0 61) = 100 ∧ 0 < ln ε (fn ε v0 61) ∧ ∀ μ_1 : m_M, μ_1 = st μ (fn ε v0 61) 0 v1 → 1 < ln ε (fn ε v0 61) ∧ ∀ μ_2 : m_M, μ_2 = st μ_1 (fn ε v0 61) 1 v2 → 2 < ln ε (fn ε v0 61) ∧ ∀ μ_3 : m_M, μ_3 = st μ_2 (fn ε v0 61) 2 v3 → 3 < ln ε (fn ε v0 61) ∧ ∀ μ_4 : m_M, μ_4 = st μ_3 (fn ε v0 61) 3 v6 → ∀ t_6 : Int, t_6 = (if (0 : Int) ≤ v7 then v7 else w64 (-v7)) → kd ε (fn ε v0 60) = 101 ∧ (0 : Int) ≤ 0 ∧ 0 < ln ε (fn ε v0 60) ∧ ∀ μ_5 : m_M, μ_5 = st μ_4 (fn ε v0 60) 0 t_6 → kd ε v0 = 11 ∧ ∀ t_7 : Int, t_7 = (if (0 : Int) ≤ v9 then v9 else w64 (-v9)) → kd ε (fn ε v0 60) = 101 ∧ (0 : Int) ≤ 1 ∧ 1 < ln ε (fn ε v0 60) ∧ ∀ μ_6 : m_M, μ_6 = st μ_5 (fn ε v0 60) 1 t_7 → kd ε v0 = 11 ∧ ∀ t_8 : Int, t_8 = (if (0 : Int) ≤ v11 then v11 else w64 (-v11)) → kd ε (fn ε v0 60) = 101 ∧ (0 : Int) ≤ 2 ∧ 2 < ln ε (fn ε v0 60) ∧ ∀ μ_7 : m_M, μ_7 = st μ_6 (fn ε v0 60) 2 t_8 → kd ε v0 = 11 ∧ ∀ t_9 : Int, t_9 = (if (0 : Int) ≤ v13 then v13 else w64 (-v13)) → kd ε (fn ε v0 60) = 101 ∧ (0 : Int) ≤ 3 ∧ 3 < ln ε (fn ε v0 60) ∧ ∀ μ_8 : m_M, μ_8 = st μ_7 (fn ε v0 60) 3 t_9 → kd ε v0 = 11 ∧ o_X12_isNever [(2, v0), (0, 4)] ε μ_8 (fun z ε_1 μ_9 => G cd_X12_fours Q X 323 [(0, (2, v0)), (1, (0, v1)), (2, (0, v2)), (3, (0, v3)), (4, (1, v4)), (6, (0, v6))] [(0, z)] ε_1 μ_9) m_F) ∧ (t_4 ≠ t_5 → G cd_X12_fours Q X 327 [(0, (2, v0)), (1, (0, v1)), (2, (0, v2)), (3, (0, v3)), (4, (1, v4)), (6, (0, v6))] [] ε μ))))))) : G cd_X12_fours Q X 100 [(0, (2, v0)), (1, (0, v1)), (2, (0, v2)), (3, (0, v3)), (4, (1, v4)), (6, (0, v6)), (7, (1, v7)), (9, (1, v9)), (11, (1, v11)), (13, (1, v13))] [] ε μ := by
  refine G_run (m_in [2, 14, 26, 41, 48, 72, 82, 93, 100, 133, 145, 160, 172, 187, 199, 254, 275, 296, 317, 323, 327, 333]) 60 _ _ _ _ ?_
  show m_ty [(0, (2, v0)), (1, (0, v1)), (2, (0, v2)), (3, (0, v3)), (4, (1, v4)), (6, (0, v6)), (7, (1, v7)), (9, (1, v9)), (11, (1, v11)), (13, (1, v13))] [] ε μ → (v7 = (0 : Int) → G cd_X12_fours Q X 327 [(0, (2, v0)), (1, (0, v1)), (2, (0, v2)), (3, (0, v3)), (4, (1, v4)), (6, (0, v6))] [] ε μ) ∧ (v7 ≠ (0 : Int) → (m_ty [(0, (2, v0)), (1, (0, v1)), (2, (0, v2)), (3, (0, v3)), (4, (1, v4)), (6, (0, v6)), (7, (1, v7)), (9, (1, v9)), (11, (1, v11)), (13, (1, v13))] [] ε μ → (v9 = (0 : Int) → G cd_X12_fours Q X 327 [(0, (2, v0)), (1, (0, v1)), (2, (0, v2)), (3, (0, v3)), (4, (1, v4)), (6, (0, v6))] [] ε μ) ∧ (v9 ≠ (0 : Int) → (m_ty [(0, (2, v0)), (1, (0, v1)), (2, (0, v2)), (3, (0, v3)), (4, (1, v4)), (6, (0, v6)), (7, (1, v7)), (9, (1, v9)), (11, (1, v11)), (13, (1, v13))] [] ε μ → (v11 = (0 : Int) → G cd_X12_fours Q X 327 [(0, (2, v0)), (1, (0, v1)), (2, (0, v2)), (3, (0, v3)), (4, (1, v4)), (6, (0, v6))] [] ε μ) ∧ (v11 ≠ (0 : Int) → (m_ty [(0, (2, v0)), (1, (0, v1)), (2, (0, v2)), (3, (0, v3)), (4, (1, v4)), (6, (0, v6)), (7, (1, v7)), (9, (1, v9)), (11, (1, v11)), (13, (1, v13))] [] ε μ → (v7 ≤ (0 : Int) → (m_ty [(0, (2, v0)), (1, (0, v1)), (2, (0, v2)), (3, (0, v3)), (4, (1, v4)), (6, (0, v6)), (7, (1, v7)), (9, (1, v9)), (11, (1, v11)), (13, (1, v13))] [] ε μ → G cd_X12_fours Q X 133 [(0, (2, v0)), (1, (0, v1)), (2, (0, v2)), (3, (0, v3)), (4, (1, v4)), (6, (0, v6)), (7, (1, v7)), (9, (1, v9)), (11, (1, v11)), (13, (1, v13))] [(0, 0)] ε μ)) ∧ ((0 : Int) < v7 → (m_ty [(0, (2, v0)), (1, (0, v1)), (2, (0, v2)), (3, (0, v3)), (4, (1, v4)), (6, (0, v6)), (7, (1, v7)), (9, (1, v9)), (11, (1, v11)), (13, (1, v13))] [] ε μ → G cd_X12_fours Q X 133 [(0, (2, v0)), (1, (0, v1)), (2, (0, v2)), (3, (0, v3)), (4, (1, v4)), (6, (0, v6)), (7, (1, v7)), (9, (1, v9)), (11, (1, v11)), (13, (1, v13))] [(0, 1)] ε μ))))))))
  intro hty
  replace h := h hty.1 (hty.2.1 _ (List.mem_of_getElem? (i := 1) rfl)) (hty.2.1 _ (List.mem_of_getElem? (i := 2) rfl)) (hty.2.1 _ (List.mem_of_getElem? (i := 3) rfl)) (hty.2.1 _ (List.mem_of_getElem? (i := 4) rfl)) (hty.2.1 _ (List.mem_of_getElem? (i := 5) rfl)) (hty.2.1 _ (List.mem_of_getElem? (i := 6) rfl)) (hty.2.1 _ (List.mem_of_getElem? (i := 7) rfl)) (hty.2.1 _ (List.mem_of_getElem? (i := 8) rfl)) (hty.2.1 _ (List.mem_of_getElem? (i := 9) rfl))
  obtain ⟨ha, hb⟩ := h
  refine And.intro (fun c37 => ?_) (fun c37 => ?_)
  · replace h := ha c37
    clear ha hb
    exact h
  · replace h := hb c37
    clear ha hb
    intro _
    obtain ⟨ha, hb⟩ := h
    refine And.intro (fun c36 => ?_) (fun c36 => ?_)
    · replace h := ha c36
      clear ha hb
      exact h
    · replace h := hb c36
      clear ha hb
      intro _
      obtain ⟨ha, hb⟩ := h
      refine And.intro (fun c35 => ?_) (fun c35 => ?_)
      · replace h := ha c35
        clear ha hb
        exact h
      · replace h := hb c35
        clear ha hb
        intro _
        have hj := h
        refine And.intro (fun c0 => ?_) (fun c0 => ?_)
        · intro _
          exact g_X12_fours_133 (fun _ _ _ _ _ _ _ _ _ _ _ => (hj _ (((if_pos c0).trans rfl)).symm))
        · intro _
          exact g_X12_fours_133 (fun _ _ _ _ _ _ _ _ _ _ _ => (hj _ (((if_neg (Int.not_le.mpr c0)).trans rfl)).symm))
set_option maxRecDepth 20000 in
theorem g_X12_fours_93 {Q X : m_Po} {v0 v1 v2 v3 v4 v6 v7 v9 t : Int} {ε : m_E} {μ : m_M} (h : TY ε μ → i32 v1 → i32 v2 → i32 v3 → i64 v4 → i32 v6 → i64 v7 → i64 v9 → i64 t → ∀ v11 : Int, v11 = t → ∀ v13 : Int, v13 = w64 (-v4) → (v7 = (0 : Int) → G cd_X12_fours Q X 327 [(0, (2, v0)), (1, (0, v1)), (2, (0, v2)), (3, (0, v3)), (4, (1, v4)), (6, (0, v6))] [] ε μ) ∧ (v7 ≠ (0 : Int) → (v9 = (0 : Int) → G cd_X12_fours Q X 327 [(0, (2, v0)), (1, (0, v1)), (2, (0, v2)), (3, (0, v3)), (4, (1, v4)), (6, (0, v6))] [] ε μ) ∧ (v9 ≠ (0 : Int) → (v11 = (0 : Int) → G cd_X12_fours Q X 327 [(0, (2, v0)), (1, (0, v1)), (2, (0, v2)), (3, (0, v3)), (4, (1, v4)), (6, (0, v6))] [] ε μ) ∧ (v11 ≠ (0 : Int) → ∀ t_1 : Int, t_1 = (if v7 ≤ (0 : Int) then 0 else 1) → ∀ t_2 : Int, t_2 = (if v9 ≤ (0 : Int) then 0 else 1) → (t_1 ≠ t_2 → G cd_X12_fours Q X 327 [(0, (2, v0)), (1, (0, v1)), (2, (0, v2)), (3, (0, v3)), (4, (1, v4)), (6, (0, v6))] [] ε μ) ∧ (t_1 = t_2 → ∀ t_3 : Int, t_3 = (if v7 ≤ (0 : Int) then 0 else 1) → ∀ t_4 : Int, t_4 = (if v11 ≤ (0 : Int) then 0 else 1) → (t_3 ≠ t_4 → G cd_X12_fours Q X 327 [(0, (2, v0)), (1, (0, v1)), (2, (0, v2)), (3, (0, v3)), (4, (1, v4)), (6, (0, v6))] [] ε μ) ∧ (t_3 = t_4 → ∀ t_5 : Int, t_5 = (if v7 ≤ (0 : Int) then 0 else 1) → ∀ t_6 : Int, t_6 = (if v13 ≤ (0 : Int) then 0 else 1) → (t_5 = t_6 → kd ε v0 = 11 ∧ kd ε (fn ε v0 61) = 100 ∧ 0 < ln ε (fn ε v0 61) ∧ ∀ μ_1 : m_M, μ_1 = st μ (fn ε v0 61) 0 v1 → 1 < ln ε (fn ε v0 61) ∧ ∀ μ_2 : m_M, μ_2 = st μ_1 (fn ε v0 61) 1 v2 → 2 < ln ε (fn ε v0 61) ∧ ∀ μ_3 : m_M, μ_3 = st μ_2 (fn ε v0 61) 2 v3 → 3 < ln ε (fn ε v0 61) ∧ ∀ μ_4 : m_M, μ_4 = st μ_3 (fn ε v0 61) 3 v6 → ∀ t_7 : Int, t_7 = (if (0 : Int) ≤ v7 then v7 else w64 (-v7)) → kd ε (fn ε v0 60) = 101 ∧ (0 : Int) ≤ 0 ∧ 0 < ln ε (fn ε v0 60) ∧ ∀ μ_5 : m_M, μ_5 = st μ_4 (fn ε v0 60) 0 t_7 → kd ε v0 = 11 ∧ ∀ t_8 : Int, t_8 = (if (0 : Int) ≤ v9 then v9 else w64 (-v9)) → kd ε (fn ε v0 60) = 101 ∧ (0 : Int) ≤ 1 ∧ 1 < ln ε (fn ε v0 60) ∧ ∀ μ_6 : m_M, μ_6 = st μ_5 (fn ε v0 60) 1 t_8 → kd ε v0 = 11 ∧ ∀ t_9 : Int, t_9 = (if (0 : Int) ≤ v11 then v11 else w64 (-v11)) → kd ε (fn ε v0 60) = 101 ∧ (0 : Int) ≤ 2 ∧ 2 < ln ε (fn ε v0 60) ∧ ∀ μ_7 : m_M, μ_7 = st μ_6 (fn ε v0 60) 2 t_9 → kd ε v0 = 11 ∧ ∀ t_10 : Int, t_10 = (if (0 : Int) ≤ v13 then v13 else w64 (-v13)) → kd ε (fn ε v0 60) = 101 ∧ (0 : Int) ≤ 3 ∧ 3 < ln ε (fn ε v0 60) ∧ ∀ μ_8 : m_M, μ_8 = st μ_7 (fn ε v0 60) 3 t_10 → kd ε v0 = 11 ∧ o_X12_isNever [(2, v0), (0, 4)] ε μ_8 (fun z ε_1 μ_9 => G cd_X12_fours Q X 323 [(0, (2, v0)), (1, (0, v1)), (2, (0, v2)), (3, (0, v3)), (4, (1, v4)), (6, (0, v6))] [(0, z)] ε_1 μ_9) m_F) ∧ (t_5 ≠ t_6 → G cd_X12_fours Q X 327 [(0, (2, v0)), (1, (0, v1)), (2, (0, v2)), (3, (0, v3)), (4, (1, v4)), (6, (0, v6))] [] ε μ))))))) : G cd_X12_fours Q X 93 [(0, (2, v0)), (1, (0, v1)), (2, (0, v2)), (3, (0, v3)), (4, (1, v4)), (6, (0, v6)), (7, (1, v7)), (9, (1, v9))] [(1, t)] ε μ := by
  refine G_run (m_in [2, 14, 26, 41, 48, 72, 82, 93, 100, 133, 145, 160, 172, 187, 199, 254, 275, 296, 317, 323, 327, 333]) 60 _ _ _ _ ?_
  show m_ty [(0, (2, v0)), (1, (0, v1)), (2, (0, v2)), (3, (0, v3)), (4, (1, v4)), (6, (0, v6)), (7, (1, v7)), (9, (1, v9))] [(1, t)] ε μ → ∀ v11 : Int, v11 = t → ∀ v13 : Int, v13 = w64 (-v4) → G cd_X12_fours Q X 100 [(0, (2, v0)), (1, (0, v1)), (2, (0, v2)), (3, (0, v3)), (4, (1, v4)), (6, (0, v6)), (7, (1, v7)), (9, (1, v9)), (11, (1, v11)), (13, (1, v13))] [] ε μ
  intro hty
  replace h := h hty.1 (hty.2.1 _ (List.mem_of_getElem? (i := 1) rfl)) (hty.2.1 _ (List.mem_of_getElem? (i := 2) rfl)) (hty.2.1 _ (List.mem_of_getElem? (i := 3) rfl)) (hty.2.1 _ (List.mem_of_getElem? (i := 4) rfl)) (hty.2.1 _ (List.mem_of_getElem? (i := 5) rfl)) (hty.2.1 _ (List.mem_of_getElem? (i := 6) rfl)) (hty.2.1 _ (List.mem_of_getElem? (i := 7) rfl)) (hty.2.2 _ (List.mem_of_getElem? (i := 0) rfl))
  intro v11 e_v11
  replace h := h v11 e_v11
  intro v13 e_v13
  replace h := h v13 e_v13
  exact g_X12_fours_100 (fun _ _ _ _ _ _ _ _ _ _ => h)
set_option maxRecDepth 20000 in
theorem g_X12_fours_82 {Q X : m_Po} {v0 v1 v2 v3 v4 v6 v7 t : Int} {ε : m_E} {μ : m_M} (h : TY ε μ → i32 v1 → i32 v2 → i32 v3 → i64 v4 → i32 v6 → i64 v7 → i64 t → ∀ v9 : Int, v9 = w64 (-t) → kd ε v0 = 11 ∧ o_X12_minor [(2, v0), (0, v1), (0, v2), (0, v6)] ε μ (fun z ε_1 μ_1 => G cd_X12_fours Q X 93 [(0, (2, v0)), (1, (0, v1)), (2, (0, v2)), (3, (0, v3)), (4, (1, v4)), (6, (0, v6)), (7, (1, v7)), (9, (1, v9))] [(1, z)] ε_1 μ_1) m_F) : G cd_X12_fours Q X 82 [(0, (2, v0)), (1, (0, v1)), (2, (0, v2)), (3, (0, v3)), (4, (1, v4)), (6, (0, v6)), (7, (1, v7))] [(1, t)] ε μ := by
  refine G_run (m_in [2, 14, 26, 41, 48, 72, 82, 93, 100, 133, 145, 160, 172, 187, 199, 254, 275, 296, 317, 323, 327, 333]) 60 _ _ _ _ ?_
  show m_ty [(0, (2, v0)), (1, (0, v1)), (2, (0, v2)), (3, (0, v3)), (4, (1, v4)), (6, (0, v6)), (7, (1, v7))] [(1, t)] ε μ → ∀ v9 : Int, v9 = w64 (-t) → (kd ε v0 = 11) ∧ o_X12_minor [(2, v0), (0, v1), (0, v2), (0, v6)] ε μ (fun z ε_1 μ_1 => G cd_X12_fours Q X 93 [(0, (2, v0)), (1, (0, v1)), (2, (0, v2)), (3, (0, v3)), (4, (1, v4)), (6, (0, v6)), (7, (1, v7)), (9, (1, v9))] [(1, z)] ε_1 μ_1) m_F
  intro hty
  replace h := h hty.1 (hty.2.1 _ (List.mem_of_getElem? (i := 1) rfl)) (hty.2.1 _ (List.mem_of_getElem? (i := 2) rfl)) (hty.2.1 _ (List.mem_of_getElem? (i := 3) rfl)) (hty.2.1 _ (List.mem_of_getElem? (i := 4) rfl)) (hty.2.1 _ (List.mem_of_getElem? (i := 5) rfl)) (hty.2.1 _ (List.mem_of_getElem? (i := 6) rfl)) (hty.2.2 _ (List.mem_of_getElem? (i := 0) rfl))
  intro v9 e_v9
  replace h := h v9 e_v9
  obtain ⟨k1, h⟩ := h
  refine And.intro k1 ?_
  exact h
set_option maxRecDepth 20000 in
theorem g_X12_fours_72 {Q X : m_Po} {v0 v1 v2 v3 v4 v6 t : Int} {ε : m_E} {μ : m_M} (h : TY ε μ → i32 v1 → i32 v2 → i32 v3 → i64 v4 → i32 v6 → i64 t → ∀ v7 : Int, v7 = t → kd ε v0 = 11 ∧ o_X12_minor [(2, v0), (0, v1), (0, v3), (0, v6)] ε μ (fun z ε_1 μ_1 => G cd_X12_fours Q X 82 [(0, (2, v0)), (1, (0, v1)), (2, (0, v2)), (3, (0, v3)), (4, (1, v4)), (6, (0, v6)), (7, (1, v7))] [(1, z)] ε_1 μ_1) m_F) : G cd_X12_fours Q X 72 [(0, (2, v0)), (1, (0, v1)), (2, (0, v2)), (3, (0, v3)), (4, (1, v4)), (6, (0, v6))] [(1, t)] ε μ := by
  refine G_run (m_in [2, 14, 26, 41, 48, 72, 82, 93, 100, 133, 145, 160, 172, 187, 199, 254, 275, 296, 317, 323, 327, 333]) 60 _ _ _ _ ?_
  show m_ty [(0, (2, v0)), (1, (0, v1)), (2, (0, v2)), (3, (0, v3)), (4, (1, v4)), (6, (0, v6))] [(1, t)] ε μ → ∀ v7 : Int, v7 = t → (kd ε v0 = 11) ∧ o_X12_minor [(2, v0), (0, v1), (0, v3), (0, v6)] ε μ (fun z ε_1 μ_1 => G cd_X12_fours Q X 82 [(0, (2, v0)), (1, (0, v1)), (2, (0, v2)), (3, (0, v3)), (4, (1, v4)), (6, (0, v6)), (7, (1, v7))] [(1, z)] ε_1 μ_1) m_F
  intro hty
  replace h := h hty.1 (hty.2.1 _ (List.mem_of_getElem? (i := 1) rfl)) (hty.2.1 _ (List.mem_of_getElem? (i := 2) rfl)) (hty.2.1 _ (List.mem_of_getElem? (i := 3) rfl)) (hty.2.1 _ (List.mem_of_getElem? (i := 4) rfl)) (hty.2.1 _ (List.mem_of_getElem? (i := 5) rfl)) (hty.2.2 _ (List.mem_of_getElem? (i := 0) rfl))
  intro v7 e_v7
  replace h := h v7 e_v7
  obtain ⟨k1, h⟩ := h
  refine And.intro k1 ?_
  exact h
set_option maxRecDepth 20000 in
theorem g_X12_fours_48 {Q X : m_Po} {v0 v1 v2 v3 v4 v6 : Int} {ε : m_E} {μ : m_M} (h : TY ε μ → i32 v1 → i32 v2 → i32 v3 → i64 v4 → i32 v6 → kd ε v0 = 11 ∧ ((μ v0 35) ≤ v6 → G cd_X12_fours Q X 333 [(0, (2, v0)), (1, (0, v1)), (2, (0, v2)), (3, (0, v3))] [] ε μ) ∧ (v6 < (μ v0 35) → (v4 = (0 : Int) → G cd_X12_fours Q X 333 [(0, (2, v0)), (1, (0, v1)), (2, (0, v2)), (3, (0, v3))] [] ε μ) ∧ (v4 ≠ (0 : Int) → o_X12_minor [(2, v0), (0, v2), (0, v3), (0, v6)] ε μ (fun z ε_1 μ_1 => G cd_X12_fours Q X 72 [(0, (2, v0)), (1, (0, v1)), (2, (0, v2)), (3, (0, v3)), (4, (1, v4)), (6, (0, v6))] [(1, z)] ε_1 μ_1) m_F))) : G cd_X12_fours Q X 48 [(0, (2, v0)), (1, (0, v1)), (2, (0, v2)), (3, (0, v3)), (4, (1, v4)), (6, (0, v6))] [] ε μ := by
  refine G_run (m_in [2, 14, 26, 41, 48, 72, 82, 93, 100, 133, 145, 160, 172, 187, 199, 254, 275, 296, 317, 323, 327, 333]) 60 _ _ _ _ ?_
  show m_ty [(0, (2, v0)), (1, (0, v1)), (2, (0, v2)), (3, (0, v3)), (4, (1, v4)), (6, (0, v6))] [] ε μ → (kd ε v0 = 11) ∧ ((μ v0 35) ≤ v6 → G cd_X12_fours Q X 333 [(0, (2, v0)), (1, (0, v1)), (2, (0, v2)), (3, (0, v3))] [] ε μ) ∧ (v6 < (μ v0 35) → (m_ty [(0, (2, v0)), (1, (0, v1)), (2, (0, v2)), (3, (0, v3)), (4, (1, v4)), (6, (0, v6))] [] ε μ → (v4 = (0 : Int) → G cd_X12_fours Q X 333 [(0, (2, v0)), (1, (0, v1)), (2, (0, v2)), (3, (0, v3))] [] ε μ) ∧ (v4 ≠ (0 : Int) → (m_ty [(0, (2, v0)), (1, (0, v1)), (2, (0, v2)), (3, (0, v3)), (4, (1, v4)), (6, (0, v6))] [] ε μ → (kd ε v0 = 11) ∧ o_X12_minor [(2, v0), (0, v2), (0, v3), (0, v6)] ε μ (fun z ε_1 μ_1 => G cd_X12_fours Q X 72 [(0, (2, v0)), (1, (0, v1)), (2, (0, v2)), (3, (0, v3)), (4, (1, v4)), (6, (0, v6))] [(1, z)] ε_1 μ_1) m_F))))
  intro hty
  replace h := h hty.1 (hty.2.1 _ (List.mem_of_getElem? (i := 1) rfl)) (hty.2.1 _ (List.mem_of_getElem? (i := 2) rfl)) (hty.2.1 _ (List.mem_of_getElem? (i := 3) rfl)) (hty.2.1 _ (List.mem_of_getElem? (i := 4) rfl)) (hty.2.1 _ (List.mem_of_getElem? (i := 5) rfl))
  obtain ⟨k1, h⟩ := h
  refine And.intro k1 ?_
  obtain ⟨ha, hb⟩ := h
  refine And.intro (fun c2 => ?_) (fun c2 => ?_)
  · replace h := ha c2
    clear ha hb
    exact h
  · replace h := hb c2
    clear ha hb
    intro _
    obtain ⟨ha, hb⟩ := h
    refine And.intro (fun c1 => ?_) (fun c1 => ?_)
    · replace h := ha c1
      clear ha hb
      exact h
    · replace h := hb c1
      clear ha hb
      intro _
      refine And.intro k1 ?_
      exact h
set_option maxRecDepth 20000 in
theorem g_X12_fours_41 {Q X : m_Po} {v0 v1 v2 v3 t : Int} {ε : m_E} {μ : m_M} (h : TY ε μ → i32 v1 → i32 v2 → i32 v3 → i64 t → ∀ v4 : Int, v4 = t → ∀ v6 : Int, v6 = w32 (v3 + 1) → G cd_X12_fours Q X 48 [(0, (2, v0)), (1, (0, v1)), (2, (0, v2)), (3, (0, v3)), (4, (1, v4)), (6, (0, v6))] [] ε μ) : G cd_X12_fours Q X 41 [(0, (2, v0)), (1, (0, v1)), (2, (0, v2)), (3, (0, v3))] [(1, t)] ε μ := by
  refine G_run (m_in [2, 14, 26, 41, 48, 72, 82, 93, 100, 133, 145, 160, 172, 187, 199, 254, 275, 296, 317, 323, 327, 333]) 60 _ _ _ _ ?_
  show m_ty [(0, (2, v0)), (1, (0, v1)), (2, (0, v2)), (3, (0, v3))] [(1, t)] ε μ → ∀ v4 : Int, v4 = t → ∀ v6 : Int, v6 = w32 (v3 + 1) → G cd_X12_fours Q X 48 [(0, (2, v0)), (1, (0, v1)), (2, (0, v2)), (3, (0, v3)), (4, (1, v4)), (6, (0, v6))] [] ε μ
  intro hty
  replace h := h hty.1 (hty.2.1 _ (List.mem_of_getElem? (i := 1) rfl)) (hty.2.1 _ (List.mem_of_getElem? (i := 2) rfl)) (hty.2.1 _ (List.mem_of_getElem? (i := 3) rfl)) (hty.2.2 _ (List.mem_of_getElem? (i := 0) rfl))
  intro v4 e_v4
  replace h := h v4 e_v4
  intro v6 e_v6
  replace h := h v6 e_v6
  exact h
set_option maxRecDepth 20000 in
theorem g_X12_fours_26 {Q X : m_Po} {v0 v1 v2 v3 : Int} {ε : m_E} {μ : m_M} (h : TY ε μ → i32 v1 → i32 v2 → i32 v3 → kd ε v0 = 11 ∧ ((μ v0 35) ≤ v3 → ∀ v2_1 : Int, v2_1 = w32 (v2 + 1) → G cd_X12_fours Q X 14 [(0, (2, v0)), (1, (0, v1)), (2, (0, v2_1))] [] ε μ) ∧ (v3 < (μ v0 35) → o_X12_minor [(2, v0), (0, v1), (0, v2), (0, v3)] ε μ (fun z ε_1 μ_1 => G cd_X12_fours Q X 41 [(0, (2, v0)), (1, (0, v1)), (2, (0, v2)), (3, (0, v3))] [(1, z)] ε_1 μ_1) m_F)) : G cd_X12_fours Q X 26 [(0, (2, v0)), (1, (0, v1)), (2, (0, v2)), (3, (0, v3))] [] ε μ := by
  refine G_run (m_in [2, 14, 26, 41, 48, 72, 82, 93, 100, 133, 145, 160, 172, 187, 199, 254, 275, 296, 317, 323, 327, 333]) 60 _ _ _ _ ?_
  show m_ty [(0, (2, v0)), (1, (0, v1)), (2, (0, v2)), (3, (0, v3))] [] ε μ → (kd ε v0 = 11) ∧ ((μ v0 35) ≤ v3 → (m_ty [(0, (2, v0)), (1, (0, v1)), (2, (0, v2))] [] ε μ → ∀ v2_1 : Int, v2_1 = w32 (v2 + 1) → G cd_X12_fours Q X 14 [(0, (2, v0)), (1, (0, v1)), (2, (0, v2_1))] [] ε μ)) ∧ (v3 < (μ v0 35) → (m_ty [(0, (2, v0)), (1, (0, v1)), (2, (0, v2)), (3, (0, v3))] [] ε μ → (kd ε v0 = 11) ∧ o_X12_minor [(2, v0), (0, v1), (0, v2), (0, v3)] ε μ (fun z ε_1 μ_1 => G cd_X12_fours Q X 41 [(0, (2, v0)), (1, (0, v1)), (2, (0, v2)), (3, (0, v3))] [(1, z)] ε_1 μ_1) m_F))
  intro hty
  replace h := h hty.1 (hty.2.1 _ (List.mem_of_getElem? (i := 1) rfl)) (hty.2.1 _ (List.mem_of_getElem? (i := 2) rfl)) (hty.2.1 _ (List.mem_of_getElem? (i := 3) rfl))
  obtain ⟨k1, h⟩ := h
  refine And.intro k1 ?_
  obtain ⟨ha, hb⟩ := h
  refine And.intro (fun c1 => ?_) (fun c1 => ?_)
  · replace h := ha c1
    clear ha hb
    intro _
    intro v2_1 e_v2_1
    replace h := h v2_1 e_v2_1
    exact h
  · replace h := hb c1
    clear ha hb
    intro _
    refine And.intro k1 ?_
    exact h
set_option maxRecDepth 20000 in
theorem g_X12_fours_14 {Q X : m_Po} {v0 v1 v2 : Int} {ε : m_E} {μ : m_M} (h : TY ε μ → i32 v1 → i32 v2 → kd ε v0 = 11 ∧ ((μ v0 35) ≤ v2 → ∀ v1_1 : Int, v1_1 = w32 (v1 + 1) → G cd_X12_fours Q X 2 [(0, (2, v0)), (1, (0, v1_1))] [] ε μ) ∧ (v2 < (μ v0 35) → ∀ v3 : Int, v3 = w32 (v2 + 1) → G cd_X12_fours Q X 26 [(0, (2, v0)), (1, (0, v1)), (2, (0, v2)), (3, (0, v3))] [] ε μ)) : G cd_X12_fours Q X 14 [(0, (2, v0)), (1, (0, v1)), (2, (0, v2))] [] ε μ := by
  refine G_run (m_in [2, 14, 26, 41, 48, 72, 82, 93, 100, 133, 145, 160, 172, 187, 199, 254, 275, 296, 317, 323, 327, 333]) 60 _ _ _ _ ?_
  show m_ty [(0, (2, v0)), (1, (0, v1)), (2, (0, v2))] [] ε μ → (kd ε v0 = 11) ∧ ((μ v0 35) ≤ v2 → (m_ty [(0, (2, v0)), (1, (0, v1))] [] ε μ → ∀ v1_1 : Int, v1_1 = w32 (v1 + 1) → G cd_X12_fours Q X 2 [(0, (2, v0)), (1, (0, v1_1))] [] ε μ)) ∧ (v2 < (μ v0 35) → (m_ty [(0, (2, v0)), (1, (0, v1)), (2, (0, v2))] [] ε μ → ∀ v3 : Int, v3 = w32 (v2 + 1) → G cd_X12_fours Q X 26 [(0, (2, v0)), (1, (0, v1)), (2, (0, v2)), (3, (0, v3))] [] ε μ))
  intro hty
  replace h := h hty.1 (hty.2.1 _ (List.mem_of_getElem? (i := 1) rfl)) (hty.2.1 _ (List.mem_of_getElem? (i := 2) rfl))
  obtain ⟨k1, h⟩ := h
  refine And.intro k1 ?_
  obtain ⟨ha, hb⟩ := h
  refine And.intro (fun c1 => ?_) (fun c1 => ?_)
  · replace h := ha c1
    clear ha hb
    intro _
    intro v1_1 e_v1_1
    replace h := h v1_1 e_v1_1
    exact h
  · replace h := hb c1
    clear ha hb
    intro _
    intro v3 e_v3
    replace h := h v3 e_v3
    exact h
set_option maxRecDepth 20000 in
theorem g_X12_fours_2 {Q X : m_Po} {v0 v1 : Int} {ε : m_E} {μ : m_M} (h : TY ε μ → i32 v1 → kd ε v0 = 11 ∧ ((μ v0 35) ≤ v1 → Q 0 ε μ) ∧ (v1 < (μ v0 35) → ∀ v2 : Int, v2 = w32 (v1 + 1) → G cd_X12_fours Q X 14 [(0, (2, v0)), (1, (0, v1)), (2, (0, v2))] [] ε μ)) : G cd_X12_fours Q X 2 [(0, (2, v0)), (1, (0, v1))] [] ε μ := by
  refine G_run (m_in [2, 14, 26, 41, 48, 72, 82, 93, 100, 133, 145, 160, 172, 187, 199, 254, 275, 296, 317, 323, 327, 333]) 60 _ _ _ _ ?_
  show m_ty [(0, (2, v0)), (1, (0, v1))] [] ε μ → (kd ε v0 = 11) ∧ ((μ v0 35) ≤ v1 → (m_ty [] [] ε μ → Q 0 ε μ)) ∧ (v1 < (μ v0 35) → (m_ty [(0, (2, v0)), (1, (0, v1))] [] ε μ → ∀ v2 : Int, v2 = w32 (v1 + 1) → G cd_X12_fours Q X 14 [(0, (2, v0)), (1, (0, v1)), (2, (0, v2))] [] ε μ))
  intro hty
  replace h := h hty.1 (hty.2.1 _ (List.mem_of_getElem? (i := 1) rfl))
  obtain ⟨k1, h⟩ := h
  refine And.intro k1 ?_
  obtain ⟨ha, hb⟩ := h
  refine And.intro (fun c1 => ?_) (fun c1 => ?_)
  · replace h := ha c1
    clear ha hb
    intro _
    exact h
  · replace h := hb c1
    clear ha hb
    intro _
    intro v2 e_v2
    replace h := h v2 e_v2
    exact h
set_option maxRecDepth 20000 in
theorem g_X12_fours_0 {Q X : m_Po} {v0 : Int} {ε : m_E} {μ : m_M} (h : TY ε μ → ∀ v1 : Int, v1 = 0 → G cd_X12_fours Q X 2 [(0, (2, v0)), (1, (0, v1))] [] ε μ) : G cd_X12_fours Q X 0 [(0, (2, v0))] [] ε μ := by
  refine G_run (m_in [2, 14, 26, 41, 48, 72, 82, 93, 100, 133, 145, 160, 172, 187, 199, 254, 275, 296, 317, 323, 327, 333]) 60 _ _ _ _ ?_
  show m_ty [(0, (2, v0))] [] ε μ → ∀ v1 : Int, v1 = 0 → G cd_X12_fours Q X 2 [(0, (2, v0)), (1, (0, v1))] [] ε μ
  intro hty
  replace h := h hty.1 
  intro v1 e_v1
  replace h := h v1 e_v1
  exact h
theorem e_X12_fours {Q X : m_Po} {v0 : Int} {ε : m_E} {μ : m_M} (h : TY ε μ → ∀ v1 : Int, v1 = 0 → G cd_X12_fours Q X 2 [(0, (2, v0)), (1, (0, v1))] [] ε μ) : o_X12_fours [(2, v0)] ε μ Q X := And.intro rfl (g_X12_fours_0 h)
/-! ArchYardModel.nevers()V -/
set_option maxRecDepth 20000 in
theorem g_X12_nevers_18 {Q X : m_Po} {ε : m_E} {μ : m_M} (h : TY ε μ → Q 0 ε μ) : G cd_X12_nevers Q X 18 [] [] ε μ := by
  refine G_run (m_in [4, 11, 18]) 7 _ _ _ _ ?_
  show m_ty [] [] ε μ → Q 0 ε μ
  intro hty
  replace h := h hty.1 
  exact h
set_option maxRecDepth 20000 in
theorem g_X12_nevers_11 {Q X : m_Po} {v0 t : Int} {ε : m_E} {μ : m_M} (h : TY ε μ → i32 t → (t ≠ 0 → G cd_X12_nevers Q X 18 [] [] ε μ) ∧ (t = 0 → kd ε v0 = 11 ∧ o_X12_fours [(2, v0)] ε μ (fun z ε_1 μ_1 => G cd_X12_nevers Q X 18 [] [] ε_1 μ_1) m_F)) : G cd_X12_nevers Q X 11 [(0, (2, v0))] [(0, t)] ε μ := by
  refine G_run (m_in [4, 11, 18]) 7 _ _ _ _ ?_
  show m_ty [(0, (2, v0))] [(0, t)] ε μ → (t ≠ 0 → G cd_X12_nevers Q X 18 [] [] ε μ) ∧ (t = 0 → (m_ty [(0, (2, v0))] [] ε μ → (kd ε v0 = 11) ∧ o_X12_fours [(2, v0)] ε μ (fun z ε_1 μ_1 => G cd_X12_nevers Q X 18 [] [] ε_1 μ_1) m_F))
  intro hty
  replace h := h hty.1 (hty.2.2 _ (List.mem_of_getElem? (i := 0) rfl))
  obtain ⟨ha, hb⟩ := h
  refine And.intro (fun c1 => ?_) (fun c1 => ?_)
  · replace h := ha c1
    clear ha hb
    exact h
  · replace h := hb c1
    clear ha hb
    intro _
    obtain ⟨k1, h⟩ := h
    refine And.intro k1 ?_
    exact h
set_option maxRecDepth 20000 in
theorem g_X12_nevers_4 {Q X : m_Po} {v0 t : Int} {ε : m_E} {μ : m_M} (h : TY ε μ → i32 t → (t ≠ 0 → G cd_X12_nevers Q X 18 [] [] ε μ) ∧ (t = 0 → kd ε v0 = 11 ∧ o_X12_threes [(2, v0)] ε μ (fun z ε_1 μ_1 => G cd_X12_nevers Q X 11 [(0, (2, v0))] [(0, z)] ε_1 μ_1) m_F)) : G cd_X12_nevers Q X 4 [(0, (2, v0))] [(0, t)] ε μ := by
  refine G_run (m_in [4, 11, 18]) 7 _ _ _ _ ?_
  show m_ty [(0, (2, v0))] [(0, t)] ε μ → (t ≠ 0 → G cd_X12_nevers Q X 18 [] [] ε μ) ∧ (t = 0 → (m_ty [(0, (2, v0))] [] ε μ → (kd ε v0 = 11) ∧ o_X12_threes [(2, v0)] ε μ (fun z ε_1 μ_1 => G cd_X12_nevers Q X 11 [(0, (2, v0))] [(0, z)] ε_1 μ_1) m_F))
  intro hty
  replace h := h hty.1 (hty.2.2 _ (List.mem_of_getElem? (i := 0) rfl))
  obtain ⟨ha, hb⟩ := h
  refine And.intro (fun c1 => ?_) (fun c1 => ?_)
  · replace h := ha c1
    clear ha hb
    exact h
  · replace h := hb c1
    clear ha hb
    intro _
    obtain ⟨k1, h⟩ := h
    refine And.intro k1 ?_
    exact h
set_option maxRecDepth 20000 in
theorem g_X12_nevers_0 {Q X : m_Po} {v0 : Int} {ε : m_E} {μ : m_M} (h : TY ε μ → kd ε v0 = 11 ∧ o_X12_pairs [(2, v0)] ε μ (fun z ε_1 μ_1 => G cd_X12_nevers Q X 4 [(0, (2, v0))] [(0, z)] ε_1 μ_1) m_F) : G cd_X12_nevers Q X 0 [(0, (2, v0))] [] ε μ := by
  refine G_run (m_in [4, 11, 18]) 7 _ _ _ _ ?_
  show m_ty [(0, (2, v0))] [] ε μ → (kd ε v0 = 11) ∧ o_X12_pairs [(2, v0)] ε μ (fun z ε_1 μ_1 => G cd_X12_nevers Q X 4 [(0, (2, v0))] [(0, z)] ε_1 μ_1) m_F
  intro hty
  replace h := h hty.1 
  obtain ⟨k1, h⟩ := h
  refine And.intro k1 ?_
  exact h
theorem e_X12_nevers {Q X : m_Po} {v0 : Int} {ε : m_E} {μ : m_M} (h : TY ε μ → kd ε v0 = 11 ∧ o_X12_pairs [(2, v0)] ε μ (fun z ε_1 μ_1 => G cd_X12_nevers Q X 4 [(0, (2, v0))] [(0, z)] ε_1 μ_1) m_F) : o_X12_nevers [(2, v0)] ε μ Q X := And.intro rfl (g_X12_nevers_0 h)
/-! ArchYardModel.judge(II)I -/
set_option maxRecDepth 20000 in
theorem g_X12_judge_147 {Q X : m_Po} {v0 v3 : Int} {ε : m_E} {μ : m_M} (h : TY ε μ → i32 v3 → ∀ v3_1 : Int, v3_1 = w32 (v3 + 1) → G cd_X12_judge Q X 84 [(0, (2, v0)), (3, (0, v3_1))] [] ε μ) : G cd_X12_judge Q X 147 [(0, (2, v0)), (3, (0, v3))] [] ε μ := by
  refine G_run (m_in [7, 32, 37, 47, 80, 84, 112, 127, 130, 136, 142, 147]) 26 _ _ _ _ ?_
  show m_ty [(0, (2, v0)), (3, (0, v3))] [] ε μ → ∀ v3_1 : Int, v3_1 = w32 (v3 + 1) → G cd_X12_judge Q X 84 [(0, (2, v0)), (3, (0, v3_1))] [] ε μ
  intro hty
  replace h := h hty.1 (hty.2.1 _ (List.mem_of_getElem? (i := 1) rfl))
  intro v3_1 e_v3_1
  replace h := h v3_1 e_v3_1
  exact h
set_option maxRecDepth 20000 in
theorem g_X12_judge_142 {Q X : m_Po} {v0 v3 : Int} {ε : m_E} {μ : m_M} (h : TY ε μ → i32 v3 → kd ε v0 = 11 ∧ o_X12_touches [(2, v0), (0, v3)] ε μ (fun z ε_1 μ_1 => G cd_X12_judge Q X 147 [(0, (2, v0)), (3, (0, v3))] [] ε_1 μ_1) m_F) : G cd_X12_judge Q X 142 [(0, (2, v0)), (3, (0, v3))] [] ε μ := by
  refine G_run (m_in [7, 32, 37, 47, 80, 84, 112, 127, 130, 136, 142, 147]) 26 _ _ _ _ ?_
  show m_ty [(0, (2, v0)), (3, (0, v3))] [] ε μ → (kd ε v0 = 11) ∧ o_X12_touches [(2, v0), (0, v3)] ε μ (fun z ε_1 μ_1 => G cd_X12_judge Q X 147 [(0, (2, v0)), (3, (0, v3))] [] ε_1 μ_1) m_F
  intro hty
  replace h := h hty.1 (hty.2.1 _ (List.mem_of_getElem? (i := 1) rfl))
  obtain ⟨k1, h⟩ := h
  refine And.intro k1 ?_
  exact h
set_option maxRecDepth 20000 in
theorem g_X12_judge_136 {Q X : m_Po} {v0 v3 v4 : Int} {ε : m_E} {μ : m_M} (h : TY ε μ → i32 v3 → i32 v4 → kd ε v0 = 11 ∧ o_X12_leastM [(2, v0), (0, v4)] ε μ (fun z ε_1 μ_1 => G cd_X12_judge Q X 142 [(0, (2, v0)), (3, (0, v3))] [] ε_1 μ_1) m_F) : G cd_X12_judge Q X 136 [(0, (2, v0)), (3, (0, v3)), (4, (0, v4))] [] ε μ := by
  refine G_run (m_in [7, 32, 37, 47, 80, 84, 112, 127, 130, 136, 142, 147]) 26 _ _ _ _ ?_
  show m_ty [(0, (2, v0)), (3, (0, v3)), (4, (0, v4))] [] ε μ → (kd ε v0 = 11) ∧ o_X12_leastM [(2, v0), (0, v4)] ε μ (fun z ε_1 μ_1 => G cd_X12_judge Q X 142 [(0, (2, v0)), (3, (0, v3))] [] ε_1 μ_1) m_F
  intro hty
  replace h := h hty.1 (hty.2.1 _ (List.mem_of_getElem? (i := 1) rfl)) (hty.2.1 _ (List.mem_of_getElem? (i := 2) rfl))
  obtain ⟨k1, h⟩ := h
  refine And.intro k1 ?_
  exact h
set_option maxRecDepth 20000 in
theorem g_X12_judge_130 {Q X : m_Po} {v0 v3 v4 : Int} {ε : m_E} {μ : m_M} (h : TY ε μ → i32 v3 → i32 v4 → kd ε v0 = 11 ∧ o_X12_leastV [(2, v0), (0, v4)] ε μ (fun z ε_1 μ_1 => G cd_X12_judge Q X 136 [(0, (2, v0)), (3, (0, v3)), (4, (0, v4))] [] ε_1 μ_1) m_F) : G cd_X12_judge Q X 130 [(0, (2, v0)), (3, (0, v3)), (4, (0, v4))] [] ε μ := by
  refine G_run (m_in [7, 32, 37, 47, 80, 84, 112, 127, 130, 136, 142, 147]) 26 _ _ _ _ ?_
  show m_ty [(0, (2, v0)), (3, (0, v3)), (4, (0, v4))] [] ε μ → (kd ε v0 = 11) ∧ o_X12_leastV [(2, v0), (0, v4)] ε μ (fun z ε_1 μ_1 => G cd_X12_judge Q X 136 [(0, (2, v0)), (3, (0, v3)), (4, (0, v4))] [] ε_1 μ_1) m_F
  intro hty
  replace h := h hty.1 (hty.2.1 _ (List.mem_of_getElem? (i := 1) rfl)) (hty.2.1 _ (List.mem_of_getElem? (i := 2) rfl))
  obtain ⟨k1, h⟩ := h
  refine And.intro k1 ?_
  exact h
set_option maxRecDepth 20000 in
theorem g_X12_judge_127 {Q X : m_Po} {v0 v3 v4 t t_1 t_2 t_3 : Int} {ε : m_E} {μ : m_M} (h : TY ε μ → i32 v3 → i32 v4 → i32 t_1 → i64 t_2 → i64 t_3 → kd ε t = 11 ∧ o_X12_worth [(2, t), (0, t_1), (1, t_2), (1, t_3)] ε μ (fun z ε_1 μ_1 => G cd_X12_judge Q X 130 [(0, (2, v0)), (3, (0, v3)), (4, (0, v4))] [] ε_1 μ_1) m_F) : G cd_X12_judge Q X 127 [(0, (2, v0)), (3, (0, v3)), (4, (0, v4))] [(1, t_3), (1, t_2), (0, t_1), (2, t)] ε μ := by
  refine G_run (m_in [7, 32, 37, 47, 80, 84, 112, 127, 130, 136, 142, 147]) 26 _ _ _ _ ?_
  show m_ty [(0, (2, v0)), (3, (0, v3)), (4, (0, v4))] [(1, t_3), (1, t_2), (0, t_1), (2, t)] ε μ → (kd ε t = 11) ∧ o_X12_worth [(2, t), (0, t_1), (1, t_2), (1, t_3)] ε μ (fun z ε_1 μ_1 => G cd_X12_judge Q X 130 [(0, (2, v0)), (3, (0, v3)), (4, (0, v4))] [] ε_1 μ_1) m_F
  intro hty
  replace h := h hty.1 (hty.2.1 _ (List.mem_of_getElem? (i := 1) rfl)) (hty.2.1 _ (List.mem_of_getElem? (i := 2) rfl)) (hty.2.2 _ (List.mem_of_getElem? (i := 2) rfl)) (hty.2.2 _ (List.mem_of_getElem? (i := 1) rfl)) (hty.2.2 _ (List.mem_of_getElem? (i := 0) rfl))
  obtain ⟨k1, h⟩ := h
  refine And.intro k1 ?_
  exact h
set_option maxRecDepth 20000 in
theorem g_X12_judge_112 {Q X : m_Po} {v0 v3 v4 t t_1 t_2 : Int} {ε : m_E} {μ : m_M} (h : TY ε μ → i32 v3 → i32 v4 → i32 t_1 → i64 t_2 → ((v3 ≠ 0 → kd ε v0 = 11) ∧ (v3 = 0 → kd ε v0 = 11)) ∧ ∀ t_3 : Int, t_3 = (if v3 = 0 then μ v0 45 else μ v0 47) → kd ε t = 11 ∧ o_X12_worth [(2, t), (0, t_1), (1, t_2), (1, t_3)] ε μ (fun z ε_1 μ_1 => G cd_X12_judge Q X 130 [(0, (2, v0)), (3, (0, v3)), (4, (0, v4))] [] ε_1 μ_1) m_F) : G cd_X12_judge Q X 112 [(0, (2, v0)), (3, (0, v3)), (4, (0, v4))] [(1, t_2), (0, t_1), (2, t)] ε μ := by
  refine G_run (m_in [7, 32, 37, 47, 80, 84, 112, 127, 130, 136, 142, 147]) 26 _ _ _ _ ?_
  show m_ty [(0, (2, v0)), (3, (0, v3)), (4, (0, v4))] [(1, t_2), (0, t_1), (2, t)] ε μ → (v3 ≠ 0 → (m_ty [(0, (2, v0)), (3, (0, v3)), (4, (0, v4))] [(1, t_2), (0, t_1), (2, t)] ε μ → (kd ε v0 = 11) ∧ G cd_X12_judge Q X 127 [(0, (2, v0)), (3, (0, v3)), (4, (0, v4))] [(1, μ v0 47), (1, t_2), (0, t_1), (2, t)] ε μ)) ∧ (v3 = 0 → (m_ty [(0, (2, v0)), (3, (0, v3)), (4, (0, v4))] [(1, t_2), (0, t_1), (2, t)] ε μ → (kd ε v0 = 11) ∧ G cd_X12_judge Q X 127 [(0, (2, v0)), (3, (0, v3)), (4, (0, v4))] [(1, μ v0 45), (1, t_2), (0, t_1), (2, t)] ε μ))
  intro hty
  replace h := h hty.1 (hty.2.1 _ (List.mem_of_getElem? (i := 1) rfl)) (hty.2.1 _ (List.mem_of_getElem? (i := 2) rfl)) (hty.2.2 _ (List.mem_of_getElem? (i := 1) rfl)) (hty.2.2 _ (List.mem_of_getElem? (i := 0) rfl))
  obtain ⟨hc, hj⟩ := h
  obtain ⟨k5, k6⟩ := hc
  refine And.intro (fun c0 => ?_) (fun c0 => ?_)
  · replace k5 := k5 c0
    intro _
    have k2 := k5
    refine And.intro k2 ?_
    exact g_X12_judge_127 (fun _ _ _ _ _ _ => (hj _ (((if_neg (c0)).trans rfl)).symm))
  · replace k6 := k6 c0
    intro _
    have k3 := k6
    refine And.intro k3 ?_
    exact g_X12_judge_127 (fun _ _ _ _ _ _ => (hj _ (((if_pos c0).trans rfl)).symm))
set_option maxRecDepth 20000 in
theorem g_X12_judge_84 {Q X : m_Po} {v0 v3 : Int} {ε : m_E} {μ : m_M} (h : TY ε μ → i32 v3 → ((2 : Int) ≤ v3 → Q 1 ε μ) ∧ (v3 < (2 : Int) → ∀ v4 : Int, v4 = w32 (3 * v3) → ((v3 ≠ 0 → kd ε v0 = 11) ∧ (v3 = 0 → kd ε v0 = 11)) ∧ ∀ t : Int, t = (if v3 = 0 then μ v0 44 else μ v0 46) → ((v3 ≠ 0 → kd ε v0 = 11) ∧ (v3 = 0 → kd ε v0 = 11)) ∧ ∀ t_1 : Int, t_1 = (if v3 = 0 then μ v0 45 else μ v0 47) → kd ε v0 = 11 ∧ o_X12_worth [(2, v0), (0, v4), (1, t), (1, t_1)] ε μ (fun z ε_1 μ_1 => G cd_X12_judge Q X 130 [(0, (2, v0)), (3, (0, v3)), (4, (0, v4))] [] ε_1 μ_1) m_F)) : G cd_X12_judge Q X 84 [(0, (2, v0)), (3, (0, v3))] [] ε μ := by
  refine G_run (m_in [7, 32, 37, 47, 80, 84, 112, 127, 130, 136, 142, 147]) 26 _ _ _ _ ?_
  show m_ty [(0, (2, v0)), (3, (0, v3))] [] ε μ → ((2 : Int) ≤ v3 → (m_ty [] [] ε μ → Q 1 ε μ)) ∧ (v3 < (2 : Int) → (m_ty [(0, (2, v0)), (3, (0, v3))] [] ε μ → ∀ v4 : Int, v4 = w32 (3 * v3) → (v3 ≠ 0 → (m_ty [(0, (2, v0)), (3, (0, v3)), (4, (0, v4))] [(0, v4), (2, v0)] ε μ → (kd ε v0 = 11) ∧ G cd_X12_judge Q X 112 [(0, (2, v0)), (3, (0, v3)), (4, (0, v4))] [(1, μ v0 46), (0, v4), (2, v0)] ε μ)) ∧ (v3 = 0 → (m_ty [(0, (2, v0)), (3, (0, v3)), (4, (0, v4))] [(0, v4), (2, v0)] ε μ → (kd ε v0 = 11) ∧ G cd_X12_judge Q X 112 [(0, (2, v0)), (3, (0, v3)), (4, (0, v4))] [(1, μ v0 44), (0, v4), (2, v0)] ε μ))))
  intro hty
  replace h := h hty.1 (hty.2.1 _ (List.mem_of_getElem? (i := 1) rfl))
  obtain ⟨ha, hb⟩ := h
  refine And.intro (fun c11 => ?_) (fun c11 => ?_)
  · replace h := ha c11
    clear ha hb
    intro _
    exact h
  · replace h := hb c11
    clear ha hb
    intro _
    intro v4 e_v4
    replace h := h v4 e_v4
    obtain ⟨hc, hj⟩ := h
    obtain ⟨k10, k11⟩ := hc
    refine And.intro (fun c0 => ?_) (fun c0 => ?_)
    · replace k10 := k10 c0
      intro _
      have k2 := k10
      refine And.intro k2 ?_
      exact g_X12_judge_112 (fun _ _ _ _ _ => (hj _ (((if_neg (c0)).trans rfl)).symm))
    · replace k11 := k11 c0
      intro _
      have k3 := k11
      refine And.intro k3 ?_
      exact g_X12_judge_112 (fun _ _ _ _ _ => (hj _ (((if_pos c0).trans rfl)).symm))
set_option maxRecDepth 20000 in
theorem g_X12_judge_80 {Q X : m_Po} {ε : m_E} {μ : m_M} (h : TY ε μ → Q 0 ε μ) : G cd_X12_judge Q X 80 [] [] ε μ := by
  refine G_run (m_in [7, 32, 37, 47, 80, 84, 112, 127, 130, 136, 142, 147]) 26 _ _ _ _ ?_
  show m_ty [] [] ε μ → Q 0 ε μ
  intro hty
  replace h := h hty.1 
  exact h
set_option maxRecDepth 20000 in
theorem g_X12_judge_47 {Q X : m_Po} {v0 t t_1 : Int} {ε : m_E} {μ : m_M} (h : TY ε μ → i32 t_1 → kd ε t = 11 ∧ (t_1 = 0 ∨ t_1 = 1) ∧ ∀ μ_1 : m_M, μ_1 = st μ t 54 t_1 → kd ε v0 = 11 ∧ kd ε (fn ε v0 56) = 100 ∧ 0 < ln ε (fn ε v0 56) ∧ ∀ μ_2 : m_M, μ_2 = st μ_1 (fn ε v0 56) 0 0 → 1 < ln ε (fn ε v0 56) ∧ ∀ μ_3 : m_M, μ_3 = st μ_2 (fn ε v0 56) 1 0 → ∀ μ_4 : m_M, μ_4 = st μ_3 v0 59 0 → ((μ_4 v0 54) ≠ 0 → ∀ v3 : Int, v3 = 0 → G cd_X12_judge Q X 84 [(0, (2, v0)), (3, (0, v3))] [] ε μ_4) ∧ ((μ_4 v0 54) = 0 → o_X12_nevers [(2, v0)] ε μ_4 (fun z ε_1 μ_5 => G cd_X12_judge Q X 80 [] [] ε_1 μ_5) m_F)) : G cd_X12_judge Q X 47 [(0, (2, v0))] [(0, t_1), (2, t)] ε μ := by
  refine G_run (m_in [7, 32, 37, 47, 80, 84, 112, 127, 130, 136, 142, 147]) 26 _ _ _ _ ?_
  show m_ty [(0, (2, v0))] [(0, t_1), (2, t)] ε μ → (kd ε t = 11) ∧ (t_1 = 0 ∨ t_1 = 1) ∧ ∀ μ_1 : m_M, μ_1 = st μ t 54 t_1 → (kd ε v0 = 11) ∧ (kd ε (fn ε v0 56) = 100) ∧ ((0 : Int) ≤ 0 ∧ 0 < ln ε (fn ε v0 56)) ∧ ∀ μ_2 : m_M, μ_2 = st μ_1 (fn ε v0 56) 0 0 → (kd ε v0 = 11) ∧ (kd ε (fn ε v0 56) = 100) ∧ ((0 : Int) ≤ 1 ∧ 1 < ln ε (fn ε v0 56)) ∧ ∀ μ_3 : m_M, μ_3 = st μ_2 (fn ε v0 56) 1 0 → (kd ε v0 = 11) ∧ ∀ μ_4 : m_M, μ_4 = st μ_3 v0 59 0 → (kd ε v0 = 11) ∧ ((μ_4 v0 54) ≠ 0 → (m_ty [(0, (2, v0))] [] ε μ_4 → ∀ v3 : Int, v3 = 0 → G cd_X12_judge Q X 84 [(0, (2, v0)), (3, (0, v3))] [] ε μ_4)) ∧ ((μ_4 v0 54) = 0 → (m_ty [(0, (2, v0))] [] ε μ_4 → (kd ε v0 = 11) ∧ o_X12_nevers [(2, v0)] ε μ_4 (fun z ε_1 μ_5 => G cd_X12_judge Q X 80 [] [] ε_1 μ_5) m_F))
  intro hty
  replace h := h hty.1 (hty.2.2 _ (List.mem_of_getElem? (i := 0) rfl))
  obtain ⟨k1, h⟩ := h
  refine And.intro k1 ?_
  obtain ⟨k2, h⟩ := h
  refine And.intro k2 ?_
  intro μ_1 e_μ_1
  replace h := h μ_1 e_μ_1
  obtain ⟨k3, h⟩ := h
  refine And.intro k3 ?_
  obtain ⟨k4, h⟩ := h
  refine And.intro k4 ?_
  obtain ⟨k5, h⟩ := h
  refine And.intro (And.intro (by decide) k5) ?_
  intro μ_2 e_μ_2
  replace h := h μ_2 e_μ_2
  refine And.intro k3 ?_
  refine And.intro k4 ?_
  obtain ⟨k6, h⟩ := h
  refine And.intro (And.intro (by decide) k6) ?_
  intro μ_3 e_μ_3
  replace h := h μ_3 e_μ_3
  refine And.intro k3 ?_
  intro μ_4 e_μ_4
  replace h := h μ_4 e_μ_4
  refine And.intro k3 ?_
  obtain ⟨ha, hb⟩ := h
  refine And.intro (fun c6 => ?_) (fun c6 => ?_)
  · replace h := ha c6
    clear ha hb
    intro _
    intro v3 e_v3
    replace h := h v3 e_v3
    exact h
  · replace h := hb c6
    clear ha hb
    intro _
    refine And.intro k3 ?_
    exact h
set_option maxRecDepth 20000 in
theorem g_X12_judge_37 {Q X : m_Po} {v0 : Int} {ε : m_E} {μ : m_M} (h : TY ε μ → kd ε v0 = 11 ∧ ∀ μ_1 : m_M, μ_1 = st μ v0 53 1 → o_X12_isSafe [(2, v0)] ε μ_1 (fun z ε_1 μ_2 => G cd_X12_judge Q X 47 [(0, (2, v0))] [(0, z), (2, v0)] ε_1 μ_2) m_F) : G cd_X12_judge Q X 37 [(0, (2, v0))] [] ε μ := by
  refine G_run (m_in [7, 32, 37, 47, 80, 84, 112, 127, 130, 136, 142, 147]) 26 _ _ _ _ ?_
  show m_ty [(0, (2, v0))] [] ε μ → (kd ε v0 = 11) ∧ (1 = 0 ∨ 1 = 1) ∧ ∀ μ_1 : m_M, μ_1 = st μ v0 53 1 → (kd ε v0 = 11) ∧ o_X12_isSafe [(2, v0)] ε μ_1 (fun z ε_1 μ_2 => G cd_X12_judge Q X 47 [(0, (2, v0))] [(0, z), (2, v0)] ε_1 μ_2) m_F
  intro hty
  replace h := h hty.1 
  obtain ⟨k1, h⟩ := h
  refine And.intro k1 ?_
  refine And.intro (Or.inr rfl) ?_
  intro μ_1 e_μ_1
  replace h := h μ_1 e_μ_1
  refine And.intro k1 ?_
  exact h
set_option maxRecDepth 20000 in
theorem g_X12_judge_32 {Q X : m_Po} {v0 t t_1 t_2 t_3 t_4 : Int} {ε : m_E} {μ : m_M} (h : TY ε μ → i32 t_1 → i32 t_2 → i32 t_3 → i32 t_4 → kd ε t = 11 ∧ o_X12_tells [(2, t), (0, t_1), (0, t_2), (0, t_3), (0, t_4), (0, 1), (0, (-1))] ε μ (fun z ε_1 μ_1 => G cd_X12_judge Q X 37 [(0, (2, v0))] [] ε_1 μ_1) m_F) : G cd_X12_judge Q X 32 [(0, (2, v0))] [(0, t_4), (0, t_3), (0, t_2), (0, t_1), (2, t)] ε μ := by
  refine G_run (m_in [7, 32, 37, 47, 80, 84, 112, 127, 130, 136, 142, 147]) 26 _ _ _ _ ?_
  show m_ty [(0, (2, v0))] [(0, t_4), (0, t_3), (0, t_2), (0, t_1), (2, t)] ε μ → (kd ε t = 11) ∧ o_X12_tells [(2, t), (0, t_1), (0, t_2), (0, t_3), (0, t_4), (0, 1), (0, (-1))] ε μ (fun z ε_1 μ_1 => G cd_X12_judge Q X 37 [(0, (2, v0))] [] ε_1 μ_1) m_F
  intro hty
  replace h := h hty.1 (hty.2.2 _ (List.mem_of_getElem? (i := 3) rfl)) (hty.2.2 _ (List.mem_of_getElem? (i := 2) rfl)) (hty.2.2 _ (List.mem_of_getElem? (i := 1) rfl)) (hty.2.2 _ (List.mem_of_getElem? (i := 0) rfl))
  obtain ⟨k1, h⟩ := h
  refine And.intro k1 ?_
  exact h
set_option maxRecDepth 20000 in
theorem g_X12_judge_7 {Q X : m_Po} {v0 v1 v2 t : Int} {ε : m_E} {μ : m_M} (h : TY ε μ → i32 v1 → i32 v2 → i32 t → (t ≠ 0 → kd ε v0 = 11 ∧ kd ε (fn ε v0 17) = 100 ∧ (0 : Int) ≤ v1 ∧ v1 < ln ε (fn ε v0 17) ∧ ∀ t_1 : Int, t_1 = (if v2 = 0 then 1 else 0) → kd ε v0 = 11 ∧ o_X12_tells [(2, v0), (0, v1), (0, 0), (0, (w32 ((μ (fn ε v0 17) v1) - 1))), (0, t_1), (0, 1), (0, (-1))] ε μ (fun z ε_1 μ_1 => G cd_X12_judge Q X 37 [(0, (2, v0))] [] ε_1 μ_1) m_F) ∧ (t = 0 → Q 0 ε μ)) : G cd_X12_judge Q X 7 [(0, (2, v0)), (1, (0, v1)), (2, (0, v2))] [(0, t)] ε μ := by
  refine G_run (m_in [7, 32, 37, 47, 80, 84, 112, 127, 130, 136, 142, 147]) 26 _ _ _ _ ?_
  show m_ty [(0, (2, v0)), (1, (0, v1)), (2, (0, v2))] [(0, t)] ε μ → (t ≠ 0 → (m_ty [(0, (2, v0)), (1, (0, v1)), (2, (0, v2))] [] ε μ → (kd ε v0 = 11) ∧ (kd ε (fn ε v0 17) = 100) ∧ ((0 : Int) ≤ v1 ∧ v1 < ln ε (fn ε v0 17)) ∧ (v2 ≠ 0 → (m_ty [(0, (2, v0))] [(0, w32 ((μ (fn ε v0 17) v1) - 1)), (0, 0), (0, v1), (2, v0)] ε μ → G cd_X12_judge Q X 32 [(0, (2, v0))] [(0, 0), (0, w32 ((μ (fn ε v0 17) v1) - 1)), (0, 0), (0, v1), (2, v0)] ε μ)) ∧ (v2 = 0 → (m_ty [(0, (2, v0))] [(0, w32 ((μ (fn ε v0 17) v1) - 1)), (0, 0), (0, v1), (2, v0)] ε μ → G cd_X12_judge Q X 32 [(0, (2, v0))] [(0, 1), (0, w32 ((μ (fn ε v0 17) v1) - 1)), (0, 0), (0, v1), (2, v0)] ε μ)))) ∧ (t = 0 → (m_ty [] [] ε μ → Q 0 ε μ))
  intro hty
  replace h := h hty.1 (hty.2.1 _ (List.mem_of_getElem? (i := 1) rfl)) (hty.2.1 _ (List.mem_of_getElem? (i := 2) rfl)) (hty.2.2 _ (List.mem_of_getElem? (i := 0) rfl))
  obtain ⟨ha, hb⟩ := h
  refine And.intro (fun c6 => ?_) (fun c6 => ?_)
  · replace h := ha c6
    clear ha hb
    intro _
    obtain ⟨k1, h⟩ := h
    refine And.intro k1 ?_
    obtain ⟨k2, h⟩ := h
    refine And.intro k2 ?_
    obtain ⟨k3, h⟩ := h
    obtain ⟨k4, h⟩ := h
    refine And.intro (And.intro k3 k4) ?_
    have hj := h
    refine And.intro (fun c4 => ?_) (fun c4 => ?_)
    · intro _
      exact g_X12_judge_32 (fun _ _ _ _ _ => (hj _ (((if_neg (c4)).trans rfl)).symm))
    · intro _
      exact g_X12_judge_32 (fun _ _ _ _ _ => (hj _ (((if_pos c4).trans rfl)).symm))
  · replace h := hb c6
    clear ha hb
    intro _
    exact h
set_option maxRecDepth 20000 in
theorem g_X12_judge_0 {Q X : m_Po} {v0 v1 v2 : Int} {ε : m_E} {μ : m_M} (h : TY ε μ → i32 v1 → i32 v2 → kd ε v0 = 11 ∧ o_X12_isJudged [(2, v0), (0, v1), (0, v2), (0, 0)] ε μ (fun z ε_1 μ_1 => G cd_X12_judge Q X 7 [(0, (2, v0)), (1, (0, v1)), (2, (0, v2))] [(0, z)] ε_1 μ_1) m_F) : G cd_X12_judge Q X 0 [(0, (2, v0)), (1, (0, v1)), (2, (0, v2))] [] ε μ := by
  refine G_run (m_in [7, 32, 37, 47, 80, 84, 112, 127, 130, 136, 142, 147]) 26 _ _ _ _ ?_
  show m_ty [(0, (2, v0)), (1, (0, v1)), (2, (0, v2))] [] ε μ → (kd ε v0 = 11) ∧ o_X12_isJudged [(2, v0), (0, v1), (0, v2), (0, 0)] ε μ (fun z ε_1 μ_1 => G cd_X12_judge Q X 7 [(0, (2, v0)), (1, (0, v1)), (2, (0, v2))] [(0, z)] ε_1 μ_1) m_F
  intro hty
  replace h := h hty.1 (hty.2.1 _ (List.mem_of_getElem? (i := 1) rfl)) (hty.2.1 _ (List.mem_of_getElem? (i := 2) rfl))
  obtain ⟨k1, h⟩ := h
  refine And.intro k1 ?_
  exact h
theorem e_X12_judge {Q X : m_Po} {v0 v1 v2 : Int} {ε : m_E} {μ : m_M} (h : TY ε μ → i32 v1 → i32 v2 → kd ε v0 = 11 ∧ o_X12_isJudged [(2, v0), (0, v1), (0, v2), (0, 0)] ε μ (fun z ε_1 μ_1 => G cd_X12_judge Q X 7 [(0, (2, v0)), (1, (0, v1)), (2, (0, v2))] [(0, z)] ε_1 μ_1) m_F) : o_X12_judge [(2, v0), (0, v1), (0, v2)] ε μ Q X := And.intro rfl (g_X12_judge_0 h)
/-! ArchYardModel.puts(I)V -/
set_option maxRecDepth 20000 in
theorem g_X12_puts_0 {Q X : m_Po} {v0 v1 : Int} {ε : m_E} {μ : m_M} (h : TY ε μ → i32 v1 → kd ε v0 = 11 ∧ kd ε (fn ε v0 62) = 102 ∧ (0 : Int) ≤ μ v0 63 ∧ μ v0 63 < ln ε (fn ε v0 62) ∧ ∀ μ_1 : m_M, μ_1 = st μ (fn ε v0 62) (μ v0 63) (w8 (w8 v1)) → ∀ μ_2 : m_M, μ_2 = st μ_1 v0 63 (w32 ((μ_1 v0 63) + 1)) → Q 0 ε μ_2) : G cd_X12_puts Q X 0 [(0, (2, v0)), (1, (0, v1))] [] ε μ := by
  refine G_run (m_in []) 2 _ _ _ _ ?_
  show m_ty [(0, (2, v0)), (1, (0, v1))] [] ε μ → (kd ε v0 = 11) ∧ (kd ε v0 = 11) ∧ (kd ε (fn ε v0 62) = 102) ∧ ((0 : Int) ≤ μ v0 63 ∧ μ v0 63 < ln ε (fn ε v0 62)) ∧ ∀ μ_1 : m_M, μ_1 = st μ (fn ε v0 62) (μ v0 63) (w8 (w8 v1)) → (kd ε v0 = 11) ∧ (kd ε v0 = 11) ∧ ∀ μ_2 : m_M, μ_2 = st μ_1 v0 63 (w32 ((μ_1 v0 63) + 1)) → Q 0 ε μ_2
  intro hty
  replace h := h hty.1 (hty.2.1 _ (List.mem_of_getElem? (i := 1) rfl))
  obtain ⟨k1, h⟩ := h
  refine And.intro k1 ?_
  refine And.intro k1 ?_
  obtain ⟨k2, h⟩ := h
  refine And.intro k2 ?_
  obtain ⟨k3, h⟩ := h
  obtain ⟨k4, h⟩ := h
  refine And.intro (And.intro k3 k4) ?_
  intro μ_1 e_μ_1
  replace h := h μ_1 e_μ_1
  refine And.intro k1 ?_
  refine And.intro k1 ?_
  intro μ_2 e_μ_2
  replace h := h μ_2 e_μ_2
  exact h
theorem e_X12_puts {Q X : m_Po} {v0 v1 : Int} {ε : m_E} {μ : m_M} (h : TY ε μ → i32 v1 → kd ε v0 = 11 ∧ kd ε (fn ε v0 62) = 102 ∧ (0 : Int) ≤ μ v0 63 ∧ μ v0 63 < ln ε (fn ε v0 62) ∧ ∀ μ_1 : m_M, μ_1 = st μ (fn ε v0 62) (μ v0 63) (w8 (w8 v1)) → ∀ μ_2 : m_M, μ_2 = st μ_1 v0 63 (w32 ((μ_1 v0 63) + 1)) → Q 0 ε μ_2) : o_X12_puts [(2, v0), (0, v1)] ε μ Q X := And.intro rfl (g_X12_puts_0 h)
/-! ArchYardModel.decimals(LArchYardModel$Big;)V -/
set_option maxRecDepth 20000 in
theorem g_X12_decimals_114 {Q X : m_Po} {v0 v3 v4 : Int} {ε : m_E} {μ : m_M} (h : TY ε μ → i32 v3 → i32 v4 → ∀ v4_1 : Int, v4_1 = w32 (v4 + (-1)) → G cd_X12_decimals Q X 75 [(0, (2, v0)), (3, (0, v3)), (4, (0, v4_1))] [] ε μ) : G cd_X12_decimals Q X 114 [(0, (2, v0)), (3, (0, v3)), (4, (0, v4))] [] ε μ := by
  refine G_run (m_in [11, 20, 35, 49, 53, 62, 75, 114]) 15 _ _ _ _ ?_
  show m_ty [(0, (2, v0)), (3, (0, v3)), (4, (0, v4))] [] ε μ → ∀ v4_1 : Int, v4_1 = w32 (v4 + (-1)) → G cd_X12_decimals Q X 75 [(0, (2, v0)), (3, (0, v3)), (4, (0, v4_1))] [] ε μ
  intro hty
  replace h := h hty.1 (hty.2.1 _ (List.mem_of_getElem? (i := 1) rfl)) (hty.2.1 _ (List.mem_of_getElem? (i := 2) rfl))
  intro v4_1 e_v4_1
  replace h := h v4_1 e_v4_1
  exact h
set_option maxRecDepth 20000 in
theorem g_X12_decimals_75 {Q X : m_Po} {v0 v3 v4 : Int} {ε : m_E} {μ : m_M} (h : TY ε μ → i32 v3 → i32 v4 → (v4 ≤ v3 → Q 0 ε μ) ∧ (v3 < v4 → kd ε v0 = 11 ∧ kd ε (fn ε v0 62) = 102 ∧ (0 : Int) ≤ v3 ∧ v3 < ln ε (fn ε v0 62) ∧ ∀ v5 : Int, v5 = μ (fn ε v0 62) v3 → (0 : Int) ≤ v4 ∧ v4 < ln ε (fn ε v0 62) ∧ ∀ μ_1 : m_M, μ_1 = st μ (fn ε v0 62) v3 (w8 (μ (fn ε v0 62) v4)) → ∀ μ_2 : m_M, μ_2 = st μ_1 (fn ε v0 62) v4 (w8 v5) → ∀ v3_1 : Int, v3_1 = w32 (v3 + 1) → ∀ v4_1 : Int, v4_1 = w32 (v4 + (-1)) → G cd_X12_decimals Q X 75 [(0, (2, v0)), (3, (0, v3_1)), (4, (0, v4_1))] [] ε μ_2)) : G cd_X12_decimals Q X 75 [(0, (2, v0)), (3, (0, v3)), (4, (0, v4))] [] ε μ := by
  refine G_run (m_in [11, 20, 35, 49, 53, 62, 75, 114]) 15 _ _ _ _ ?_
  show m_ty [(0, (2, v0)), (3, (0, v3)), (4, (0, v4))] [] ε μ → (v4 ≤ v3 → (m_ty [] [] ε μ → Q 0 ε μ)) ∧ (v3 < v4 → (m_ty [(0, (2, v0)), (3, (0, v3)), (4, (0, v4))] [] ε μ → (kd ε v0 = 11) ∧ (kd ε (fn ε v0 62) = 102) ∧ ((0 : Int) ≤ v3 ∧ v3 < ln ε (fn ε v0 62)) ∧ ∀ v5 : Int, v5 = μ (fn ε v0 62) v3 → (kd ε v0 = 11) ∧ (kd ε v0 = 11) ∧ (kd ε (fn ε v0 62) = 102) ∧ ((0 : Int) ≤ v4 ∧ v4 < ln ε (fn ε v0 62)) ∧ (kd ε (fn ε v0 62) = 102) ∧ ((0 : Int) ≤ v3 ∧ v3 < ln ε (fn ε v0 62)) ∧ ∀ μ_1 : m_M, μ_1 = st μ (fn ε v0 62) v3 (w8 (μ (fn ε v0 62) v4)) → (kd ε v0 = 11) ∧ (kd ε (fn ε v0 62) = 102) ∧ ((0 : Int) ≤ v4 ∧ v4 < ln ε (fn ε v0 62)) ∧ ∀ μ_2 : m_M, μ_2 = st μ_1 (fn ε v0 62) v4 (w8 v5) → ∀ v3_1 : Int, v3_1 = w32 (v3 + 1) → G cd_X12_decimals Q X 114 [(0, (2, v0)), (3, (0, v3_1)), (4, (0, v4))] [] ε μ_2))
  intro hty
  replace h := h hty.1 (hty.2.1 _ (List.mem_of_getElem? (i := 1) rfl)) (hty.2.1 _ (List.mem_of_getElem? (i := 2) rfl))
  obtain ⟨ha, hb⟩ := h
  refine And.intro (fun c6 => ?_) (fun c6 => ?_)
  · replace h := ha c6
    clear ha hb
    intro _
    exact h
  · replace h := hb c6
    clear ha hb
    intro _
    obtain ⟨k1, h⟩ := h
    refine And.intro k1 ?_
    obtain ⟨k2, h⟩ := h
    refine And.intro k2 ?_
    obtain ⟨k3, h⟩ := h
    obtain ⟨k4, h⟩ := h
    refine And.intro (And.intro k3 k4) ?_
    intro v5 e_v5
    replace h := h v5 e_v5
    refine And.intro k1 ?_
    refine And.intro k1 ?_
    refine And.intro k2 ?_
    obtain ⟨k5, h⟩ := h
    obtain ⟨k6, h⟩ := h
    refine And.intro (And.intro k5 k6) ?_
    refine And.intro k2 ?_
    refine And.intro (And.intro k3 k4) ?_
    intro μ_1 e_μ_1
    replace h := h μ_1 e_μ_1
    refine And.intro k1 ?_
    refine And.intro k2 ?_
    refine And.intro (And.intro k5 k6) ?_
    intro μ_2 e_μ_2
    replace h := h μ_2 e_μ_2
    intro v3_1 e_v3_1
    replace h := h v3_1 e_v3_1
    exact g_X12_decimals_114 (fun _ _ _ => h)
set_option maxRecDepth 20000 in
theorem g_X12_decimals_62 {Q X : m_Po} {v0 v2 t : Int} {ε : m_E} {μ : m_M} (h : TY ε μ → i32 v2 → i32 t → (t = 0 → G cd_X12_decimals Q X 35 [(0, (2, v0)), (2, (0, v2))] [] ε μ) ∧ (t ≠ 0 → ∀ v3 : Int, v3 = v2 → kd ε v0 = 11 ∧ ∀ v4 : Int, v4 = w32 ((μ v0 63) - 1) → G cd_X12_decimals Q X 75 [(0, (2, v0)), (3, (0, v3)), (4, (0, v4))] [] ε μ)) : G cd_X12_decimals Q X 62 [(0, (2, v0)), (2, (0, v2))] [(0, t)] ε μ := by
  refine G_run (m_in [11, 20, 35, 49, 53, 62, 75, 114]) 15 _ _ _ _ ?_
  show m_ty [(0, (2, v0)), (2, (0, v2))] [(0, t)] ε μ → (t = 0 → G cd_X12_decimals Q X 35 [(0, (2, v0)), (2, (0, v2))] [] ε μ) ∧ (t ≠ 0 → (m_ty [(0, (2, v0)), (2, (0, v2))] [] ε μ → ∀ v3 : Int, v3 = v2 → (kd ε v0 = 11) ∧ ∀ v4 : Int, v4 = w32 ((μ v0 63) - 1) → G cd_X12_decimals Q X 75 [(0, (2, v0)), (3, (0, v3)), (4, (0, v4))] [] ε μ))
  intro hty
  replace h := h hty.1 (hty.2.1 _ (List.mem_of_getElem? (i := 1) rfl)) (hty.2.2 _ (List.mem_of_getElem? (i := 0) rfl))
  obtain ⟨ha, hb⟩ := h
  refine And.intro (fun c1 => ?_) (fun c1 => ?_)
  · replace h := ha c1
    clear ha hb
    exact h
  · replace h := hb c1
    clear ha hb
    intro _
    intro v3 e_v3
    replace h := h v3 e_v3
    obtain ⟨k1, h⟩ := h
    refine And.intro k1 ?_
    intro v4 e_v4
    replace h := h v4 e_v4
    exact h
set_option maxRecDepth 20000 in
theorem g_X12_decimals_53 {Q X : m_Po} {v0 v2 : Int} {ε : m_E} {μ : m_M} (h : TY ε μ → i32 v2 → kd ε v0 = 11 ∧ kd ε (fn ε v0 36) = 107 ∧ 2 < ln ε (fn ε v0 36) ∧ kd ε (μ (fn ε v0 36) 2) = 10 ∧ o_X11_isNothing [(2, μ (fn ε v0 36) 2)] ε μ (fun z ε_1 μ_1 => G cd_X12_decimals Q X 62 [(0, (2, v0)), (2, (0, v2))] [(0, z)] ε_1 μ_1) m_F) : G cd_X12_decimals Q X 53 [(0, (2, v0)), (2, (0, v2))] [] ε μ := by
  refine G_run (m_in [11, 20, 35, 49, 53, 62, 75, 114]) 15 _ _ _ _ ?_
  show m_ty [(0, (2, v0)), (2, (0, v2))] [] ε μ → (kd ε v0 = 11) ∧ (kd ε (fn ε v0 36) = 107) ∧ ((0 : Int) ≤ 2 ∧ 2 < ln ε (fn ε v0 36)) ∧ (kd ε (μ (fn ε v0 36) 2) = 10) ∧ o_X11_isNothing [(2, μ (fn ε v0 36) 2)] ε μ (fun z ε_1 μ_1 => G cd_X12_decimals Q X 62 [(0, (2, v0)), (2, (0, v2))] [(0, z)] ε_1 μ_1) m_F
  intro hty
  replace h := h hty.1 (hty.2.1 _ (List.mem_of_getElem? (i := 1) rfl))
  obtain ⟨k1, h⟩ := h
  refine And.intro k1 ?_
  obtain ⟨k2, h⟩ := h
  refine And.intro k2 ?_
  obtain ⟨k3, h⟩ := h
  refine And.intro (And.intro (by decide) k3) ?_
  obtain ⟨k4, h⟩ := h
  refine And.intro k4 ?_
  exact h
set_option maxRecDepth 20000 in
theorem g_X12_decimals_49 {Q X : m_Po} {v0 v2 t t_1 t_2 : Int} {ε : m_E} {μ : m_M} (h : TY ε μ → i32 v2 → i32 t_1 → i32 t_2 → kd ε t = 11 ∧ o_X12_puts [(2, t), (0, w32 (t_1 + t_2))] ε μ (fun z ε_1 μ_1 => G cd_X12_decimals Q X 53 [(0, (2, v0)), (2, (0, v2))] [] ε_1 μ_1) m_F) : G cd_X12_decimals Q X 49 [(0, (2, v0)), (2, (0, v2))] [(0, t_2), (0, t_1), (2, t)] ε μ := by
  refine G_run (m_in [11, 20, 35, 49, 53, 62, 75, 114]) 15 _ _ _ _ ?_
  show m_ty [(0, (2, v0)), (2, (0, v2))] [(0, t_2), (0, t_1), (2, t)] ε μ → (kd ε t = 11) ∧ o_X12_puts [(2, t), (0, w32 (t_1 + t_2))] ε μ (fun z ε_1 μ_1 => G cd_X12_decimals Q X 53 [(0, (2, v0)), (2, (0, v2))] [] ε_1 μ_1) m_F
  intro hty
  replace h := h hty.1 (hty.2.1 _ (List.mem_of_getElem? (i := 1) rfl)) (hty.2.2 _ (List.mem_of_getElem? (i := 1) rfl)) (hty.2.2 _ (List.mem_of_getElem? (i := 0) rfl))
  obtain ⟨k1, h⟩ := h
  refine And.intro k1 ?_
  exact h
set_option maxRecDepth 20000 in
theorem g_X12_decimals_35 {Q X : m_Po} {v0 v2 : Int} {ε : m_E} {μ : m_M} (h : TY ε μ → i32 v2 → kd ε v0 = 11 ∧ kd ε (fn ε v0 36) = 107 ∧ 2 < ln ε (fn ε v0 36) ∧ kd ε (μ (fn ε v0 36) 2) = 10 ∧ o_X11_parts [(2, μ (fn ε v0 36) 2), (0, 10)] ε μ (fun z ε_1 μ_1 => G cd_X12_decimals Q X 49 [(0, (2, v0)), (2, (0, v2))] [(0, z), (0, 48), (2, v0)] ε_1 μ_1) m_F) : G cd_X12_decimals Q X 35 [(0, (2, v0)), (2, (0, v2))] [] ε μ := by
  refine G_run (m_in [11, 20, 35, 49, 53, 62, 75, 114]) 15 _ _ _ _ ?_
  show m_ty [(0, (2, v0)), (2, (0, v2))] [] ε μ → (kd ε v0 = 11) ∧ (kd ε (fn ε v0 36) = 107) ∧ ((0 : Int) ≤ 2 ∧ 2 < ln ε (fn ε v0 36)) ∧ (kd ε (μ (fn ε v0 36) 2) = 10) ∧ o_X11_parts [(2, μ (fn ε v0 36) 2), (0, 10)] ε μ (fun z ε_1 μ_1 => G cd_X12_decimals Q X 49 [(0, (2, v0)), (2, (0, v2))] [(0, z), (0, 48), (2, v0)] ε_1 μ_1) m_F
  intro hty
  replace h := h hty.1 (hty.2.1 _ (List.mem_of_getElem? (i := 1) rfl))
  obtain ⟨k1, h⟩ := h
  refine And.intro k1 ?_
  obtain ⟨k2, h⟩ := h
  refine And.intro k2 ?_
  obtain ⟨k3, h⟩ := h
  refine And.intro (And.intro (by decide) k3) ?_
  obtain ⟨k4, h⟩ := h
  refine And.intro k4 ?_
  exact h
set_option maxRecDepth 20000 in
theorem g_X12_decimals_20 {Q X : m_Po} {v0 v1 : Int} {ε : m_E} {μ : m_M} (h : TY ε μ → kd ε v0 = 11 ∧ ∀ v2 : Int, v2 = μ v0 63 → kd ε (fn ε v0 36) = 107 ∧ 2 < ln ε (fn ε v0 36) ∧ kd ε (μ (fn ε v0 36) 2) = 10 ∧ o_X11_take [(2, μ (fn ε v0 36) 2), (2, v1)] ε μ (fun z ε_1 μ_1 => G cd_X12_decimals Q X 35 [(0, (2, v0)), (2, (0, v2))] [] ε_1 μ_1) m_F) : G cd_X12_decimals Q X 20 [(0, (2, v0)), (1, (2, v1))] [] ε μ := by
  refine G_run (m_in [11, 20, 35, 49, 53, 62, 75, 114]) 15 _ _ _ _ ?_
  show m_ty [(0, (2, v0)), (1, (2, v1))] [] ε μ → (kd ε v0 = 11) ∧ ∀ v2 : Int, v2 = μ v0 63 → (kd ε v0 = 11) ∧ (kd ε (fn ε v0 36) = 107) ∧ ((0 : Int) ≤ 2 ∧ 2 < ln ε (fn ε v0 36)) ∧ (kd ε (μ (fn ε v0 36) 2) = 10) ∧ o_X11_take [(2, μ (fn ε v0 36) 2), (2, v1)] ε μ (fun z ε_1 μ_1 => G cd_X12_decimals Q X 35 [(0, (2, v0)), (2, (0, v2))] [] ε_1 μ_1) m_F
  intro hty
  replace h := h hty.1 
  obtain ⟨k1, h⟩ := h
  refine And.intro k1 ?_
  intro v2 e_v2
  replace h := h v2 e_v2
  refine And.intro k1 ?_
  obtain ⟨k2, h⟩ := h
  refine And.intro k2 ?_
  obtain ⟨k3, h⟩ := h
  refine And.intro (And.intro (by decide) k3) ?_
  obtain ⟨k4, h⟩ := h
  refine And.intro k4 ?_
  exact h
set_option maxRecDepth 20000 in
theorem g_X12_decimals_11 {Q X : m_Po} {v0 v1 t : Int} {ε : m_E} {μ : m_M} (h : TY ε μ → i32 t → (t ≠ 0 → G cd_X12_decimals Q X 20 [(0, (2, v0)), (1, (2, v1))] [] ε μ) ∧ (t = 0 → kd ε v0 = 11 ∧ o_X12_puts [(2, v0), (0, 45)] ε μ (fun z ε_1 μ_1 => G cd_X12_decimals Q X 20 [(0, (2, v0)), (1, (2, v1))] [] ε_1 μ_1) m_F)) : G cd_X12_decimals Q X 11 [(0, (2, v0)), (1, (2, v1))] [(0, t)] ε μ := by
  refine G_run (m_in [11, 20, 35, 49, 53, 62, 75, 114]) 15 _ _ _ _ ?_
  show m_ty [(0, (2, v0)), (1, (2, v1))] [(0, t)] ε μ → (t ≠ 0 → G cd_X12_decimals Q X 20 [(0, (2, v0)), (1, (2, v1))] [] ε μ) ∧ (t = 0 → (m_ty [(0, (2, v0)), (1, (2, v1))] [] ε μ → (kd ε v0 = 11) ∧ o_X12_puts [(2, v0), (0, 45)] ε μ (fun z ε_1 μ_1 => G cd_X12_decimals Q X 20 [(0, (2, v0)), (1, (2, v1))] [] ε_1 μ_1) m_F))
  intro hty
  replace h := h hty.1 (hty.2.2 _ (List.mem_of_getElem? (i := 0) rfl))
  obtain ⟨ha, hb⟩ := h
  refine And.intro (fun c1 => ?_) (fun c1 => ?_)
  · replace h := ha c1
    clear ha hb
    exact h
  · replace h := hb c1
    clear ha hb
    intro _
    obtain ⟨k1, h⟩ := h
    refine And.intro k1 ?_
    exact h
set_option maxRecDepth 20000 in
theorem g_X12_decimals_0 {Q X : m_Po} {v0 v1 : Int} {ε : m_E} {μ : m_M} (h : TY ε μ → kd ε v1 = 10 ∧ ((μ v1 1) = 0 → G cd_X12_decimals Q X 20 [(0, (2, v0)), (1, (2, v1))] [] ε μ) ∧ ((μ v1 1) ≠ 0 → o_X11_isNothing [(2, v1)] ε μ (fun z ε_1 μ_1 => G cd_X12_decimals Q X 11 [(0, (2, v0)), (1, (2, v1))] [(0, z)] ε_1 μ_1) m_F)) : G cd_X12_decimals Q X 0 [(0, (2, v0)), (1, (2, v1))] [] ε μ := by
  refine G_run (m_in [11, 20, 35, 49, 53, 62, 75, 114]) 15 _ _ _ _ ?_
  show m_ty [(0, (2, v0)), (1, (2, v1))] [] ε μ → (kd ε v1 = 10) ∧ ((μ v1 1) = 0 → G cd_X12_decimals Q X 20 [(0, (2, v0)), (1, (2, v1))] [] ε μ) ∧ ((μ v1 1) ≠ 0 → (m_ty [(0, (2, v0)), (1, (2, v1))] [] ε μ → (kd ε v1 = 10) ∧ o_X11_isNothing [(2, v1)] ε μ (fun z ε_1 μ_1 => G cd_X12_decimals Q X 11 [(0, (2, v0)), (1, (2, v1))] [(0, z)] ε_1 μ_1) m_F))
  intro hty
  replace h := h hty.1 
  obtain ⟨k1, h⟩ := h
  refine And.intro k1 ?_
  obtain ⟨ha, hb⟩ := h
  refine And.intro (fun c1 => ?_) (fun c1 => ?_)
  · replace h := ha c1
    clear ha hb
    exact h
  · replace h := hb c1
    clear ha hb
    intro _
    refine And.intro k1 ?_
    exact h
theorem e_X12_decimals {Q X : m_Po} {v0 v1 : Int} {ε : m_E} {μ : m_M} (h : TY ε μ → kd ε v1 = 10 ∧ ((μ v1 1) = 0 → G cd_X12_decimals Q X 20 [(0, (2, v0)), (1, (2, v1))] [] ε μ) ∧ ((μ v1 1) ≠ 0 → o_X11_isNothing [(2, v1)] ε μ (fun z ε_1 μ_1 => G cd_X12_decimals Q X 11 [(0, (2, v0)), (1, (2, v1))] [(0, z)] ε_1 μ_1) m_F)) : o_X12_decimals [(2, v0), (2, v1)] ε μ Q X := And.intro rfl (g_X12_decimals_0 h)
/-! ArchYardModel.number(I)I -/
set_option maxRecDepth 20000 in
theorem g_X12_number_120 {Q X : m_Po} {v0 : Int} {ε : m_E} {μ : m_M} (h : TY ε μ → kd ε v0 = 11 ∧ Q (μ v0 63) ε μ) : G cd_X12_number Q X 120 [(0, (2, v0))] [] ε μ := by
  refine G_run (m_in [33, 66, 76, 86, 101, 110, 120]) 18 _ _ _ _ ?_
  show m_ty [(0, (2, v0))] [] ε μ → (kd ε v0 = 11) ∧ Q (μ v0 63) ε μ
  intro hty
  replace h := h hty.1 
  obtain ⟨k1, h⟩ := h
  refine And.intro k1 ?_
  exact h
set_option maxRecDepth 20000 in
theorem g_X12_number_110 {Q X : m_Po} {v0 v1 : Int} {ε : m_E} {μ : m_M} (h : TY ε μ → i32 v1 → kd ε v0 = 11 ∧ kd ε (fn ε v0 51) = 107 ∧ (0 : Int) ≤ v1 ∧ v1 < ln ε (fn ε v0 51) ∧ o_X12_decimals [(2, v0), (2, μ (fn ε v0 51) v1)] ε μ (fun z ε_1 μ_1 => G cd_X12_number Q X 120 [(0, (2, v0))] [] ε_1 μ_1) m_F) : G cd_X12_number Q X 110 [(0, (2, v0)), (1, (0, v1))] [] ε μ := by
  refine G_run (m_in [33, 66, 76, 86, 101, 110, 120]) 18 _ _ _ _ ?_
  show m_ty [(0, (2, v0)), (1, (0, v1))] [] ε μ → (kd ε v0 = 11) ∧ (kd ε (fn ε v0 51) = 107) ∧ ((0 : Int) ≤ v1 ∧ v1 < ln ε (fn ε v0 51)) ∧ (kd ε v0 = 11) ∧ o_X12_decimals [(2, v0), (2, μ (fn ε v0 51) v1)] ε μ (fun z ε_1 μ_1 => G cd_X12_number Q X 120 [(0, (2, v0))] [] ε_1 μ_1) m_F
  intro hty
  replace h := h hty.1 (hty.2.1 _ (List.mem_of_getElem? (i := 1) rfl))
  obtain ⟨k1, h⟩ := h
  refine And.intro k1 ?_
  obtain ⟨k2, h⟩ := h
  refine And.intro k2 ?_
  obtain ⟨k3, h⟩ := h
  obtain ⟨k4, h⟩ := h
  refine And.intro (And.intro k3 k4) ?_
  refine And.intro k1 ?_
  exact h
set_option maxRecDepth 20000 in
theorem g_X12_number_101 {Q X : m_Po} {v0 v1 t : Int} {ε : m_E} {μ : m_M} (h : TY ε μ → i32 v1 → i32 t → (t = 0 → G cd_X12_number Q X 120 [(0, (2, v0))] [] ε μ) ∧ (t ≠ 0 → kd ε v0 = 11 ∧ o_X12_puts [(2, v0), (0, 47)] ε μ (fun z ε_1 μ_1 => G cd_X12_number Q X 110 [(0, (2, v0)), (1, (0, v1))] [] ε_1 μ_1) m_F)) : G cd_X12_number Q X 101 [(0, (2, v0)), (1, (0, v1))] [(0, t)] ε μ := by
  refine G_run (m_in [33, 66, 76, 86, 101, 110, 120]) 18 _ _ _ _ ?_
  show m_ty [(0, (2, v0)), (1, (0, v1))] [(0, t)] ε μ → (t = 0 → G cd_X12_number Q X 120 [(0, (2, v0))] [] ε μ) ∧ (t ≠ 0 → (m_ty [(0, (2, v0)), (1, (0, v1))] [] ε μ → (kd ε v0 = 11) ∧ o_X12_puts [(2, v0), (0, 47)] ε μ (fun z ε_1 μ_1 => G cd_X12_number Q X 110 [(0, (2, v0)), (1, (0, v1))] [] ε_1 μ_1) m_F))
  intro hty
  replace h := h hty.1 (hty.2.1 _ (List.mem_of_getElem? (i := 1) rfl)) (hty.2.2 _ (List.mem_of_getElem? (i := 0) rfl))
  obtain ⟨ha, hb⟩ := h
  refine And.intro (fun c1 => ?_) (fun c1 => ?_)
  · replace h := ha c1
    clear ha hb
    exact h
  · replace h := hb c1
    clear ha hb
    intro _
    obtain ⟨k1, h⟩ := h
    refine And.intro k1 ?_
    exact h
set_option maxRecDepth 20000 in
theorem g_X12_number_86 {Q X : m_Po} {v0 v1 : Int} {ε : m_E} {μ : m_M} (h : TY ε μ → i32 v1 → kd ε v0 = 11 ∧ kd ε (fn ε v0 51) = 107 ∧ (0 : Int) ≤ v1 ∧ v1 < ln ε (fn ε v0 51) ∧ kd ε (fn ε v0 36) = 107 ∧ 3 < ln ε (fn ε v0 36) ∧ kd ε (μ (fn ε v0 51) v1) = 10 ∧ o_X11_compare [(2, μ (fn ε v0 51) v1), (2, μ (fn ε v0 36) 3)] ε μ (fun z ε_1 μ_1 => G cd_X12_number Q X 101 [(0, (2, v0)), (1, (0, v1))] [(0, z)] ε_1 μ_1) m_F) : G cd_X12_number Q X 86 [(0, (2, v0)), (1, (0, v1))] [] ε μ := by
  refine G_run (m_in [33, 66, 76, 86, 101, 110, 120]) 18 _ _ _ _ ?_
  show m_ty [(0, (2, v0)), (1, (0, v1))] [] ε μ → (kd ε v0 = 11) ∧ (kd ε (fn ε v0 51) = 107) ∧ ((0 : Int) ≤ v1 ∧ v1 < ln ε (fn ε v0 51)) ∧ (kd ε v0 = 11) ∧ (kd ε (fn ε v0 36) = 107) ∧ ((0 : Int) ≤ 3 ∧ 3 < ln ε (fn ε v0 36)) ∧ (kd ε (μ (fn ε v0 51) v1) = 10) ∧ o_X11_compare [(2, μ (fn ε v0 51) v1), (2, μ (fn ε v0 36) 3)] ε μ (fun z ε_1 μ_1 => G cd_X12_number Q X 101 [(0, (2, v0)), (1, (0, v1))] [(0, z)] ε_1 μ_1) m_F
  intro hty
  replace h := h hty.1 (hty.2.1 _ (List.mem_of_getElem? (i := 1) rfl))
  obtain ⟨k1, h⟩ := h
  refine And.intro k1 ?_
  obtain ⟨k2, h⟩ := h
  refine And.intro k2 ?_
  obtain ⟨k3, h⟩ := h
  obtain ⟨k4, h⟩ := h
  refine And.intro (And.intro k3 k4) ?_
  refine And.intro k1 ?_
  obtain ⟨k5, h⟩ := h
  refine And.intro k5 ?_
  obtain ⟨k6, h⟩ := h
  refine And.intro (And.intro (by decide) k6) ?_
  obtain ⟨k7, h⟩ := h
  refine And.intro k7 ?_
  exact h
set_option maxRecDepth 20000 in
theorem g_X12_number_76 {Q X : m_Po} {v0 v1 : Int} {ε : m_E} {μ : m_M} (h : TY ε μ → i32 v1 → kd ε v0 = 11 ∧ kd ε (fn ε v0 36) = 107 ∧ 3 < ln ε (fn ε v0 36) ∧ kd ε (μ (fn ε v0 36) 3) = 10 ∧ o_X11_set [(2, μ (fn ε v0 36) 3), (1, 1)] ε μ (fun z ε_1 μ_1 => G cd_X12_number Q X 86 [(0, (2, v0)), (1, (0, v1))] [] ε_1 μ_1) m_F) : G cd_X12_number Q X 76 [(0, (2, v0)), (1, (0, v1))] [] ε μ := by
  refine G_run (m_in [33, 66, 76, 86, 101, 110, 120]) 18 _ _ _ _ ?_
  show m_ty [(0, (2, v0)), (1, (0, v1))] [] ε μ → (kd ε v0 = 11) ∧ (kd ε (fn ε v0 36) = 107) ∧ ((0 : Int) ≤ 3 ∧ 3 < ln ε (fn ε v0 36)) ∧ (kd ε (μ (fn ε v0 36) 3) = 10) ∧ o_X11_set [(2, μ (fn ε v0 36) 3), (1, 1)] ε μ (fun z ε_1 μ_1 => G cd_X12_number Q X 86 [(0, (2, v0)), (1, (0, v1))] [] ε_1 μ_1) m_F
  intro hty
  replace h := h hty.1 (hty.2.1 _ (List.mem_of_getElem? (i := 1) rfl))
  obtain ⟨k1, h⟩ := h
  refine And.intro k1 ?_
  obtain ⟨k2, h⟩ := h
  refine And.intro k2 ?_
  obtain ⟨k3, h⟩ := h
  refine And.intro (And.intro (by decide) k3) ?_
  obtain ⟨k4, h⟩ := h
  refine And.intro k4 ?_
  exact h
set_option maxRecDepth 20000 in
theorem g_X12_number_66 {Q X : m_Po} {v0 v1 : Int} {ε : m_E} {μ : m_M} (h : TY ε μ → i32 v1 → kd ε v0 = 11 ∧ kd ε (fn ε v0 50) = 107 ∧ (0 : Int) ≤ v1 ∧ v1 < ln ε (fn ε v0 50) ∧ o_X12_decimals [(2, v0), (2, μ (fn ε v0 50) v1)] ε μ (fun z ε_1 μ_1 => G cd_X12_number Q X 76 [(0, (2, v0)), (1, (0, v1))] [] ε_1 μ_1) m_F) : G cd_X12_number Q X 66 [(0, (2, v0)), (1, (0, v1))] [] ε μ := by
  refine G_run (m_in [33, 66, 76, 86, 101, 110, 120]) 18 _ _ _ _ ?_
  show m_ty [(0, (2, v0)), (1, (0, v1))] [] ε μ → (kd ε v0 = 11) ∧ (kd ε (fn ε v0 50) = 107) ∧ ((0 : Int) ≤ v1 ∧ v1 < ln ε (fn ε v0 50)) ∧ (kd ε v0 = 11) ∧ o_X12_decimals [(2, v0), (2, μ (fn ε v0 50) v1)] ε μ (fun z ε_1 μ_1 => G cd_X12_number Q X 76 [(0, (2, v0)), (1, (0, v1))] [] ε_1 μ_1) m_F
  intro hty
  replace h := h hty.1 (hty.2.1 _ (List.mem_of_getElem? (i := 1) rfl))
  obtain ⟨k1, h⟩ := h
  refine And.intro k1 ?_
  obtain ⟨k2, h⟩ := h
  refine And.intro k2 ?_
  obtain ⟨k3, h⟩ := h
  obtain ⟨k4, h⟩ := h
  refine And.intro (And.intro k3 k4) ?_
  refine And.intro k1 ?_
  exact h
set_option maxRecDepth 20000 in
theorem g_X12_number_33 {Q X : m_Po} {v0 v1 t t_1 : Int} {ε : m_E} {μ : m_M} (h : TY ε μ → i32 v1 → i32 t_1 → kd ε t = 11 ∧ ∀ μ_1 : m_M, μ_1 = st μ t 0 t_1 → kd ε v0 = 11 ∧ ((μ_1 v0 0) ≤ 0 → ∀ μ_2 : m_M, μ_2 = st μ_1 v0 63 0 → kd ε (fn ε v0 50) = 107 ∧ (0 : Int) ≤ v1 ∧ v1 < ln ε (fn ε v0 50) ∧ kd ε (fn ε v0 51) = 107 ∧ v1 < ln ε (fn ε v0 51) ∧ o_X12_lowest [(2, v0), (2, μ_2 (fn ε v0 50) v1), (2, μ_2 (fn ε v0 51) v1)] ε μ_2 (fun z ε_1 μ_3 => G cd_X12_number Q X 66 [(0, (2, v0)), (1, (0, v1))] [] ε_1 μ_3) m_F) ∧ (0 < (μ_1 v0 0) → Q 0 ε μ_1)) : G cd_X12_number Q X 33 [(0, (2, v0)), (1, (0, v1))] [(0, t_1), (2, t)] ε μ := by
  refine G_run (m_in [33, 66, 76, 86, 101, 110, 120]) 18 _ _ _ _ ?_
  show m_ty [(0, (2, v0)), (1, (0, v1))] [(0, t_1), (2, t)] ε μ → (kd ε t = 11) ∧ ∀ μ_1 : m_M, μ_1 = st μ t 0 t_1 → (kd ε v0 = 11) ∧ ((μ_1 v0 0) ≤ 0 → (m_ty [(0, (2, v0)), (1, (0, v1))] [] ε μ_1 → (kd ε v0 = 11) ∧ ∀ μ_2 : m_M, μ_2 = st μ_1 v0 63 0 → (kd ε v0 = 11) ∧ (kd ε (fn ε v0 50) = 107) ∧ ((0 : Int) ≤ v1 ∧ v1 < ln ε (fn ε v0 50)) ∧ (kd ε v0 = 11) ∧ (kd ε (fn ε v0 51) = 107) ∧ ((0 : Int) ≤ v1 ∧ v1 < ln ε (fn ε v0 51)) ∧ (kd ε v0 = 11) ∧ o_X12_lowest [(2, v0), (2, μ_2 (fn ε v0 50) v1), (2, μ_2 (fn ε v0 51) v1)] ε μ_2 (fun z ε_1 μ_3 => G cd_X12_number Q X 66 [(0, (2, v0)), (1, (0, v1))] [] ε_1 μ_3) m_F)) ∧ (0 < (μ_1 v0 0) → (m_ty [] [] ε μ_1 → Q 0 ε μ_1))
  intro hty
  replace h := h hty.1 (hty.2.1 _ (List.mem_of_getElem? (i := 1) rfl)) (hty.2.2 _ (List.mem_of_getElem? (i := 0) rfl))
  obtain ⟨k1, h⟩ := h
  refine And.intro k1 ?_
  intro μ_1 e_μ_1
  replace h := h μ_1 e_μ_1
  obtain ⟨k2, h⟩ := h
  refine And.intro k2 ?_
  obtain ⟨ha, hb⟩ := h
  refine And.intro (fun c7 => ?_) (fun c7 => ?_)
  · replace h := ha c7
    clear ha hb
    intro _
    refine And.intro k2 ?_
    intro μ_2 e_μ_2
    replace h := h μ_2 e_μ_2
    refine And.intro k2 ?_
    obtain ⟨k3, h⟩ := h
    refine And.intro k3 ?_
    obtain ⟨k4, h⟩ := h
    obtain ⟨k5, h⟩ := h
    refine And.intro (And.intro k4 k5) ?_
    refine And.intro k2 ?_
    obtain ⟨k6, h⟩ := h
    refine And.intro k6 ?_
    obtain ⟨k7, h⟩ := h
    refine And.intro (And.intro k4 k7) ?_
    refine And.intro k2 ?_
    exact h
  · replace h := hb c7
    clear ha hb
    intro _
    exact h
set_option maxRecDepth 20000 in
theorem g_X12_number_0 {Q X : m_Po} {v0 v1 : Int} {ε : m_E} {μ : m_M} (h : TY ε μ → i32 v1 → kd ε v0 = 11 ∧ ∀ t : Int, t = (if (μ v0 53) = 0 then 1 else if (μ v0 54) = 0 then 1 else if v1 < 0 then 2 else if v1 ≤ (5 : Int) then 0 else 2) → kd ε v0 = 11 ∧ ∀ μ_1 : m_M, μ_1 = st μ v0 0 t → kd ε v0 = 11 ∧ ((μ_1 v0 0) ≤ 0 → ∀ μ_2 : m_M, μ_2 = st μ_1 v0 63 0 → kd ε (fn ε v0 50) = 107 ∧ (0 : Int) ≤ v1 ∧ v1 < ln ε (fn ε v0 50) ∧ kd ε (fn ε v0 51) = 107 ∧ v1 < ln ε (fn ε v0 51) ∧ o_X12_lowest [(2, v0), (2, μ_2 (fn ε v0 50) v1), (2, μ_2 (fn ε v0 51) v1)] ε μ_2 (fun z ε_1 μ_3 => G cd_X12_number Q X 66 [(0, (2, v0)), (1, (0, v1))] [] ε_1 μ_3) m_F) ∧ (0 < (μ_1 v0 0) → Q 0 ε μ_1)) : G cd_X12_number Q X 0 [(0, (2, v0)), (1, (0, v1))] [] ε μ := by
  refine G_run (m_in [33, 66, 76, 86, 101, 110, 120]) 18 _ _ _ _ ?_
  show m_ty [(0, (2, v0)), (1, (0, v1))] [] ε μ → (kd ε v0 = 11) ∧ ((μ v0 53) = 0 → (m_ty [(0, (2, v0)), (1, (0, v1))] [(2, v0)] ε μ → G cd_X12_number Q X 33 [(0, (2, v0)), (1, (0, v1))] [(0, 1), (2, v0)] ε μ)) ∧ ((μ v0 53) ≠ 0 → (m_ty [(0, (2, v0)), (1, (0, v1))] [(2, v0)] ε μ → (kd ε v0 = 11) ∧ ((μ v0 54) ≠ 0 → (m_ty [(0, (2, v0)), (1, (0, v1))] [(2, v0)] ε μ → (v1 < 0 → (m_ty [(0, (2, v0)), (1, (0, v1))] [(2, v0)] ε μ → G cd_X12_number Q X 33 [(0, (2, v0)), (1, (0, v1))] [(0, 2), (2, v0)] ε μ)) ∧ (0 ≤ v1 → (m_ty [(0, (2, v0)), (1, (0, v1))] [(2, v0)] ε μ → (v1 ≤ (5 : Int) → (m_ty [(0, (2, v0)), (1, (0, v1))] [(2, v0)] ε μ → G cd_X12_number Q X 33 [(0, (2, v0)), (1, (0, v1))] [(0, 0), (2, v0)] ε μ)) ∧ ((5 : Int) < v1 → (m_ty [(0, (2, v0)), (1, (0, v1))] [(2, v0)] ε μ → G cd_X12_number Q X 33 [(0, (2, v0)), (1, (0, v1))] [(0, 2), (2, v0)] ε μ)))))) ∧ ((μ v0 54) = 0 → (m_ty [(0, (2, v0)), (1, (0, v1))] [(2, v0)] ε μ → G cd_X12_number Q X 33 [(0, (2, v0)), (1, (0, v1))] [(0, 1), (2, v0)] ε μ))))
  intro hty
  replace h := h hty.1 (hty.2.1 _ (List.mem_of_getElem? (i := 1) rfl))
  obtain ⟨k1, h⟩ := h
  refine And.intro k1 ?_
  have hj := h
  refine And.intro (fun c1 => ?_) (fun c1 => ?_)
  · intro _
    exact g_X12_number_33 (fun _ _ _ => (hj _ (((if_pos c1).trans rfl)).symm))
  · intro _
    refine And.intro k1 ?_
    refine And.intro (fun c2 => ?_) (fun c2 => ?_)
    · intro _
      refine And.intro (fun c3 => ?_) (fun c3 => ?_)
      · intro _
        exact g_X12_number_33 (fun _ _ _ => (hj _ (((if_neg (c1)).trans ((if_neg (c2)).trans ((if_pos c3).trans rfl)))).symm))
      · intro _
        refine And.intro (fun c4 => ?_) (fun c4 => ?_)
        · intro _
          exact g_X12_number_33 (fun _ _ _ => (hj _ (((if_neg (c1)).trans ((if_neg (c2)).trans ((if_neg (Int.not_lt.mpr c3)).trans ((if_pos c4).trans rfl))))).symm))
        · intro _
          exact g_X12_number_33 (fun _ _ _ => (hj _ (((if_neg (c1)).trans ((if_neg (c2)).trans ((if_neg (Int.not_lt.mpr c3)).trans ((if_neg (Int.not_le.mpr c4)).trans rfl))))).symm))
    · intro _
      exact g_X12_number_33 (fun _ _ _ => (hj _ (((if_neg (c1)).trans ((if_pos c2).trans rfl))).symm))
theorem e_X12_number {Q X : m_Po} {v0 v1 : Int} {ε : m_E} {μ : m_M} (h : TY ε μ → i32 v1 → kd ε v0 = 11 ∧ ∀ t : Int, t = (if (μ v0 53) = 0 then 1 else if (μ v0 54) = 0 then 1 else if v1 < 0 then 2 else if v1 ≤ (5 : Int) then 0 else 2) → kd ε v0 = 11 ∧ ∀ μ_1 : m_M, μ_1 = st μ v0 0 t → kd ε v0 = 11 ∧ ((μ_1 v0 0) ≤ 0 → ∀ μ_2 : m_M, μ_2 = st μ_1 v0 63 0 → kd ε (fn ε v0 50) = 107 ∧ (0 : Int) ≤ v1 ∧ v1 < ln ε (fn ε v0 50) ∧ kd ε (fn ε v0 51) = 107 ∧ v1 < ln ε (fn ε v0 51) ∧ o_X12_lowest [(2, v0), (2, μ_2 (fn ε v0 50) v1), (2, μ_2 (fn ε v0 51) v1)] ε μ_2 (fun z ε_1 μ_3 => G cd_X12_number Q X 66 [(0, (2, v0)), (1, (0, v1))] [] ε_1 μ_3) m_F) ∧ (0 < (μ_1 v0 0) → Q 0 ε μ_1)) : o_X12_number [(2, v0), (0, v1)] ε μ Q X := And.intro rfl (g_X12_number_0 h)
/-! ArchYardModel.bound(II)I -/
set_option maxRecDepth 20000 in
theorem g_X12_bound_76 {Q X : m_Po} {t : Int} {ε : m_E} {μ : m_M} (h : TY ε μ → i32 t → Q t ε μ) : G cd_X12_bound Q X 76 [] [(0, t)] ε μ := by
  refine G_run (m_in [41, 76]) 15 _ _ _ _ ?_
  show m_ty [] [(0, t)] ε μ → Q t ε μ
  intro hty
  replace h := h hty.1 (hty.2.2 _ (List.mem_of_getElem? (i := 0) rfl))
  exact h
set_option maxRecDepth 20000 in
theorem g_X12_bound_41 {Q X : m_Po} {t : Int} {ε : m_E} {μ : m_M} (h : TY ε μ → i32 t → Q t ε μ) : G cd_X12_bound Q X 41 [] [(0, t)] ε μ := by
  refine G_run (m_in [41, 76]) 15 _ _ _ _ ?_
  show m_ty [] [(0, t)] ε μ → Q t ε μ
  intro hty
  replace h := h hty.1 (hty.2.2 _ (List.mem_of_getElem? (i := 0) rfl))
  exact h
set_option maxRecDepth 20000 in
theorem g_X12_bound_0 {Q X : m_Po} {v0 v1 v2 : Int} {ε : m_E} {μ : m_M} (h : TY ε μ → i32 v1 → i32 v2 → kd ε v0 = 11 ∧ ∀ μ_1 : m_M, μ_1 = st μ v0 0 0 → (v2 < 0 → Q (-1) ε μ_1) ∧ (0 ≤ v2 → ((μ_1 v0 53) ≠ 0 → (v1 ≠ (2 : Int) → ((0 ≤ v1 → (v1 ≤ (1 : Int) → kd ε (fn ε v0 56) = 100 ∧ (0 : Int) ≤ v1 ∧ v1 < ln ε (fn ε v0 56) ∧ (v2 < (μ_1 (fn ε v0 56) v1) → kd ε (fn ε v0 55) = 100 ∧ (0 : Int) ≤ w32 ((w32 (48 * v1)) + v2) ∧ w32 ((w32 (48 * v1)) + v2) < ln ε (fn ε v0 55))))) ∧ ∀ t : Int, t = (if v1 < 0 then (-1) else if (1 : Int) < v1 then (-1) else if v2 < (μ_1 (fn ε v0 56) v1) then μ_1 (fn ε v0 55) (w32 ((w32 (48 * v1)) + v2)) else (-1)) → Q t ε μ_1) ∧ (v1 = (2 : Int) → ((v2 < (μ_1 v0 59) → kd ε (fn ε v0 57) = 100 ∧ (0 : Int) ≤ v2 ∧ v2 < ln ε (fn ε v0 57))) ∧ ∀ t_1 : Int, t_1 = (if (μ_1 v0 59) ≤ v2 then (-1) else μ_1 (fn ε v0 57) v2) → Q t_1 ε μ_1)) ∧ ((μ_1 v0 53) = 0 → Q (-1) ε μ_1))) : G cd_X12_bound Q X 0 [(0, (2, v0)), (1, (0, v1)), (2, (0, v2))] [] ε μ := by
  refine G_run (m_in [41, 76]) 15 _ _ _ _ ?_
  show m_ty [(0, (2, v0)), (1, (0, v1)), (2, (0, v2))] [] ε μ → (kd ε v0 = 11) ∧ ∀ μ_1 : m_M, μ_1 = st μ v0 0 0 → (v2 < 0 → (m_ty [] [] ε μ_1 → Q (-1) ε μ_1)) ∧ (0 ≤ v2 → (m_ty [(0, (2, v0)), (1, (0, v1)), (2, (0, v2))] [] ε μ_1 → (kd ε v0 = 11) ∧ ((μ_1 v0 53) ≠ 0 → (m_ty [(0, (2, v0)), (1, (0, v1)), (2, (0, v2))] [] ε μ_1 → (v1 ≠ (2 : Int) → (m_ty [(0, (2, v0)), (1, (0, v1)), (2, (0, v2))] [] ε μ_1 → (v1 < 0 → (m_ty [] [] ε μ_1 → G cd_X12_bound Q X 76 [] [(0, (-1))] ε μ_1)) ∧ (0 ≤ v1 → (m_ty [(0, (2, v0)), (1, (0, v1)), (2, (0, v2))] [] ε μ_1 → ((1 : Int) < v1 → (m_ty [] [] ε μ_1 → G cd_X12_bound Q X 76 [] [(0, (-1))] ε μ_1)) ∧ (v1 ≤ (1 : Int) → (m_ty [(0, (2, v0)), (1, (0, v1)), (2, (0, v2))] [] ε μ_1 → (kd ε v0 = 11) ∧ (kd ε (fn ε v0 56) = 100) ∧ ((0 : Int) ≤ v1 ∧ v1 < ln ε (fn ε v0 56)) ∧ (v2 < (μ_1 (fn ε v0 56) v1) → (m_ty [(0, (2, v0)), (1, (0, v1)), (2, (0, v2))] [] ε μ_1 → (kd ε v0 = 11) ∧ (kd ε (fn ε v0 55) = 100) ∧ ((0 : Int) ≤ w32 ((w32 (48 * v1)) + v2) ∧ w32 ((w32 (48 * v1)) + v2) < ln ε (fn ε v0 55)) ∧ G cd_X12_bound Q X 76 [] [(0, μ_1 (fn ε v0 55) (w32 ((w32 (48 * v1)) + v2)))] ε μ_1)) ∧ ((μ_1 (fn ε v0 56) v1) ≤ v2 → (m_ty [] [] ε μ_1 → G cd_X12_bound Q X 76 [] [(0, (-1))] ε μ_1)))))))) ∧ (v1 = (2 : Int) → (m_ty [(0, (2, v0)), (2, (0, v2))] [] ε μ_1 → (kd ε v0 = 11) ∧ ((μ_1 v0 59) ≤ v2 → (m_ty [] [] ε μ_1 → G cd_X12_bound Q X 41 [] [(0, (-1))] ε μ_1)) ∧ (v2 < (μ_1 v0 59) → (m_ty [(0, (2, v0)), (2, (0, v2))] [] ε μ_1 → (kd ε v0 = 11) ∧ (kd ε (fn ε v0 57) = 100) ∧ ((0 : Int) ≤ v2 ∧ v2 < ln ε (fn ε v0 57)) ∧ G cd_X12_bound Q X 41 [] [(0, μ_1 (fn ε v0 57) v2)] ε μ_1)))))) ∧ ((μ_1 v0 53) = 0 → (m_ty [] [] ε μ_1 → Q (-1) ε μ_1))))
  intro hty
  replace h := h hty.1 (hty.2.1 _ (List.mem_of_getElem? (i := 1) rfl)) (hty.2.1 _ (List.mem_of_getElem? (i := 2) rfl))
  obtain ⟨k1, h⟩ := h
  refine And.intro k1 ?_
  intro μ_1 e_μ_1
  replace h := h μ_1 e_μ_1
  obtain ⟨ha, hb⟩ := h
  refine And.intro (fun c17 => ?_) (fun c17 => ?_)
  · replace h := ha c17
    clear ha hb
    intro _
    exact h
  · replace h := hb c17
    clear ha hb
    intro _
    refine And.intro k1 ?_
    obtain ⟨ha, hb⟩ := h
    refine And.intro (fun c16 => ?_) (fun c16 => ?_)
    · replace h := ha c16
      clear ha hb
      intro _
      obtain ⟨ha, hb⟩ := h
      refine And.intro (fun c15 => ?_) (fun c15 => ?_)
      · replace h := ha c15
        clear ha hb
        intro _
        obtain ⟨hc, hj⟩ := h
        refine And.intro (fun c1 => ?_) (fun c1 => ?_)
        · intro _
          exact g_X12_bound_76 (fun _ _ => (hj _ (((if_pos c1).trans rfl)).symm))
        · replace hc := hc c1
          intro _
          refine And.intro (fun c2 => ?_) (fun c2 => ?_)
          · intro _
            exact g_X12_bound_76 (fun _ _ => (hj _ (((if_neg (Int.not_lt.mpr c1)).trans ((if_pos c2).trans rfl))).symm))
          · replace hc := hc c2
            intro _
            obtain ⟨k4, k5, k6, k11⟩ := hc
            refine And.intro k1 ?_
            refine And.intro k4 ?_
            refine And.intro (And.intro k5 k6) ?_
            refine And.intro (fun c6 => ?_) (fun c6 => ?_)
            · replace k11 := k11 c6
              intro _
              obtain ⟨k8, k9, k10⟩ := k11
              refine And.intro k1 ?_
              refine And.intro k8 ?_
              refine And.intro (And.intro k9 k10) ?_
              exact g_X12_bound_76 (fun _ _ => (hj _ (((if_neg (Int.not_lt.mpr c1)).trans ((if_neg (Int.not_lt.mpr c2)).trans ((if_pos c6).trans rfl)))).symm))
            · intro _
              exact g_X12_bound_76 (fun _ _ => (hj _ (((if_neg (Int.not_lt.mpr c1)).trans ((if_neg (Int.not_lt.mpr c2)).trans ((if_neg (Int.not_lt.mpr c6)).trans rfl)))).symm))
      · replace h := hb c15
        clear ha hb
        intro _
        refine And.intro k1 ?_
        obtain ⟨hc, hj⟩ := h
        refine And.intro (fun c11 => ?_) (fun c11 => ?_)
        · intro _
          exact g_X12_bound_41 (fun _ _ => (hj _ (((if_pos c11).trans rfl)).symm))
        · replace hc := hc c11
          intro _
          obtain ⟨k13, k14, k15⟩ := hc
          refine And.intro k1 ?_
          refine And.intro k13 ?_
          refine And.intro (And.intro k14 k15) ?_
          exact g_X12_bound_41 (fun _ _ => (hj _ (((if_neg (Int.not_le.mpr c11)).trans rfl)).symm))
    · replace h := hb c16
      clear ha hb
      intro _
      exact h
theorem e_X12_bound {Q X : m_Po} {v0 v1 v2 : Int} {ε : m_E} {μ : m_M} (h : TY ε μ → i32 v1 → i32 v2 → kd ε v0 = 11 ∧ ∀ μ_1 : m_M, μ_1 = st μ v0 0 0 → (v2 < 0 → Q (-1) ε μ_1) ∧ (0 ≤ v2 → ((μ_1 v0 53) ≠ 0 → (v1 ≠ (2 : Int) → ((0 ≤ v1 → (v1 ≤ (1 : Int) → kd ε (fn ε v0 56) = 100 ∧ (0 : Int) ≤ v1 ∧ v1 < ln ε (fn ε v0 56) ∧ (v2 < (μ_1 (fn ε v0 56) v1) → kd ε (fn ε v0 55) = 100 ∧ (0 : Int) ≤ w32 ((w32 (48 * v1)) + v2) ∧ w32 ((w32 (48 * v1)) + v2) < ln ε (fn ε v0 55))))) ∧ ∀ t : Int, t = (if v1 < 0 then (-1) else if (1 : Int) < v1 then (-1) else if v2 < (μ_1 (fn ε v0 56) v1) then μ_1 (fn ε v0 55) (w32 ((w32 (48 * v1)) + v2)) else (-1)) → Q t ε μ_1) ∧ (v1 = (2 : Int) → ((v2 < (μ_1 v0 59) → kd ε (fn ε v0 57) = 100 ∧ (0 : Int) ≤ v2 ∧ v2 < ln ε (fn ε v0 57))) ∧ ∀ t_1 : Int, t_1 = (if (μ_1 v0 59) ≤ v2 then (-1) else μ_1 (fn ε v0 57) v2) → Q t_1 ε μ_1)) ∧ ((μ_1 v0 53) = 0 → Q (-1) ε μ_1))) : o_X12_bound [(2, v0), (0, v1), (0, v2)] ε μ Q X := And.intro rfl (g_X12_bound_0 h)
/-! ArchYardModel.weigh(I)I -/
set_option maxRecDepth 20000 in
theorem g_X12_weigh_51 {Q X : m_Po} {v0 : Int} {ε : m_E} {μ : m_M} (h : TY ε μ → kd ε v0 = 11 ∧ Q (μ v0 63) ε μ) : G cd_X12_weigh Q X 51 [(0, (2, v0))] [] ε μ := by
  refine G_run (m_in [36, 51]) 9 _ _ _ _ ?_
  show m_ty [(0, (2, v0))] [] ε μ → (kd ε v0 = 11) ∧ Q (μ v0 63) ε μ
  intro hty
  replace h := h hty.1 
  obtain ⟨k1, h⟩ := h
  refine And.intro k1 ?_
  exact h
set_option maxRecDepth 20000 in
theorem g_X12_weigh_36 {Q X : m_Po} {v0 v1 : Int} {ε : m_E} {μ : m_M} (h : TY ε μ → i32 v1 → kd ε v0 = 11 ∧ ∀ μ_1 : m_M, μ_1 = st μ v0 63 0 → kd ε (fn ε v0 58) = 107 ∧ (0 : Int) ≤ v1 ∧ v1 < ln ε (fn ε v0 58) ∧ o_X12_decimals [(2, v0), (2, μ_1 (fn ε v0 58) v1)] ε μ_1 (fun z ε_1 μ_2 => G cd_X12_weigh Q X 51 [(0, (2, v0))] [] ε_1 μ_2) m_F) : G cd_X12_weigh Q X 36 [(0, (2, v0)), (1, (0, v1))] [] ε μ := by
  refine G_run (m_in [36, 51]) 9 _ _ _ _ ?_
  show m_ty [(0, (2, v0)), (1, (0, v1))] [] ε μ → (kd ε v0 = 11) ∧ ∀ μ_1 : m_M, μ_1 = st μ v0 63 0 → (kd ε v0 = 11) ∧ (kd ε (fn ε v0 58) = 107) ∧ ((0 : Int) ≤ v1 ∧ v1 < ln ε (fn ε v0 58)) ∧ (kd ε v0 = 11) ∧ o_X12_decimals [(2, v0), (2, μ_1 (fn ε v0 58) v1)] ε μ_1 (fun z ε_1 μ_2 => G cd_X12_weigh Q X 51 [(0, (2, v0))] [] ε_1 μ_2) m_F
  intro hty
  replace h := h hty.1 (hty.2.1 _ (List.mem_of_getElem? (i := 1) rfl))
  obtain ⟨k1, h⟩ := h
  refine And.intro k1 ?_
  intro μ_1 e_μ_1
  replace h := h μ_1 e_μ_1
  refine And.intro k1 ?_
  obtain ⟨k2, h⟩ := h
  refine And.intro k2 ?_
  obtain ⟨k3, h⟩ := h
  obtain ⟨k4, h⟩ := h
  refine And.intro (And.intro k3 k4) ?_
  refine And.intro k1 ?_
  exact h
set_option maxRecDepth 20000 in
theorem g_X12_weigh_0 {Q X : m_Po} {v0 v1 : Int} {ε : m_E} {μ : m_M} (h : TY ε μ → i32 v1 → kd ε v0 = 11 ∧ ∀ μ_1 : m_M, μ_1 = st μ v0 0 0 → ((μ_1 v0 59) = 0 → Q (-1) ε μ_1) ∧ ((μ_1 v0 59) ≠ 0 → (v1 < 0 → Q (-1) ε μ_1) ∧ (0 ≤ v1 → ((4 : Int) < v1 → Q (-1) ε μ_1) ∧ (v1 ≤ (4 : Int) → ((4 : Int) ≤ v1 → G cd_X12_weigh Q X 36 [(0, (2, v0)), (1, (0, v1))] [] ε μ_1) ∧ (v1 < (4 : Int) → (v1 < (μ_1 v0 59) → G cd_X12_weigh Q X 36 [(0, (2, v0)), (1, (0, v1))] [] ε μ_1) ∧ ((μ_1 v0 59) ≤ v1 → Q (-1) ε μ_1)))))) : G cd_X12_weigh Q X 0 [(0, (2, v0)), (1, (0, v1))] [] ε μ := by
  refine G_run (m_in [36, 51]) 9 _ _ _ _ ?_
  show m_ty [(0, (2, v0)), (1, (0, v1))] [] ε μ → (kd ε v0 = 11) ∧ ∀ μ_1 : m_M, μ_1 = st μ v0 0 0 → (kd ε v0 = 11) ∧ ((μ_1 v0 59) = 0 → (m_ty [] [] ε μ_1 → Q (-1) ε μ_1)) ∧ ((μ_1 v0 59) ≠ 0 → (m_ty [(0, (2, v0)), (1, (0, v1))] [] ε μ_1 → (v1 < 0 → (m_ty [] [] ε μ_1 → Q (-1) ε μ_1)) ∧ (0 ≤ v1 → (m_ty [(0, (2, v0)), (1, (0, v1))] [] ε μ_1 → ((4 : Int) < v1 → (m_ty [] [] ε μ_1 → Q (-1) ε μ_1)) ∧ (v1 ≤ (4 : Int) → (m_ty [(0, (2, v0)), (1, (0, v1))] [] ε μ_1 → ((4 : Int) ≤ v1 → G cd_X12_weigh Q X 36 [(0, (2, v0)), (1, (0, v1))] [] ε μ_1) ∧ (v1 < (4 : Int) → (m_ty [(0, (2, v0)), (1, (0, v1))] [] ε μ_1 → (kd ε v0 = 11) ∧ (v1 < (μ_1 v0 59) → G cd_X12_weigh Q X 36 [(0, (2, v0)), (1, (0, v1))] [] ε μ_1) ∧ ((μ_1 v0 59) ≤ v1 → (m_ty [] [] ε μ_1 → Q (-1) ε μ_1))))))))))
  intro hty
  replace h := h hty.1 (hty.2.1 _ (List.mem_of_getElem? (i := 1) rfl))
  obtain ⟨k1, h⟩ := h
  refine And.intro k1 ?_
  intro μ_1 e_μ_1
  replace h := h μ_1 e_μ_1
  refine And.intro k1 ?_
  obtain ⟨ha, hb⟩ := h
  refine And.intro (fun c5 => ?_) (fun c5 => ?_)
  · replace h := ha c5
    clear ha hb
    intro _
    exact h
  · replace h := hb c5
    clear ha hb
    intro _
    obtain ⟨ha, hb⟩ := h
    refine And.intro (fun c4 => ?_) (fun c4 => ?_)
    · replace h := ha c4
      clear ha hb
      intro _
      exact h
    · replace h := hb c4
      clear ha hb
      intro _
      obtain ⟨ha, hb⟩ := h
      refine And.intro (fun c3 => ?_) (fun c3 => ?_)
      · replace h := ha c3
        clear ha hb
        intro _
        exact h
      · replace h := hb c3
        clear ha hb
        intro _
        obtain ⟨ha, hb⟩ := h
        refine And.intro (fun c2 => ?_) (fun c2 => ?_)
        · replace h := ha c2
          clear ha hb
          exact h
        · replace h := hb c2
          clear ha hb
          intro _
          refine And.intro k1 ?_
          obtain ⟨ha, hb⟩ := h
          refine And.intro (fun c1 => ?_) (fun c1 => ?_)
          · replace h := ha c1
            clear ha hb
            exact h
          · replace h := hb c1
            clear ha hb
            intro _
            exact h
theorem e_X12_weigh {Q X : m_Po} {v0 v1 : Int} {ε : m_E} {μ : m_M} (h : TY ε μ → i32 v1 → kd ε v0 = 11 ∧ ∀ μ_1 : m_M, μ_1 = st μ v0 0 0 → ((μ_1 v0 59) = 0 → Q (-1) ε μ_1) ∧ ((μ_1 v0 59) ≠ 0 → (v1 < 0 → Q (-1) ε μ_1) ∧ (0 ≤ v1 → ((4 : Int) < v1 → Q (-1) ε μ_1) ∧ (v1 ≤ (4 : Int) → ((4 : Int) ≤ v1 → G cd_X12_weigh Q X 36 [(0, (2, v0)), (1, (0, v1))] [] ε μ_1) ∧ (v1 < (4 : Int) → (v1 < (μ_1 v0 59) → G cd_X12_weigh Q X 36 [(0, (2, v0)), (1, (0, v1))] [] ε μ_1) ∧ ((μ_1 v0 59) ≤ v1 → Q (-1) ε μ_1)))))) : o_X12_weigh [(2, v0), (0, v1)] ε μ Q X := And.intro rfl (g_X12_weigh_0 h)
/-! ArchYardModel.octet(I)I -/
set_option maxRecDepth 20000 in
theorem g_X12_octet_27 {Q X : m_Po} {t : Int} {ε : m_E} {μ : m_M} (h : TY ε μ → i32 t → Q t ε μ) : G cd_X12_octet Q X 27 [] [(0, t)] ε μ := by
  refine G_run (m_in [27]) 6 _ _ _ _ ?_
  show m_ty [] [(0, t)] ε μ → Q t ε μ
  intro hty
  replace h := h hty.1 (hty.2.2 _ (List.mem_of_getElem? (i := 0) rfl))
  exact h
set_option maxRecDepth 20000 in
theorem g_X12_octet_0 {Q X : m_Po} {v0 v1 : Int} {ε : m_E} {μ : m_M} (h : TY ε μ → i32 v1 → kd ε v0 = 11 ∧ ∀ μ_1 : m_M, μ_1 = st μ v0 0 0 → ((0 ≤ v1 → (v1 < (μ_1 v0 63) → kd ε (fn ε v0 62) = 102 ∧ (0 : Int) ≤ v1 ∧ v1 < ln ε (fn ε v0 62)))) ∧ ∀ t : Int, t = (if v1 < 0 then (-1) else if (μ_1 v0 63) ≤ v1 then (-1) else μ_1 (fn ε v0 62) v1) → Q t ε μ_1) : G cd_X12_octet Q X 0 [(0, (2, v0)), (1, (0, v1))] [] ε μ := by
  refine G_run (m_in [27]) 6 _ _ _ _ ?_
  show m_ty [(0, (2, v0)), (1, (0, v1))] [] ε μ → (kd ε v0 = 11) ∧ ∀ μ_1 : m_M, μ_1 = st μ v0 0 0 → (v1 < 0 → (m_ty [] [] ε μ_1 → G cd_X12_octet Q X 27 [] [(0, (-1))] ε μ_1)) ∧ (0 ≤ v1 → (m_ty [(0, (2, v0)), (1, (0, v1))] [] ε μ_1 → (kd ε v0 = 11) ∧ ((μ_1 v0 63) ≤ v1 → (m_ty [] [] ε μ_1 → G cd_X12_octet Q X 27 [] [(0, (-1))] ε μ_1)) ∧ (v1 < (μ_1 v0 63) → (m_ty [(0, (2, v0)), (1, (0, v1))] [] ε μ_1 → (kd ε v0 = 11) ∧ (kd ε (fn ε v0 62) = 102) ∧ ((0 : Int) ≤ v1 ∧ v1 < ln ε (fn ε v0 62)) ∧ G cd_X12_octet Q X 27 [] [(0, μ_1 (fn ε v0 62) v1)] ε μ_1))))
  intro hty
  replace h := h hty.1 (hty.2.1 _ (List.mem_of_getElem? (i := 1) rfl))
  obtain ⟨k1, h⟩ := h
  refine And.intro k1 ?_
  intro μ_1 e_μ_1
  replace h := h μ_1 e_μ_1
  obtain ⟨hc, hj⟩ := h
  refine And.intro (fun c1 => ?_) (fun c1 => ?_)
  · intro _
    exact g_X12_octet_27 (fun _ _ => (hj _ (((if_pos c1).trans rfl)).symm))
  · replace hc := hc c1
    intro _
    refine And.intro k1 ?_
    refine And.intro (fun c2 => ?_) (fun c2 => ?_)
    · intro _
      exact g_X12_octet_27 (fun _ _ => (hj _ (((if_neg (Int.not_lt.mpr c1)).trans ((if_pos c2).trans rfl))).symm))
    · replace hc := hc c2
      intro _
      obtain ⟨k4, k5, k6⟩ := hc
      refine And.intro k1 ?_
      refine And.intro k4 ?_
      refine And.intro (And.intro k5 k6) ?_
      exact g_X12_octet_27 (fun _ _ => (hj _ (((if_neg (Int.not_lt.mpr c1)).trans ((if_neg (Int.not_le.mpr c2)).trans rfl))).symm))
theorem e_X12_octet {Q X : m_Po} {v0 v1 : Int} {ε : m_E} {μ : m_M} (h : TY ε μ → i32 v1 → kd ε v0 = 11 ∧ ∀ μ_1 : m_M, μ_1 = st μ v0 0 0 → ((0 ≤ v1 → (v1 < (μ_1 v0 63) → kd ε (fn ε v0 62) = 102 ∧ (0 : Int) ≤ v1 ∧ v1 < ln ε (fn ε v0 62)))) ∧ ∀ t : Int, t = (if v1 < 0 then (-1) else if (μ_1 v0 63) ≤ v1 then (-1) else μ_1 (fn ε v0 62) v1) → Q t ε μ_1) : o_X12_octet [(2, v0), (0, v1)] ε μ Q X := And.intro rfl (g_X12_octet_0 h)
/-! ArchYardModel.count(I)I -/
set_option maxRecDepth 20000 in
theorem g_X12_count_0 {Q X : m_Po} {v0 v1 : Int} {ε : m_E} {μ : m_M} (h : TY ε μ → i32 v1 → kd ε v0 = 11 ∧ ∀ μ_1 : m_M, μ_1 = st μ v0 0 0 → (v1 = 0 → Q (μ_1 v0 4) ε μ_1) ∧ (v1 = 1 → Q (μ_1 v0 14) ε μ_1) ∧ (v1 = 2 → Q (μ_1 v0 27) ε μ_1) ∧ (v1 = 3 → Q (μ_1 v0 63) ε μ_1) ∧ (v1 < 0 ∨ 3 < v1 → Q (-1) ε μ_1)) : G cd_X12_count Q X 0 [(0, (2, v0)), (1, (0, v1))] [] ε μ := by
  refine G_run (m_in []) 7 _ _ _ _ ?_
  show m_ty [(0, (2, v0)), (1, (0, v1))] [] ε μ → (kd ε v0 = 11) ∧ ∀ μ_1 : m_M, μ_1 = st μ v0 0 0 → ((v1 = 0 → (m_ty [(0, (2, v0))] [] ε μ_1 → (kd ε v0 = 11) ∧ Q (μ_1 v0 4) ε μ_1)) ∧ (v1 = 1 → (m_ty [(0, (2, v0))] [] ε μ_1 → (kd ε v0 = 11) ∧ Q (μ_1 v0 14) ε μ_1)) ∧ (v1 = 2 → (m_ty [(0, (2, v0))] [] ε μ_1 → (kd ε v0 = 11) ∧ Q (μ_1 v0 27) ε μ_1)) ∧ (v1 = 3 → (m_ty [(0, (2, v0))] [] ε μ_1 → (kd ε v0 = 11) ∧ Q (μ_1 v0 63) ε μ_1)) ∧ True) ∧ (v1 < 0 ∨ 3 < v1 → (m_ty [] [] ε μ_1 → Q (-1) ε μ_1))
  intro hty
  replace h := h hty.1 (hty.2.1 _ (List.mem_of_getElem? (i := 1) rfl))
  obtain ⟨k1, h⟩ := h
  refine And.intro k1 ?_
  intro μ_1 e_μ_1
  replace h := h μ_1 e_μ_1
  obtain ⟨h0, h1, h2, h3, h4⟩ := h
  refine And.intro (And.intro (fun c0 => ?_) (And.intro (fun c1 => ?_) (And.intro (fun c2 => ?_) (And.intro (fun c3 => ?_) trivial)))) (fun c4 => ?_)
  · replace h := h0 c0
    intro _
    refine And.intro k1 ?_
    exact h
  · replace h := h1 c1
    intro _
    refine And.intro k1 ?_
    exact h
  · replace h := h2 c2
    intro _
    refine And.intro k1 ?_
    exact h
  · replace h := h3 c3
    intro _
    refine And.intro k1 ?_
    exact h
  · replace h := h4 c4
    intro _
    exact h
theorem e_X12_count {Q X : m_Po} {v0 v1 : Int} {ε : m_E} {μ : m_M} (h : TY ε μ → i32 v1 → kd ε v0 = 11 ∧ ∀ μ_1 : m_M, μ_1 = st μ v0 0 0 → (v1 = 0 → Q (μ_1 v0 4) ε μ_1) ∧ (v1 = 1 → Q (μ_1 v0 14) ε μ_1) ∧ (v1 = 2 → Q (μ_1 v0 27) ε μ_1) ∧ (v1 = 3 → Q (μ_1 v0 63) ε μ_1) ∧ (v1 < 0 ∨ 3 < v1 → Q (-1) ε μ_1)) : o_X12_count [(2, v0), (0, v1)] ε μ Q X := And.intro rfl (g_X12_count_0 h)
/-! ArchYardModel.room(I)I -/
set_option maxRecDepth 20000 in
theorem g_X12_room_99 {Q X : m_Po} {v0 v1 v2 v3 : Int} {ε : m_E} {μ : m_M} (h : TY ε μ → i32 v1 → i32 v2 → i32 v3 → G cd_X12_room Q X 42 [(0, (2, v0)), (1, (0, v1)), (2, (0, v2)), (3, (0, v3))] [] ε μ) : G cd_X12_room Q X 99 [(0, (2, v0)), (1, (0, v1)), (2, (0, v2)), (3, (0, v3))] [] ε μ := by
  refine G_run (m_in [5, 16, 25, 42, 63, 83, 87, 99]) 22 _ _ _ _ ?_
  show m_ty [(0, (2, v0)), (1, (0, v1)), (2, (0, v2)), (3, (0, v3))] [] ε μ → G cd_X12_room Q X 42 [(0, (2, v0)), (1, (0, v1)), (2, (0, v2)), (3, (0, v3))] [] ε μ
  intro hty
  replace h := h hty.1 (hty.2.1 _ (List.mem_of_getElem? (i := 1) rfl)) (hty.2.1 _ (List.mem_of_getElem? (i := 2) rfl)) (hty.2.1 _ (List.mem_of_getElem? (i := 3) rfl))
  exact h
set_option maxRecDepth 20000 in
theorem g_X12_room_87 {Q X : m_Po} {v0 v1 v2 v3 v4 t : Int} {ε : m_E} {μ : m_M} (h : TY ε μ → i32 v1 → i32 v2 → i32 v3 → i32 v4 → i32 t → ∀ v2_2 : Int, v2_2 = (if t = 0 then v2 else v4) → ∀ v3_2 : Int, v3_2 = (if t = 0 then v4 else v3) → G cd_X12_room Q X 42 [(0, (2, v0)), (1, (0, v1)), (2, (0, v2_2)), (3, (0, v3_2))] [] ε μ) : G cd_X12_room Q X 87 [(0, (2, v0)), (1, (0, v1)), (2, (0, v2)), (3, (0, v3)), (4, (0, v4))] [(0, t)] ε μ := by
  refine G_run (m_in [5, 16, 25, 42, 63, 83, 87, 99]) 22 _ _ _ _ ?_
  show m_ty [(0, (2, v0)), (1, (0, v1)), (2, (0, v2)), (3, (0, v3)), (4, (0, v4))] [(0, t)] ε μ → (t = 0 → (m_ty [(0, (2, v0)), (1, (0, v1)), (2, (0, v2)), (4, (0, v4))] [] ε μ → ∀ v3_1 : Int, v3_1 = v4 → G cd_X12_room Q X 99 [(0, (2, v0)), (1, (0, v1)), (2, (0, v2)), (3, (0, v3_1))] [] ε μ)) ∧ (t ≠ 0 → (m_ty [(0, (2, v0)), (1, (0, v1)), (3, (0, v3)), (4, (0, v4))] [] ε μ → ∀ v2_1 : Int, v2_1 = v4 → G cd_X12_room Q X 99 [(0, (2, v0)), (1, (0, v1)), (2, (0, v2_1)), (3, (0, v3))] [] ε μ))
  intro hty
  replace h := h hty.1 (hty.2.1 _ (List.mem_of_getElem? (i := 1) rfl)) (hty.2.1 _ (List.mem_of_getElem? (i := 2) rfl)) (hty.2.1 _ (List.mem_of_getElem? (i := 3) rfl)) (hty.2.1 _ (List.mem_of_getElem? (i := 4) rfl)) (hty.2.2 _ (List.mem_of_getElem? (i := 0) rfl))
  have hj := h
  refine And.intro (fun c0 => ?_) (fun c0 => ?_)
  · intro _
    intro v3_1 e_v3_1
    subst e_v3_1
    exact g_X12_room_99 (fun _ _ _ _ => (hj _ (((if_pos c0).trans rfl)).symm _ (((if_pos c0).trans rfl)).symm))
  · intro _
    intro v2_1 e_v2_1
    subst e_v2_1
    exact g_X12_room_99 (fun _ _ _ _ => (hj _ (((if_neg (c0)).trans rfl)).symm _ (((if_neg (c0)).trans rfl)).symm))
set_option maxRecDepth 20000 in
theorem g_X12_room_83 {Q X : m_Po} {v0 v1 v2 v3 v4 : Int} {ε : m_E} {μ : m_M} (h : TY ε μ → i32 v1 → i32 v2 → i32 v3 → i32 v4 → kd ε v0 = 11 ∧ o_X12_isSafe [(2, v0)] ε μ (fun z ε_1 μ_1 => G cd_X12_room Q X 87 [(0, (2, v0)), (1, (0, v1)), (2, (0, v2)), (3, (0, v3)), (4, (0, v4))] [(0, z)] ε_1 μ_1) m_F) : G cd_X12_room Q X 83 [(0, (2, v0)), (1, (0, v1)), (2, (0, v2)), (3, (0, v3)), (4, (0, v4))] [] ε μ := by
  refine G_run (m_in [5, 16, 25, 42, 63, 83, 87, 99]) 22 _ _ _ _ ?_
  show m_ty [(0, (2, v0)), (1, (0, v1)), (2, (0, v2)), (3, (0, v3)), (4, (0, v4))] [] ε μ → (kd ε v0 = 11) ∧ o_X12_isSafe [(2, v0)] ε μ (fun z ε_1 μ_1 => G cd_X12_room Q X 87 [(0, (2, v0)), (1, (0, v1)), (2, (0, v2)), (3, (0, v3)), (4, (0, v4))] [(0, z)] ε_1 μ_1) m_F
  intro hty
  replace h := h hty.1 (hty.2.1 _ (List.mem_of_getElem? (i := 1) rfl)) (hty.2.1 _ (List.mem_of_getElem? (i := 2) rfl)) (hty.2.1 _ (List.mem_of_getElem? (i := 3) rfl)) (hty.2.1 _ (List.mem_of_getElem? (i := 4) rfl))
  obtain ⟨k1, h⟩ := h
  refine And.intro k1 ?_
  exact h
set_option maxRecDepth 20000 in
theorem g_X12_room_63 {Q X : m_Po} {v0 v1 v2 v3 t : Int} {ε : m_E} {μ : m_M} (h : TY ε μ → i32 v1 → i32 v2 → i32 v3 → i32 t → ∀ v4 : Int, v4 = t → kd ε v0 = 11 ∧ kd ε (fn ε v0 17) = 100 ∧ (0 : Int) ≤ v1 ∧ v1 < ln ε (fn ε v0 17) ∧ o_X12_tells [(2, v0), (0, v1), (0, 0), (0, w32 ((μ (fn ε v0 17) v1) - 1)), (0, 0), (0, 1), (0, v4)] ε μ (fun z ε_1 μ_1 => G cd_X12_room Q X 83 [(0, (2, v0)), (1, (0, v1)), (2, (0, v2)), (3, (0, v3)), (4, (0, v4))] [] ε_1 μ_1) m_F) : G cd_X12_room Q X 63 [(0, (2, v0)), (1, (0, v1)), (2, (0, v2)), (3, (0, v3))] [(0, t)] ε μ := by
  refine G_run (m_in [5, 16, 25, 42, 63, 83, 87, 99]) 22 _ _ _ _ ?_
  show m_ty [(0, (2, v0)), (1, (0, v1)), (2, (0, v2)), (3, (0, v3))] [(0, t)] ε μ → ∀ v4 : Int, v4 = t → (kd ε v0 = 11) ∧ (kd ε (fn ε v0 17) = 100) ∧ ((0 : Int) ≤ v1 ∧ v1 < ln ε (fn ε v0 17)) ∧ (kd ε v0 = 11) ∧ o_X12_tells [(2, v0), (0, v1), (0, 0), (0, w32 ((μ (fn ε v0 17) v1) - 1)), (0, 0), (0, 1), (0, v4)] ε μ (fun z ε_1 μ_1 => G cd_X12_room Q X 83 [(0, (2, v0)), (1, (0, v1)), (2, (0, v2)), (3, (0, v3)), (4, (0, v4))] [] ε_1 μ_1) m_F
  intro hty
  replace h := h hty.1 (hty.2.1 _ (List.mem_of_getElem? (i := 1) rfl)) (hty.2.1 _ (List.mem_of_getElem? (i := 2) rfl)) (hty.2.1 _ (List.mem_of_getElem? (i := 3) rfl)) (hty.2.2 _ (List.mem_of_getElem? (i := 0) rfl))
  intro v4 e_v4
  replace h := h v4 e_v4
  obtain ⟨k1, h⟩ := h
  refine And.intro k1 ?_
  obtain ⟨k2, h⟩ := h
  refine And.intro k2 ?_
  obtain ⟨k3, h⟩ := h
  obtain ⟨k4, h⟩ := h
  refine And.intro (And.intro k3 k4) ?_
  refine And.intro k1 ?_
  exact h
set_option maxRecDepth 20000 in
theorem g_X12_room_42 {Q X : m_Po} {v0 v1 v2 v3 : Int} {ε : m_E} {μ : m_M} (h : TY ε μ → i32 v1 → i32 v2 → i32 v3 → ((w32 (v3 - v2)) ≤ (1 : Int) → Q v2 ε μ) ∧ ((1 : Int) < (w32 (v3 - v2)) → ∀ t : Int, t = (if v2 = (-1) then 0 else w32 (Int.tdiv (w32 (v2 + v3)) 2)) → ∀ v4 : Int, v4 = t → kd ε v0 = 11 ∧ kd ε (fn ε v0 17) = 100 ∧ (0 : Int) ≤ v1 ∧ v1 < ln ε (fn ε v0 17) ∧ o_X12_tells [(2, v0), (0, v1), (0, 0), (0, w32 ((μ (fn ε v0 17) v1) - 1)), (0, 0), (0, 1), (0, v4)] ε μ (fun z ε_1 μ_1 => G cd_X12_room Q X 83 [(0, (2, v0)), (1, (0, v1)), (2, (0, v2)), (3, (0, v3)), (4, (0, v4))] [] ε_1 μ_1) m_F)) : G cd_X12_room Q X 42 [(0, (2, v0)), (1, (0, v1)), (2, (0, v2)), (3, (0, v3))] [] ε μ := by
  refine G_run (m_in [5, 16, 25, 42, 63, 83, 87, 99]) 22 _ _ _ _ ?_
  show m_ty [(0, (2, v0)), (1, (0, v1)), (2, (0, v2)), (3, (0, v3))] [] ε μ → ((w32 (v3 - v2)) ≤ (1 : Int) → (m_ty [(2, (0, v2))] [] ε μ → Q v2 ε μ)) ∧ ((1 : Int) < (w32 (v3 - v2)) → (m_ty [(0, (2, v0)), (1, (0, v1)), (2, (0, v2)), (3, (0, v3))] [] ε μ → (v2 ≠ (-1) → (m_ty [(0, (2, v0)), (1, (0, v1)), (2, (0, v2)), (3, (0, v3))] [] ε μ → ((2 : Int) ≠ 0) ∧ G cd_X12_room Q X 63 [(0, (2, v0)), (1, (0, v1)), (2, (0, v2)), (3, (0, v3))] [(0, w32 (Int.tdiv (w32 (v2 + v3)) 2))] ε μ)) ∧ (v2 = (-1) → (m_ty [(0, (2, v0)), (1, (0, v1)), (2, (0, v2)), (3, (0, v3))] [] ε μ → G cd_X12_room Q X 63 [(0, (2, v0)), (1, (0, v1)), (2, (0, v2)), (3, (0, v3))] [(0, 0)] ε μ))))
  intro hty
  replace h := h hty.1 (hty.2.1 _ (List.mem_of_getElem? (i := 1) rfl)) (hty.2.1 _ (List.mem_of_getElem? (i := 2) rfl)) (hty.2.1 _ (List.mem_of_getElem? (i := 3) rfl))
  obtain ⟨ha, hb⟩ := h
  refine And.intro (fun c5 => ?_) (fun c5 => ?_)
  · replace h := ha c5
    clear ha hb
    intro _
    exact h
  · replace h := hb c5
    clear ha hb
    intro _
    have hj := h
    refine And.intro (fun c0 => ?_) (fun c0 => ?_)
    · intro _
      refine And.intro (by decide) ?_
      exact g_X12_room_63 (fun _ _ _ _ _ => (hj _ (((if_neg (c0)).trans rfl)).symm))
    · intro _
      exact g_X12_room_63 (fun _ _ _ _ _ => (hj _ (((if_pos c0).trans rfl)).symm))
set_option maxRecDepth 20000 in
theorem g_X12_room_25 {Q X : m_Po} {v0 v1 t t_1 : Int} {ε : m_E} {μ : m_M} (h : TY ε μ → i32 v1 → i32 t_1 → kd ε t = 11 ∧ ∀ μ_1 : m_M, μ_1 = st μ t 0 t_1 → kd ε v0 = 11 ∧ ((μ_1 v0 0) ≤ 0 → ∀ v2 : Int, v2 = (-1) → ∀ v3 : Int, v3 = 65 → G cd_X12_room Q X 42 [(0, (2, v0)), (1, (0, v1)), (2, (0, v2)), (3, (0, v3))] [] ε μ_1) ∧ (0 < (μ_1 v0 0) → Q 0 ε μ_1)) : G cd_X12_room Q X 25 [(0, (2, v0)), (1, (0, v1))] [(0, t_1), (2, t)] ε μ := by
  refine G_run (m_in [5, 16, 25, 42, 63, 83, 87, 99]) 22 _ _ _ _ ?_
  show m_ty [(0, (2, v0)), (1, (0, v1))] [(0, t_1), (2, t)] ε μ → (kd ε t = 11) ∧ ∀ μ_1 : m_M, μ_1 = st μ t 0 t_1 → (kd ε v0 = 11) ∧ ((μ_1 v0 0) ≤ 0 → (m_ty [(0, (2, v0)), (1, (0, v1))] [] ε μ_1 → ∀ v2 : Int, v2 = (-1) → ∀ v3 : Int, v3 = 65 → G cd_X12_room Q X 42 [(0, (2, v0)), (1, (0, v1)), (2, (0, v2)), (3, (0, v3))] [] ε μ_1)) ∧ (0 < (μ_1 v0 0) → (m_ty [] [] ε μ_1 → Q 0 ε μ_1))
  intro hty
  replace h := h hty.1 (hty.2.1 _ (List.mem_of_getElem? (i := 1) rfl)) (hty.2.2 _ (List.mem_of_getElem? (i := 0) rfl))
  obtain ⟨k1, h⟩ := h
  refine And.intro k1 ?_
  intro μ_1 e_μ_1
  replace h := h μ_1 e_μ_1
  obtain ⟨k2, h⟩ := h
  refine And.intro k2 ?_
  obtain ⟨ha, hb⟩ := h
  refine And.intro (fun c2 => ?_) (fun c2 => ?_)
  · replace h := ha c2
    clear ha hb
    intro _
    intro v2 e_v2
    replace h := h v2 e_v2
    intro v3 e_v3
    replace h := h v3 e_v3
    exact h
  · replace h := hb c2
    clear ha hb
    intro _
    exact h
set_option maxRecDepth 20000 in
theorem g_X12_room_16 {Q X : m_Po} {v0 v1 t t_1 : Int} {ε : m_E} {μ : m_M} (h : TY ε μ → i32 v1 → i32 t_1 → ∀ t_2 : Int, t_2 = (if t_1 = (-1) then 0 else 2) → kd ε t = 11 ∧ ∀ μ_1 : m_M, μ_1 = st μ t 0 t_2 → kd ε v0 = 11 ∧ ((μ_1 v0 0) ≤ 0 → ∀ v2 : Int, v2 = (-1) → ∀ v3 : Int, v3 = 65 → G cd_X12_room Q X 42 [(0, (2, v0)), (1, (0, v1)), (2, (0, v2)), (3, (0, v3))] [] ε μ_1) ∧ (0 < (μ_1 v0 0) → Q 0 ε μ_1)) : G cd_X12_room Q X 16 [(0, (2, v0)), (1, (0, v1))] [(0, t_1), (2, t)] ε μ := by
  refine G_run (m_in [5, 16, 25, 42, 63, 83, 87, 99]) 22 _ _ _ _ ?_
  show m_ty [(0, (2, v0)), (1, (0, v1))] [(0, t_1), (2, t)] ε μ → (t_1 = (-1) → (m_ty [(0, (2, v0)), (1, (0, v1))] [(2, t)] ε μ → G cd_X12_room Q X 25 [(0, (2, v0)), (1, (0, v1))] [(0, 0), (2, t)] ε μ)) ∧ (t_1 ≠ (-1) → (m_ty [(0, (2, v0)), (1, (0, v1))] [(2, t)] ε μ → G cd_X12_room Q X 25 [(0, (2, v0)), (1, (0, v1))] [(0, 2), (2, t)] ε μ))
  intro hty
  replace h := h hty.1 (hty.2.1 _ (List.mem_of_getElem? (i := 1) rfl)) (hty.2.2 _ (List.mem_of_getElem? (i := 0) rfl))
  have hj := h
  refine And.intro (fun c0 => ?_) (fun c0 => ?_)
  · intro _
    exact g_X12_room_25 (fun _ _ _ => (hj _ (((if_pos c0).trans rfl)).symm))
  · intro _
    exact g_X12_room_25 (fun _ _ _ => (hj _ (((if_neg (c0)).trans rfl)).symm))
set_option maxRecDepth 20000 in
theorem g_X12_room_5 {Q X : m_Po} {v0 v1 t : Int} {ε : m_E} {μ : m_M} (h : TY ε μ → i32 v1 → i32 t → (t ≠ 0 → kd ε v0 = 11 ∧ o_X12_holeOf [(2, v0), (0, v1)] ε μ (fun z ε_1 μ_1 => G cd_X12_room Q X 16 [(0, (2, v0)), (1, (0, v1))] [(0, z), (2, v0)] ε_1 μ_1) m_F) ∧ (t = 0 → Q 0 ε μ)) : G cd_X12_room Q X 5 [(0, (2, v0)), (1, (0, v1))] [(0, t)] ε μ := by
  refine G_run (m_in [5, 16, 25, 42, 63, 83, 87, 99]) 22 _ _ _ _ ?_
  show m_ty [(0, (2, v0)), (1, (0, v1))] [(0, t)] ε μ → (t ≠ 0 → (m_ty [(0, (2, v0)), (1, (0, v1))] [] ε μ → (kd ε v0 = 11) ∧ o_X12_holeOf [(2, v0), (0, v1)] ε μ (fun z ε_1 μ_1 => G cd_X12_room Q X 16 [(0, (2, v0)), (1, (0, v1))] [(0, z), (2, v0)] ε_1 μ_1) m_F)) ∧ (t = 0 → (m_ty [] [] ε μ → Q 0 ε μ))
  intro hty
  replace h := h hty.1 (hty.2.1 _ (List.mem_of_getElem? (i := 1) rfl)) (hty.2.2 _ (List.mem_of_getElem? (i := 0) rfl))
  obtain ⟨ha, hb⟩ := h
  refine And.intro (fun c1 => ?_) (fun c1 => ?_)
  · replace h := ha c1
    clear ha hb
    intro _
    obtain ⟨k1, h⟩ := h
    refine And.intro k1 ?_
    exact h
  · replace h := hb c1
    clear ha hb
    intro _
    exact h
set_option maxRecDepth 20000 in
theorem g_X12_room_0 {Q X : m_Po} {v0 v1 : Int} {ε : m_E} {μ : m_M} (h : TY ε μ → i32 v1 → kd ε v0 = 11 ∧ o_X12_isArch [(2, v0), (0, v1)] ε μ (fun z ε_1 μ_1 => G cd_X12_room Q X 5 [(0, (2, v0)), (1, (0, v1))] [(0, z)] ε_1 μ_1) m_F) : G cd_X12_room Q X 0 [(0, (2, v0)), (1, (0, v1))] [] ε μ := by
  refine G_run (m_in [5, 16, 25, 42, 63, 83, 87, 99]) 22 _ _ _ _ ?_
  show m_ty [(0, (2, v0)), (1, (0, v1))] [] ε μ → (kd ε v0 = 11) ∧ o_X12_isArch [(2, v0), (0, v1)] ε μ (fun z ε_1 μ_1 => G cd_X12_room Q X 5 [(0, (2, v0)), (1, (0, v1))] [(0, z)] ε_1 μ_1) m_F
  intro hty
  replace h := h hty.1 (hty.2.1 _ (List.mem_of_getElem? (i := 1) rfl))
  obtain ⟨k1, h⟩ := h
  refine And.intro k1 ?_
  exact h
theorem e_X12_room {Q X : m_Po} {v0 v1 : Int} {ε : m_E} {μ : m_M} (h : TY ε μ → i32 v1 → kd ε v0 = 11 ∧ o_X12_isArch [(2, v0), (0, v1)] ε μ (fun z ε_1 μ_1 => G cd_X12_room Q X 5 [(0, (2, v0)), (1, (0, v1))] [(0, z)] ε_1 μ_1) m_F) : o_X12_room [(2, v0), (0, v1)] ε μ Q X := And.intro rfl (g_X12_room_0 h)
/-! ArchYardModel.strikes(III)Z -/
set_option maxRecDepth 20000 in
theorem g_X12_strikes_14 {Q X : m_Po} {t : Int} {ε : m_E} {μ : m_M} (h : TY ε μ → i32 t → (t = 0 ∨ t = 1) ∧ Q t ε μ) : G cd_X12_strikes Q X 14 [] [(0, t)] ε μ := by
  refine G_run (m_in [10, 14]) 4 _ _ _ _ ?_
  show m_ty [] [(0, t)] ε μ → (t = 0 ∨ t = 1) ∧ Q t ε μ
  intro hty
  replace h := h hty.1 (hty.2.2 _ (List.mem_of_getElem? (i := 0) rfl))
  obtain ⟨k1, h⟩ := h
  refine And.intro k1 ?_
  exact h
set_option maxRecDepth 20000 in
theorem g_X12_strikes_10 {Q X : m_Po} {v0 : Int} {ε : m_E} {μ : m_M} (h : TY ε μ → kd ε v0 = 11 ∧ o_X12_isSafe [(2, v0)] ε μ (fun z ε_1 μ_1 => G cd_X12_strikes Q X 14 [] [(0, z)] ε_1 μ_1) m_F) : G cd_X12_strikes Q X 10 [(0, (2, v0))] [] ε μ := by
  refine G_run (m_in [10, 14]) 4 _ _ _ _ ?_
  show m_ty [(0, (2, v0))] [] ε μ → (kd ε v0 = 11) ∧ o_X12_isSafe [(2, v0)] ε μ (fun z ε_1 μ_1 => G cd_X12_strikes Q X 14 [] [(0, z)] ε_1 μ_1) m_F
  intro hty
  replace h := h hty.1 
  obtain ⟨k1, h⟩ := h
  refine And.intro k1 ?_
  exact h
set_option maxRecDepth 20000 in
theorem g_X12_strikes_0 {Q X : m_Po} {v0 v1 v2 v3 : Int} {ε : m_E} {μ : m_M} (h : TY ε μ → i32 v1 → i32 v2 → i32 v3 → kd ε v0 = 11 ∧ o_X12_tells [(2, v0), (0, v1), (0, v2), (0, v3), (0, 1), (0, 0), (0, (-1))] ε μ (fun z ε_1 μ_1 => G cd_X12_strikes Q X 10 [(0, (2, v0))] [] ε_1 μ_1) m_F) : G cd_X12_strikes Q X 0 [(0, (2, v0)), (1, (0, v1)), (2, (0, v2)), (3, (0, v3))] [] ε μ := by
  refine G_run (m_in [10, 14]) 4 _ _ _ _ ?_
  show m_ty [(0, (2, v0)), (1, (0, v1)), (2, (0, v2)), (3, (0, v3))] [] ε μ → (kd ε v0 = 11) ∧ o_X12_tells [(2, v0), (0, v1), (0, v2), (0, v3), (0, 1), (0, 0), (0, (-1))] ε μ (fun z ε_1 μ_1 => G cd_X12_strikes Q X 10 [(0, (2, v0))] [] ε_1 μ_1) m_F
  intro hty
  replace h := h hty.1 (hty.2.1 _ (List.mem_of_getElem? (i := 1) rfl)) (hty.2.1 _ (List.mem_of_getElem? (i := 2) rfl)) (hty.2.1 _ (List.mem_of_getElem? (i := 3) rfl))
  obtain ⟨k1, h⟩ := h
  refine And.intro k1 ?_
  exact h
theorem e_X12_strikes {Q X : m_Po} {v0 v1 v2 v3 : Int} {ε : m_E} {μ : m_M} (h : TY ε μ → i32 v1 → i32 v2 → i32 v3 → kd ε v0 = 11 ∧ o_X12_tells [(2, v0), (0, v1), (0, v2), (0, v3), (0, 1), (0, 0), (0, (-1))] ε μ (fun z ε_1 μ_1 => G cd_X12_strikes Q X 10 [(0, (2, v0))] [] ε_1 μ_1) m_F) : o_X12_strikes [(2, v0), (0, v1), (0, v2), (0, v3)] ε μ Q X := And.intro rfl (g_X12_strikes_0 h)
/-! ArchYardModel.strike(III)Z -/
set_option maxRecDepth 20000 in
theorem g_X12_strike_68 {Q X : m_Po} {ε : m_E} {μ : m_M} (h : TY ε μ → Q 0 ε μ) : G cd_X12_strike Q X 68 [] [] ε μ := by
  refine G_run (m_in [6, 15, 35, 44, 61, 68]) 18 _ _ _ _ ?_
  show m_ty [] [] ε μ → (m_ty [] [(0, 0)] ε μ → (0 = 0 ∨ 0 = 1) ∧ Q 0 ε μ)
  intro hty
  replace h := h hty.1 
  intro _
  refine And.intro (Or.inl rfl) ?_
  exact h
set_option maxRecDepth 20000 in
theorem g_X12_strike_61 {Q X : m_Po} {t : Int} {ε : m_E} {μ : m_M} (h : TY ε μ → i32 t → (t = 0 → G cd_X12_strike Q X 68 [] [] ε μ) ∧ (t ≠ 0 → Q 1 ε μ)) : G cd_X12_strike Q X 61 [] [(0, t)] ε μ := by
  refine G_run (m_in [6, 15, 35, 44, 61, 68]) 18 _ _ _ _ ?_
  show m_ty [] [(0, t)] ε μ → (t = 0 → G cd_X12_strike Q X 68 [] [] ε μ) ∧ (t ≠ 0 → (m_ty [] [] ε μ → (m_ty [] [(0, 1)] ε μ → (1 = 0 ∨ 1 = 1) ∧ Q 1 ε μ)))
  intro hty
  replace h := h hty.1 (hty.2.2 _ (List.mem_of_getElem? (i := 0) rfl))
  obtain ⟨ha, hb⟩ := h
  refine And.intro (fun c0 => ?_) (fun c0 => ?_)
  · replace h := ha c0
    clear ha hb
    exact h
  · replace h := hb c0
    clear ha hb
    intro _
    intro _
    refine And.intro (Or.inr rfl) ?_
    exact h
set_option maxRecDepth 20000 in
theorem g_X12_strike_44 {Q X : m_Po} {v0 v1 v2 v3 t t_1 : Int} {ε : m_E} {μ : m_M} (h : TY ε μ → i32 v1 → i32 v2 → i32 v3 → i32 t_1 → kd ε t = 11 ∧ ∀ μ_1 : m_M, μ_1 = st μ t 0 t_1 → kd ε v0 = 11 ∧ ((μ_1 v0 0) ≠ 0 → G cd_X12_strike Q X 68 [] [] ε μ_1) ∧ ((μ_1 v0 0) = 0 → o_X12_strikes [(2, v0), (0, v1), (0, v2), (0, v3)] ε μ_1 (fun z ε_1 μ_2 => G cd_X12_strike Q X 61 [] [(0, z)] ε_1 μ_2) m_F)) : G cd_X12_strike Q X 44 [(0, (2, v0)), (1, (0, v1)), (2, (0, v2)), (3, (0, v3))] [(0, t_1), (2, t)] ε μ := by
  refine G_run (m_in [6, 15, 35, 44, 61, 68]) 18 _ _ _ _ ?_
  show m_ty [(0, (2, v0)), (1, (0, v1)), (2, (0, v2)), (3, (0, v3))] [(0, t_1), (2, t)] ε μ → (kd ε t = 11) ∧ ∀ μ_1 : m_M, μ_1 = st μ t 0 t_1 → (kd ε v0 = 11) ∧ ((μ_1 v0 0) ≠ 0 → G cd_X12_strike Q X 68 [] [] ε μ_1) ∧ ((μ_1 v0 0) = 0 → (m_ty [(0, (2, v0)), (1, (0, v1)), (2, (0, v2)), (3, (0, v3))] [] ε μ_1 → (kd ε v0 = 11) ∧ o_X12_strikes [(2, v0), (0, v1), (0, v2), (0, v3)] ε μ_1 (fun z ε_1 μ_2 => G cd_X12_strike Q X 61 [] [(0, z)] ε_1 μ_2) m_F))
  intro hty
  replace h := h hty.1 (hty.2.1 _ (List.mem_of_getElem? (i := 1) rfl)) (hty.2.1 _ (List.mem_of_getElem? (i := 2) rfl)) (hty.2.1 _ (List.mem_of_getElem? (i := 3) rfl)) (hty.2.2 _ (List.mem_of_getElem? (i := 0) rfl))
  obtain ⟨k1, h⟩ := h
  refine And.intro k1 ?_
  intro μ_1 e_μ_1
  replace h := h μ_1 e_μ_1
  obtain ⟨k2, h⟩ := h
  refine And.intro k2 ?_
  obtain ⟨ha, hb⟩ := h
  refine And.intro (fun c2 => ?_) (fun c2 => ?_)
  · replace h := ha c2
    clear ha hb
    exact h
  · replace h := hb c2
    clear ha hb
    intro _
    refine And.intro k2 ?_
    exact h
set_option maxRecDepth 20000 in
theorem g_X12_strike_35 {Q X : m_Po} {v0 v1 v2 v3 t t_1 : Int} {ε : m_E} {μ : m_M} (h : TY ε μ → i32 v1 → i32 v2 → i32 v3 → i32 t_1 → ∀ t_2 : Int, t_2 = (if t_1 = (-1) then 0 else 3) → G cd_X12_strike Q X 44 [(0, (2, v0)), (1, (0, v1)), (2, (0, v2)), (3, (0, v3))] [(0, t_2), (2, t)] ε μ) : G cd_X12_strike Q X 35 [(0, (2, v0)), (1, (0, v1)), (2, (0, v2)), (3, (0, v3))] [(0, t_1), (2, t)] ε μ := by
  refine G_run (m_in [6, 15, 35, 44, 61, 68]) 18 _ _ _ _ ?_
  show m_ty [(0, (2, v0)), (1, (0, v1)), (2, (0, v2)), (3, (0, v3))] [(0, t_1), (2, t)] ε μ → (t_1 = (-1) → (m_ty [(0, (2, v0)), (1, (0, v1)), (2, (0, v2)), (3, (0, v3))] [(2, t)] ε μ → G cd_X12_strike Q X 44 [(0, (2, v0)), (1, (0, v1)), (2, (0, v2)), (3, (0, v3))] [(0, 0), (2, t)] ε μ)) ∧ (t_1 ≠ (-1) → (m_ty [(0, (2, v0)), (1, (0, v1)), (2, (0, v2)), (3, (0, v3))] [(2, t)] ε μ → G cd_X12_strike Q X 44 [(0, (2, v0)), (1, (0, v1)), (2, (0, v2)), (3, (0, v3))] [(0, 3), (2, t)] ε μ))
  intro hty
  replace h := h hty.1 (hty.2.1 _ (List.mem_of_getElem? (i := 1) rfl)) (hty.2.1 _ (List.mem_of_getElem? (i := 2) rfl)) (hty.2.1 _ (List.mem_of_getElem? (i := 3) rfl)) (hty.2.2 _ (List.mem_of_getElem? (i := 0) rfl))
  have hj := h
  refine And.intro (fun c0 => ?_) (fun c0 => ?_)
  · intro _
    exact (hj _ (((if_pos c0).trans rfl)).symm)
  · intro _
    exact (hj _ (((if_neg (c0)).trans rfl)).symm)
set_option maxRecDepth 20000 in
theorem g_X12_strike_15 {Q X : m_Po} {v0 v1 v2 v3 t : Int} {ε : m_E} {μ : m_M} (h : TY ε μ → i32 v1 → i32 v2 → i32 v3 → i32 t → (t ≠ 0 → (v2 ≤ v3 → kd ε v0 = 11 ∧ o_X12_holeOf [(2, v0), (0, v1)] ε μ (fun z ε_1 μ_1 => G cd_X12_strike Q X 35 [(0, (2, v0)), (1, (0, v1)), (2, (0, v2)), (3, (0, v3))] [(0, z), (2, v0)] ε_1 μ_1) m_F) ∧ (v3 < v2 → G cd_X12_strike Q X 44 [(0, (2, v0)), (1, (0, v1)), (2, (0, v2)), (3, (0, v3))] [(0, 2), (2, v0)] ε μ)) ∧ (t = 0 → Q 0 ε μ)) : G cd_X12_strike Q X 15 [(0, (2, v0)), (1, (0, v1)), (2, (0, v2)), (3, (0, v3))] [(0, t)] ε μ := by
  refine G_run (m_in [6, 15, 35, 44, 61, 68]) 18 _ _ _ _ ?_
  show m_ty [(0, (2, v0)), (1, (0, v1)), (2, (0, v2)), (3, (0, v3))] [(0, t)] ε μ → (t ≠ 0 → (m_ty [(0, (2, v0)), (1, (0, v1)), (2, (0, v2)), (3, (0, v3))] [] ε μ → (v2 ≤ v3 → (m_ty [(0, (2, v0)), (1, (0, v1)), (2, (0, v2)), (3, (0, v3))] [(2, v0)] ε μ → (kd ε v0 = 11) ∧ o_X12_holeOf [(2, v0), (0, v1)] ε μ (fun z ε_1 μ_1 => G cd_X12_strike Q X 35 [(0, (2, v0)), (1, (0, v1)), (2, (0, v2)), (3, (0, v3))] [(0, z), (2, v0)] ε_1 μ_1) m_F)) ∧ (v3 < v2 → (m_ty [(0, (2, v0)), (1, (0, v1)), (2, (0, v2)), (3, (0, v3))] [(2, v0)] ε μ → G cd_X12_strike Q X 44 [(0, (2, v0)), (1, (0, v1)), (2, (0, v2)), (3, (0, v3))] [(0, 2), (2, v0)] ε μ)))) ∧ (t = 0 → (m_ty [] [] ε μ → (0 = 0 ∨ 0 = 1) ∧ Q 0 ε μ))
  intro hty
  replace h := h hty.1 (hty.2.1 _ (List.mem_of_getElem? (i := 1) rfl)) (hty.2.1 _ (List.mem_of_getElem? (i := 2) rfl)) (hty.2.1 _ (List.mem_of_getElem? (i := 3) rfl)) (hty.2.2 _ (List.mem_of_getElem? (i := 0) rfl))
  obtain ⟨ha, hb⟩ := h
  refine And.intro (fun c2 => ?_) (fun c2 => ?_)
  · replace h := ha c2
    clear ha hb
    intro _
    obtain ⟨ha, hb⟩ := h
    refine And.intro (fun c1 => ?_) (fun c1 => ?_)
    · replace h := ha c1
      clear ha hb
      intro _
      obtain ⟨k1, h⟩ := h
      refine And.intro k1 ?_
      exact h
    · replace h := hb c1
      clear ha hb
      intro _
      exact h
  · replace h := hb c2
    clear ha hb
    intro _
    refine And.intro (Or.inl rfl) ?_
    exact h
set_option maxRecDepth 20000 in
theorem g_X12_strike_6 {Q X : m_Po} {v0 v1 v2 v3 t : Int} {ε : m_E} {μ : m_M} (h : TY ε μ → i32 v1 → i32 v2 → i32 v3 → i32 t → (t = 0 → Q 0 ε μ) ∧ (t ≠ 0 → kd ε v0 = 11 ∧ o_X12_isPlace [(2, v0), (0, v1), (0, v3)] ε μ (fun z ε_1 μ_1 => G cd_X12_strike Q X 15 [(0, (2, v0)), (1, (0, v1)), (2, (0, v2)), (3, (0, v3))] [(0, z)] ε_1 μ_1) m_F)) : G cd_X12_strike Q X 6 [(0, (2, v0)), (1, (0, v1)), (2, (0, v2)), (3, (0, v3))] [(0, t)] ε μ := by
  refine G_run (m_in [6, 15, 35, 44, 61, 68]) 18 _ _ _ _ ?_
  show m_ty [(0, (2, v0)), (1, (0, v1)), (2, (0, v2)), (3, (0, v3))] [(0, t)] ε μ → (t = 0 → (m_ty [] [] ε μ → (0 = 0 ∨ 0 = 1) ∧ Q 0 ε μ)) ∧ (t ≠ 0 → (m_ty [(0, (2, v0)), (1, (0, v1)), (2, (0, v2)), (3, (0, v3))] [] ε μ → (kd ε v0 = 11) ∧ o_X12_isPlace [(2, v0), (0, v1), (0, v3)] ε μ (fun z ε_1 μ_1 => G cd_X12_strike Q X 15 [(0, (2, v0)), (1, (0, v1)), (2, (0, v2)), (3, (0, v3))] [(0, z)] ε_1 μ_1) m_F))
  intro hty
  replace h := h hty.1 (hty.2.1 _ (List.mem_of_getElem? (i := 1) rfl)) (hty.2.1 _ (List.mem_of_getElem? (i := 2) rfl)) (hty.2.1 _ (List.mem_of_getElem? (i := 3) rfl)) (hty.2.2 _ (List.mem_of_getElem? (i := 0) rfl))
  obtain ⟨ha, hb⟩ := h
  refine And.intro (fun c1 => ?_) (fun c1 => ?_)
  · replace h := ha c1
    clear ha hb
    intro _
    refine And.intro (Or.inl rfl) ?_
    exact h
  · replace h := hb c1
    clear ha hb
    intro _
    obtain ⟨k1, h⟩ := h
    refine And.intro k1 ?_
    exact h
set_option maxRecDepth 20000 in
theorem g_X12_strike_0 {Q X : m_Po} {v0 v1 v2 v3 : Int} {ε : m_E} {μ : m_M} (h : TY ε μ → i32 v1 → i32 v2 → i32 v3 → kd ε v0 = 11 ∧ o_X12_isPlace [(2, v0), (0, v1), (0, v2)] ε μ (fun z ε_1 μ_1 => G cd_X12_strike Q X 6 [(0, (2, v0)), (1, (0, v1)), (2, (0, v2)), (3, (0, v3))] [(0, z)] ε_1 μ_1) m_F) : G cd_X12_strike Q X 0 [(0, (2, v0)), (1, (0, v1)), (2, (0, v2)), (3, (0, v3))] [] ε μ := by
  refine G_run (m_in [6, 15, 35, 44, 61, 68]) 18 _ _ _ _ ?_
  show m_ty [(0, (2, v0)), (1, (0, v1)), (2, (0, v2)), (3, (0, v3))] [] ε μ → (kd ε v0 = 11) ∧ o_X12_isPlace [(2, v0), (0, v1), (0, v2)] ε μ (fun z ε_1 μ_1 => G cd_X12_strike Q X 6 [(0, (2, v0)), (1, (0, v1)), (2, (0, v2)), (3, (0, v3))] [(0, z)] ε_1 μ_1) m_F
  intro hty
  replace h := h hty.1 (hty.2.1 _ (List.mem_of_getElem? (i := 1) rfl)) (hty.2.1 _ (List.mem_of_getElem? (i := 2) rfl)) (hty.2.1 _ (List.mem_of_getElem? (i := 3) rfl))
  obtain ⟨k1, h⟩ := h
  refine And.intro k1 ?_
  exact h
theorem e_X12_strike {Q X : m_Po} {v0 v1 v2 v3 : Int} {ε : m_E} {μ : m_M} (h : TY ε μ → i32 v1 → i32 v2 → i32 v3 → kd ε v0 = 11 ∧ o_X12_isPlace [(2, v0), (0, v1), (0, v2)] ε μ (fun z ε_1 μ_1 => G cd_X12_strike Q X 6 [(0, (2, v0)), (1, (0, v1)), (2, (0, v2)), (3, (0, v3))] [(0, z)] ε_1 μ_1) m_F) : o_X12_strike [(2, v0), (0, v1), (0, v2), (0, v3)] ε μ Q X := And.intro rfl (g_X12_strike_0 h)
