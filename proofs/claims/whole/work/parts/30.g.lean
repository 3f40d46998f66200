/-! ArchYard$Arch.<init>(I)V -/
set_option maxRecDepth 20000 in
theorem g_X0_init_125 {Q X : m_Po} {v0 v2 : Int} {ε : m_E} {μ : m_M} (h : TY ε μ → i32 v2 → kd ε v0 = 0 ∧ ((fn ε v0 0) ≤ v2 → Q 0 ε μ) ∧ (v2 < (fn ε v0 0) → kd ε (fn ε v0 1) = 100 ∧ (0 : Int) ≤ v2 ∧ v2 < ln ε (fn ε v0 1) ∧ ∀ μ_1 : m_M, μ_1 = st μ (fn ε v0 1) v2 (-1) → ∀ v2_1 : Int, v2_1 = w32 (v2 + 1) → G cd_X0_init Q X 125 [(0, (2, v0)), (2, (0, v2_1))] [] ε μ_1)) : G cd_X0_init Q X 125 [(0, (2, v0)), (2, (0, v2))] [] ε μ := by
  refine G_run (m_in [54, 113, 125]) 7 _ _ _ _ ?_
  show m_ty [(0, (2, v0)), (2, (0, v2))] [] ε μ → (kd ε v0 = 0) ∧ ((fn ε v0 0) ≤ v2 → (m_ty [] [] ε μ → Q 0 ε μ)) ∧ (v2 < (fn ε v0 0) → (m_ty [(0, (2, v0)), (2, (0, v2))] [] ε μ → (kd ε v0 = 0) ∧ (kd ε (fn ε v0 1) = 100) ∧ ((0 : Int) ≤ v2 ∧ v2 < ln ε (fn ε v0 1)) ∧ ∀ μ_1 : m_M, μ_1 = st μ (fn ε v0 1) v2 (-1) → ∀ v2_1 : Int, v2_1 = w32 (v2 + 1) → G cd_X0_init Q X 125 [(0, (2, v0)), (2, (0, v2_1))] [] ε μ_1))
  intro hty
  replace h := h hty.1 (hty.2.1 _ (List.mem_of_getElem? (i := 1) rfl))
  obtain ⟨k1, h⟩ := h
  refine And.intro k1 ?_
  obtain ⟨ha, hb⟩ := h
  refine And.intro (fun c4 => ?_) (fun c4 => ?_)
  · replace h := ha c4
    clear ha hb
    intro _
    exact h
  · replace h := hb c4
    clear ha hb
    intro _
    refine And.intro k1 ?_
    obtain ⟨k2, h⟩ := h
    refine And.intro k2 ?_
    obtain ⟨k3, h⟩ := h
    obtain ⟨k4, h⟩ := h
    refine And.intro (And.intro k3 k4) ?_
    intro μ_1 e_μ_1
    replace h := h μ_1 e_μ_1
    intro v2_1 e_v2_1
    replace h := h v2_1 e_v2_1
    exact h
set_option maxRecDepth 20000 in
theorem g_X0_init_113 {Q X : m_Po} {v0 : Int} {ε : m_E} {μ : m_M} (h : TY ε μ → kd ε v0 = 0 ∧ (0 : Int) ≤ fn ε v0 0 ∧ (fn ε v0 0 : Int) ≤ 10 ∧ ∀ (a : Int) (ε_1 : m_E) (μ_1 : m_M), a = nx ε → ε_1 = ealloc ε 100 (fn ε v0 0) → μ_1 = mnew μ a → kd ε_1 v0 = 0 ∧ ∀ ε_2 : m_E, ε_2 = efin ε_1 v0 10 a → ∀ v2 : Int, v2 = 0 → G cd_X0_init Q X 125 [(0, (2, v0)), (2, (0, v2))] [] ε_2 μ_1) : G cd_X0_init Q X 113 [(0, (2, v0))] [] ε μ := by
  refine G_run (m_in [54, 113, 125]) 7 _ _ _ _ ?_
  show m_ty [(0, (2, v0))] [] ε μ → (kd ε v0 = 0) ∧ ((0 : Int) ≤ fn ε v0 0 ∧ (fn ε v0 0 : Int) ≤ 10) ∧ ∀ (a : Int) (ε_1 : m_E) (μ_1 : m_M), a = nx ε → ε_1 = ealloc ε 100 (fn ε v0 0) → μ_1 = mnew μ a → (kd ε_1 v0 = 0) ∧ ∀ ε_2 : m_E, ε_2 = efin ε_1 v0 10 a → ∀ v2 : Int, v2 = 0 → G cd_X0_init Q X 125 [(0, (2, v0)), (2, (0, v2))] [] ε_2 μ_1
  intro hty
  replace h := h hty.1 
  obtain ⟨k1, h⟩ := h
  refine And.intro k1 ?_
  obtain ⟨k2, h⟩ := h
  obtain ⟨k3, h⟩ := h
  refine And.intro (And.intro k2 k3) ?_
  intro a ε_1 μ_1 e_a e_ε_1 e_μ_1
  replace h := h a ε_1 μ_1 e_a e_ε_1 e_μ_1
  obtain ⟨k4, h⟩ := h
  refine And.intro k4 ?_
  intro ε_2 e_ε_2
  replace h := h ε_2 e_ε_2
  intro v2 e_v2
  replace h := h v2 e_v2
  exact h
set_option maxRecDepth 20000 in
theorem g_X0_init_54 {Q X : m_Po} {v0 v1 t t_1 : Int} {ε : m_E} {μ : m_M} (h : TY ε μ → i32 v1 → i32 t_1 → kd ε t = 0 ∧ ∀ ε_1 : m_E, ε_1 = efin ε t 0 (if t_1 < (if v1 < 10 then v1 else 10) then (if v1 < 10 then v1 else 10) else t_1) → kd ε_1 v0 = 0 ∧ (0 : Int) ≤ fn ε_1 v0 0 ∧ (fn ε_1 v0 0 : Int) ≤ 10 ∧ ∀ (a : Int) (ε_2 : m_E) (μ_1 : m_M), a = nx ε_1 → ε_2 = ealloc ε_1 100 (fn ε_1 v0 0) → μ_1 = mnew μ a → kd ε_2 v0 = 0 ∧ ∀ ε_3 : m_E, ε_3 = efin ε_2 v0 1 a → kd ε_3 v0 = 0 ∧ (0 : Int) ≤ fn ε_3 v0 0 ∧ (fn ε_3 v0 0 : Int) ≤ 10 ∧ ∀ (a_1 : Int) (ε_4 : m_E) (μ_2 : m_M), a_1 = nx ε_3 → ε_4 = ealloc ε_3 105 (fn ε_3 v0 0) → μ_2 = mnew μ_1 a_1 → kd ε_4 v0 = 0 ∧ ∀ ε_5 : m_E, ε_5 = efin ε_4 v0 2 a_1 → kd ε_5 v0 = 0 ∧ (0 : Int) ≤ w32 (4 * (w32 ((fn ε_5 v0 0) + 1))) ∧ (w32 (4 * (w32 ((fn ε_5 v0 0) + 1))) : Int) ≤ 44 ∧ ∀ (a_2 : Int) (ε_6 : m_E) (μ_3 : m_M), a_2 = nx ε_5 → ε_6 = ealloc ε_5 100 (w32 (4 * (w32 ((fn ε_5 v0 0) + 1)))) → μ_3 = mnew μ_2 a_2 → kd ε_6 v0 = 0 ∧ ∀ ε_7 : m_E, ε_7 = efin ε_6 v0 8 a_2 → kd ε_7 v0 = 0 ∧ (0 : Int) ≤ w32 ((fn ε_7 v0 0) + 1) ∧ (w32 ((fn ε_7 v0 0) + 1) : Int) ≤ 11 ∧ ∀ (a_3 : Int) (ε_8 : m_E) (μ_4 : m_M), a_3 = nx ε_7 → ε_8 = ealloc ε_7 103 (w32 ((fn ε_7 v0 0) + 1)) → μ_4 = mnew μ_3 a_3 → kd ε_8 v0 = 0 ∧ ∀ ε_9 : m_E, ε_9 = efin ε_8 v0 9 a_3 → kd ε_9 v0 = 0 ∧ (0 : Int) ≤ fn ε_9 v0 0 ∧ (fn ε_9 v0 0 : Int) ≤ 10 ∧ ∀ (a_4 : Int) (ε_10 : m_E) (μ_5 : m_M), a_4 = nx ε_9 → ε_10 = ealloc ε_9 100 (fn ε_9 v0 0) → μ_5 = mnew μ_4 a_4 → kd ε_10 v0 = 0 ∧ ∀ ε_11 : m_E, ε_11 = efin ε_10 v0 10 a_4 → ∀ v2 : Int, v2 = 0 → G cd_X0_init Q X 125 [(0, (2, v0)), (2, (0, v2))] [] ε_11 μ_5) : G cd_X0_init Q X 54 [(0, (2, v0)), (1, (0, v1))] [(0, t_1), (2, t)] ε μ := by
  refine G_run (m_in [54, 113, 125]) 7 _ _ _ _ ?_
  show m_ty [(0, (2, v0)), (1, (0, v1))] [(0, t_1), (2, t)] ε μ → (kd ε t = 0) ∧ ∀ ε_1 : m_E, ε_1 = efin ε t 0 (if t_1 < (if v1 < 10 then v1 else 10) then (if v1 < 10 then v1 else 10) else t_1) → (kd ε_1 v0 = 0) ∧ ((0 : Int) ≤ fn ε_1 v0 0 ∧ (fn ε_1 v0 0 : Int) ≤ 10) ∧ ∀ (a : Int) (ε_2 : m_E) (μ_1 : m_M), a = nx ε_1 → ε_2 = ealloc ε_1 100 (fn ε_1 v0 0) → μ_1 = mnew μ a → (kd ε_2 v0 = 0) ∧ ∀ ε_3 : m_E, ε_3 = efin ε_2 v0 1 a → (kd ε_3 v0 = 0) ∧ ((0 : Int) ≤ fn ε_3 v0 0 ∧ (fn ε_3 v0 0 : Int) ≤ 10) ∧ ∀ (a_1 : Int) (ε_4 : m_E) (μ_2 : m_M), a_1 = nx ε_3 → ε_4 = ealloc ε_3 105 (fn ε_3 v0 0) → μ_2 = mnew μ_1 a_1 → (kd ε_4 v0 = 0) ∧ ∀ ε_5 : m_E, ε_5 = efin ε_4 v0 2 a_1 → (kd ε_5 v0 = 0) ∧ ((0 : Int) ≤ w32 (4 * (w32 ((fn ε_5 v0 0) + 1))) ∧ (w32 (4 * (w32 ((fn ε_5 v0 0) + 1))) : Int) ≤ 44) ∧ ∀ (a_2 : Int) (ε_6 : m_E) (μ_3 : m_M), a_2 = nx ε_5 → ε_6 = ealloc ε_5 100 (w32 (4 * (w32 ((fn ε_5 v0 0) + 1)))) → μ_3 = mnew μ_2 a_2 → (kd ε_6 v0 = 0) ∧ ∀ ε_7 : m_E, ε_7 = efin ε_6 v0 8 a_2 → (kd ε_7 v0 = 0) ∧ ((0 : Int) ≤ w32 ((fn ε_7 v0 0) + 1) ∧ (w32 ((fn ε_7 v0 0) + 1) : Int) ≤ 11) ∧ ∀ (a_3 : Int) (ε_8 : m_E) (μ_4 : m_M), a_3 = nx ε_7 → ε_8 = ealloc ε_7 103 (w32 ((fn ε_7 v0 0) + 1)) → μ_4 = mnew μ_3 a_3 → (kd ε_8 v0 = 0) ∧ ∀ ε_9 : m_E, ε_9 = efin ε_8 v0 9 a_3 → G cd_X0_init Q X 113 [(0, (2, v0))] [] ε_9 μ_4
  intro hty
  replace h := h hty.1 (hty.2.1 _ (List.mem_of_getElem? (i := 1) rfl)) (hty.2.2 _ (List.mem_of_getElem? (i := 0) rfl))
  obtain ⟨k1, h⟩ := h
  refine And.intro k1 ?_
  intro ε_1 e_ε_1
  replace h := h ε_1 e_ε_1
  obtain ⟨k2, h⟩ := h
  refine And.intro k2 ?_
  obtain ⟨k3, h⟩ := h
  obtain ⟨k4, h⟩ := h
  refine And.intro (And.intro k3 k4) ?_
  intro a ε_2 μ_1 e_a e_ε_2 e_μ_1
  replace h := h a ε_2 μ_1 e_a e_ε_2 e_μ_1
  obtain ⟨k5, h⟩ := h
  refine And.intro k5 ?_
  intro ε_3 e_ε_3
  replace h := h ε_3 e_ε_3
  obtain ⟨k6, h⟩ := h
  refine And.intro k6 ?_
  obtain ⟨k7, h⟩ := h
  obtain ⟨k8, h⟩ := h
  refine And.intro (And.intro k7 k8) ?_
  intro a_1 ε_4 μ_2 e_a_1 e_ε_4 e_μ_2
  replace h := h a_1 ε_4 μ_2 e_a_1 e_ε_4 e_μ_2
  obtain ⟨k9, h⟩ := h
  refine And.intro k9 ?_
  intro ε_5 e_ε_5
  replace h := h ε_5 e_ε_5
  obtain ⟨k10, h⟩ := h
  refine And.intro k10 ?_
  obtain ⟨k11, h⟩ := h
  obtain ⟨k12, h⟩ := h
  refine And.intro (And.intro k11 k12) ?_
  intro a_2 ε_6 μ_3 e_a_2 e_ε_6 e_μ_3
  replace h := h a_2 ε_6 μ_3 e_a_2 e_ε_6 e_μ_3
  obtain ⟨k13, h⟩ := h
  refine And.intro k13 ?_
  intro ε_7 e_ε_7
  replace h := h ε_7 e_ε_7
  obtain ⟨k14, h⟩ := h
  refine And.intro k14 ?_
  obtain ⟨k15, h⟩ := h
  obtain ⟨k16, h⟩ := h
  refine And.intro (And.intro k15 k16) ?_
  intro a_3 ε_8 μ_4 e_a_3 e_ε_8 e_μ_4
  replace h := h a_3 ε_8 μ_4 e_a_3 e_ε_8 e_μ_4
  obtain ⟨k17, h⟩ := h
  refine And.intro k17 ?_
  intro ε_9 e_ε_9
  replace h := h ε_9 e_ε_9
  exact g_X0_init_113 (fun _ => h)
set_option maxRecDepth 20000 in
theorem g_X0_init_0 {Q X : m_Po} {v0 v1 : Int} {ε : m_E} {μ : m_M} (h : TY ε μ → i32 v1 → 0 < v0 ∧ ∀ (a : Int) (ε_1 : m_E) (μ_1 : m_M), a = nx ε → ε_1 = ealloc ε 100 4 → μ_1 = mnew μ a → kd ε_1 v0 = 0 ∧ ∀ ε_2 : m_E, ε_2 = efin ε_1 v0 3 a → ∀ (a_1 : Int) (ε_3 : m_E) (μ_2 : m_M), a_1 = nx ε_2 → ε_3 = ealloc ε_2 100 4 → μ_2 = mnew μ_1 a_1 → kd ε_3 v0 = 0 ∧ ∀ ε_4 : m_E, ε_4 = efin ε_3 v0 4 a_1 → ∀ (a_2 : Int) (ε_5 : m_E) (μ_3 : m_M), a_2 = nx ε_4 → ε_5 = ealloc ε_4 100 6 → μ_3 = mnew μ_2 a_2 → kd ε_5 v0 = 0 ∧ ∀ ε_6 : m_E, ε_6 = efin ε_5 v0 5 a_2 → ∀ (a_3 : Int) (ε_7 : m_E) (μ_4 : m_M), a_3 = nx ε_6 → ε_7 = ealloc ε_6 100 6 → μ_4 = mnew μ_3 a_3 → kd ε_7 v0 = 0 ∧ ∀ ε_8 : m_E, ε_8 = efin ε_7 v0 6 a_3 → ∀ (a_4 : Int) (ε_9 : m_E) (μ_5 : m_M), a_4 = nx ε_8 → ε_9 = ealloc ε_8 100 6 → μ_5 = mnew μ_4 a_4 → kd ε_9 v0 = 0 ∧ ∀ ε_10 : m_E, ε_10 = efin ε_9 v0 7 a_4 → kd ε_10 v0 = 0 ∧ ∀ μ_6 : m_M, μ_6 = st μ_5 v0 14 1 → ∀ μ_7 : m_M, μ_7 = st μ_6 v0 15 2 → kd ε_10 v0 = 0 ∧ ∀ ε_11 : m_E, ε_11 = efin ε_10 v0 0 (if 1 < (if v1 < 10 then v1 else 10) then (if v1 < 10 then v1 else 10) else 1) → kd ε_11 v0 = 0 ∧ (0 : Int) ≤ fn ε_11 v0 0 ∧ (fn ε_11 v0 0 : Int) ≤ 10 ∧ ∀ (a_5 : Int) (ε_12 : m_E) (μ_8 : m_M), a_5 = nx ε_11 → ε_12 = ealloc ε_11 100 (fn ε_11 v0 0) → μ_8 = mnew μ_7 a_5 → kd ε_12 v0 = 0 ∧ ∀ ε_13 : m_E, ε_13 = efin ε_12 v0 1 a_5 → kd ε_13 v0 = 0 ∧ (0 : Int) ≤ fn ε_13 v0 0 ∧ (fn ε_13 v0 0 : Int) ≤ 10 ∧ ∀ (a_6 : Int) (ε_14 : m_E) (μ_9 : m_M), a_6 = nx ε_13 → ε_14 = ealloc ε_13 105 (fn ε_13 v0 0) → μ_9 = mnew μ_8 a_6 → kd ε_14 v0 = 0 ∧ ∀ ε_15 : m_E, ε_15 = efin ε_14 v0 2 a_6 → kd ε_15 v0 = 0 ∧ (0 : Int) ≤ w32 (4 * (w32 ((fn ε_15 v0 0) + 1))) ∧ (w32 (4 * (w32 ((fn ε_15 v0 0) + 1))) : Int) ≤ 44 ∧ ∀ (a_7 : Int) (ε_16 : m_E) (μ_10 : m_M), a_7 = nx ε_15 → ε_16 = ealloc ε_15 100 (w32 (4 * (w32 ((fn ε_15 v0 0) + 1)))) → μ_10 = mnew μ_9 a_7 → kd ε_16 v0 = 0 ∧ ∀ ε_17 : m_E, ε_17 = efin ε_16 v0 8 a_7 → kd ε_17 v0 = 0 ∧ (0 : Int) ≤ w32 ((fn ε_17 v0 0) + 1) ∧ (w32 ((fn ε_17 v0 0) + 1) : Int) ≤ 11 ∧ ∀ (a_8 : Int) (ε_18 : m_E) (μ_11 : m_M), a_8 = nx ε_17 → ε_18 = ealloc ε_17 103 (w32 ((fn ε_17 v0 0) + 1)) → μ_11 = mnew μ_10 a_8 → kd ε_18 v0 = 0 ∧ ∀ ε_19 : m_E, ε_19 = efin ε_18 v0 9 a_8 → kd ε_19 v0 = 0 ∧ (0 : Int) ≤ fn ε_19 v0 0 ∧ (fn ε_19 v0 0 : Int) ≤ 10 ∧ ∀ (a_9 : Int) (ε_20 : m_E) (μ_12 : m_M), a_9 = nx ε_19 → ε_20 = ealloc ε_19 100 (fn ε_19 v0 0) → μ_12 = mnew μ_11 a_9 → kd ε_20 v0 = 0 ∧ ∀ ε_21 : m_E, ε_21 = efin ε_20 v0 10 a_9 → ∀ v2 : Int, v2 = 0 → G cd_X0_init Q X 125 [(0, (2, v0)), (2, (0, v2))] [] ε_21 μ_12) : G cd_X0_init Q X 0 [(0, (2, v0)), (1, (0, v1))] [] ε μ := by
  refine G_run (m_in [54, 113, 125]) 7 _ _ _ _ ?_
  show m_ty [(0, (2, v0)), (1, (0, v1))] [] ε μ → (0 < v0) ∧ m_cs [] ≤ 8 ∧ ((0 : Int) ≤ 4 ∧ (4 : Int) ≤ 4) ∧ ∀ (a : Int) (ε_1 : m_E) (μ_1 : m_M), a = nx ε → ε_1 = ealloc ε 100 4 → μ_1 = mnew μ a → (kd ε_1 v0 = 0) ∧ ∀ ε_2 : m_E, ε_2 = efin ε_1 v0 3 a → ((0 : Int) ≤ 4 ∧ (4 : Int) ≤ 4) ∧ ∀ (a_1 : Int) (ε_3 : m_E) (μ_2 : m_M), a_1 = nx ε_2 → ε_3 = ealloc ε_2 100 4 → μ_2 = mnew μ_1 a_1 → (kd ε_3 v0 = 0) ∧ ∀ ε_4 : m_E, ε_4 = efin ε_3 v0 4 a_1 → ((0 : Int) ≤ 6 ∧ (6 : Int) ≤ 6) ∧ ∀ (a_2 : Int) (ε_5 : m_E) (μ_3 : m_M), a_2 = nx ε_4 → ε_5 = ealloc ε_4 100 6 → μ_3 = mnew μ_2 a_2 → (kd ε_5 v0 = 0) ∧ ∀ ε_6 : m_E, ε_6 = efin ε_5 v0 5 a_2 → ((0 : Int) ≤ 6 ∧ (6 : Int) ≤ 6) ∧ ∀ (a_3 : Int) (ε_7 : m_E) (μ_4 : m_M), a_3 = nx ε_6 → ε_7 = ealloc ε_6 100 6 → μ_4 = mnew μ_3 a_3 → (kd ε_7 v0 = 0) ∧ ∀ ε_8 : m_E, ε_8 = efin ε_7 v0 6 a_3 → ((0 : Int) ≤ 6 ∧ (6 : Int) ≤ 6) ∧ ∀ (a_4 : Int) (ε_9 : m_E) (μ_5 : m_M), a_4 = nx ε_8 → ε_9 = ealloc ε_8 100 6 → μ_5 = mnew μ_4 a_4 → (kd ε_9 v0 = 0) ∧ ∀ ε_10 : m_E, ε_10 = efin ε_9 v0 7 a_4 → (kd ε_10 v0 = 0) ∧ ∀ μ_6 : m_M, μ_6 = st μ_5 v0 14 1 → (kd ε_10 v0 = 0) ∧ ∀ μ_7 : m_M, μ_7 = st μ_6 v0 15 2 → G cd_X0_init Q X 54 [(0, (2, v0)), (1, (0, v1))] [(0, 1), (2, v0)] ε_10 μ_7
  intro hty
  replace h := h hty.1 (hty.2.1 _ (List.mem_of_getElem? (i := 1) rfl))
  obtain ⟨k1, h⟩ := h
  refine And.intro k1 ?_
  refine And.intro (Nat.le_of_ble_eq_true rfl) ?_
  refine And.intro (And.intro (by decide) (by decide)) ?_
  intro a ε_1 μ_1 e_a e_ε_1 e_μ_1
  replace h := h a ε_1 μ_1 e_a e_ε_1 e_μ_1
  obtain ⟨k2, h⟩ := h
  refine And.intro k2 ?_
  intro ε_2 e_ε_2
  replace h := h ε_2 e_ε_2
  refine And.intro (And.intro (by decide) (by decide)) ?_
  intro a_1 ε_3 μ_2 e_a_1 e_ε_3 e_μ_2
  replace h := h a_1 ε_3 μ_2 e_a_1 e_ε_3 e_μ_2
  obtain ⟨k3, h⟩ := h
  refine And.intro k3 ?_
  intro ε_4 e_ε_4
  replace h := h ε_4 e_ε_4
  refine And.intro (And.intro (by decide) (by decide)) ?_
  intro a_2 ε_5 μ_3 e_a_2 e_ε_5 e_μ_3
  replace h := h a_2 ε_5 μ_3 e_a_2 e_ε_5 e_μ_3
  obtain ⟨k4, h⟩ := h
  refine And.intro k4 ?_
  intro ε_6 e_ε_6
  replace h := h ε_6 e_ε_6
  refine And.intro (And.intro (by decide) (by decide)) ?_
  intro a_3 ε_7 μ_4 e_a_3 e_ε_7 e_μ_4
  replace h := h a_3 ε_7 μ_4 e_a_3 e_ε_7 e_μ_4
  obtain ⟨k5, h⟩ := h
  refine And.intro k5 ?_
  intro ε_8 e_ε_8
  replace h := h ε_8 e_ε_8
  refine And.intro (And.intro (by decide) (by decide)) ?_
  intro a_4 ε_9 μ_5 e_a_4 e_ε_9 e_μ_5
  replace h := h a_4 ε_9 μ_5 e_a_4 e_ε_9 e_μ_5
  obtain ⟨k6, h⟩ := h
  refine And.intro k6 ?_
  intro ε_10 e_ε_10
  replace h := h ε_10 e_ε_10
  obtain ⟨k7, h⟩ := h
  refine And.intro k7 ?_
  intro μ_6 e_μ_6
  replace h := h μ_6 e_μ_6
  refine And.intro k7 ?_
  intro μ_7 e_μ_7
  replace h := h μ_7 e_μ_7
  exact g_X0_init_54 (fun _ _ _ => h)
theorem e_X0_init {Q X : m_Po} {v0 v1 : Int} {ε : m_E} {μ : m_M} (h : TY ε μ → i32 v1 → 0 < v0 ∧ ∀ (a : Int) (ε_1 : m_E) (μ_1 : m_M), a = nx ε → ε_1 = ealloc ε 100 4 → μ_1 = mnew μ a → kd ε_1 v0 = 0 ∧ ∀ ε_2 : m_E, ε_2 = efin ε_1 v0 3 a → ∀ (a_1 : Int) (ε_3 : m_E) (μ_2 : m_M), a_1 = nx ε_2 → ε_3 = ealloc ε_2 100 4 → μ_2 = mnew μ_1 a_1 → kd ε_3 v0 = 0 ∧ ∀ ε_4 : m_E, ε_4 = efin ε_3 v0 4 a_1 → ∀ (a_2 : Int) (ε_5 : m_E) (μ_3 : m_M), a_2 = nx ε_4 → ε_5 = ealloc ε_4 100 6 → μ_3 = mnew μ_2 a_2 → kd ε_5 v0 = 0 ∧ ∀ ε_6 : m_E, ε_6 = efin ε_5 v0 5 a_2 → ∀ (a_3 : Int) (ε_7 : m_E) (μ_4 : m_M), a_3 = nx ε_6 → ε_7 = ealloc ε_6 100 6 → μ_4 = mnew μ_3 a_3 → kd ε_7 v0 = 0 ∧ ∀ ε_8 : m_E, ε_8 = efin ε_7 v0 6 a_3 → ∀ (a_4 : Int) (ε_9 : m_E) (μ_5 : m_M), a_4 = nx ε_8 → ε_9 = ealloc ε_8 100 6 → μ_5 = mnew μ_4 a_4 → kd ε_9 v0 = 0 ∧ ∀ ε_10 : m_E, ε_10 = efin ε_9 v0 7 a_4 → kd ε_10 v0 = 0 ∧ ∀ μ_6 : m_M, μ_6 = st μ_5 v0 14 1 → ∀ μ_7 : m_M, μ_7 = st μ_6 v0 15 2 → kd ε_10 v0 = 0 ∧ ∀ ε_11 : m_E, ε_11 = efin ε_10 v0 0 (if 1 < (if v1 < 10 then v1 else 10) then (if v1 < 10 then v1 else 10) else 1) → kd ε_11 v0 = 0 ∧ (0 : Int) ≤ fn ε_11 v0 0 ∧ (fn ε_11 v0 0 : Int) ≤ 10 ∧ ∀ (a_5 : Int) (ε_12 : m_E) (μ_8 : m_M), a_5 = nx ε_11 → ε_12 = ealloc ε_11 100 (fn ε_11 v0 0) → μ_8 = mnew μ_7 a_5 → kd ε_12 v0 = 0 ∧ ∀ ε_13 : m_E, ε_13 = efin ε_12 v0 1 a_5 → kd ε_13 v0 = 0 ∧ (0 : Int) ≤ fn ε_13 v0 0 ∧ (fn ε_13 v0 0 : Int) ≤ 10 ∧ ∀ (a_6 : Int) (ε_14 : m_E) (μ_9 : m_M), a_6 = nx ε_13 → ε_14 = ealloc ε_13 105 (fn ε_13 v0 0) → μ_9 = mnew μ_8 a_6 → kd ε_14 v0 = 0 ∧ ∀ ε_15 : m_E, ε_15 = efin ε_14 v0 2 a_6 → kd ε_15 v0 = 0 ∧ (0 : Int) ≤ w32 (4 * (w32 ((fn ε_15 v0 0) + 1))) ∧ (w32 (4 * (w32 ((fn ε_15 v0 0) + 1))) : Int) ≤ 44 ∧ ∀ (a_7 : Int) (ε_16 : m_E) (μ_10 : m_M), a_7 = nx ε_15 → ε_16 = ealloc ε_15 100 (w32 (4 * (w32 ((fn ε_15 v0 0) + 1)))) → μ_10 = mnew μ_9 a_7 → kd ε_16 v0 = 0 ∧ ∀ ε_17 : m_E, ε_17 = efin ε_16 v0 8 a_7 → kd ε_17 v0 = 0 ∧ (0 : Int) ≤ w32 ((fn ε_17 v0 0) + 1) ∧ (w32 ((fn ε_17 v0 0) + 1) : Int) ≤ 11 ∧ ∀ (a_8 : Int) (ε_18 : m_E) (μ_11 : m_M), a_8 = nx ε_17 → ε_18 = ealloc ε_17 103 (w32 ((fn ε_17 v0 0) + 1)) → μ_11 = mnew μ_10 a_8 → kd ε_18 v0 = 0 ∧ ∀ ε_19 : m_E, ε_19 = efin ε_18 v0 9 a_8 → kd ε_19 v0 = 0 ∧ (0 : Int) ≤ fn ε_19 v0 0 ∧ (fn ε_19 v0 0 : Int) ≤ 10 ∧ ∀ (a_9 : Int) (ε_20 : m_E) (μ_12 : m_M), a_9 = nx ε_19 → ε_20 = ealloc ε_19 100 (fn ε_19 v0 0) → μ_12 = mnew μ_11 a_9 → kd ε_20 v0 = 0 ∧ ∀ ε_21 : m_E, ε_21 = efin ε_20 v0 10 a_9 → ∀ v2 : Int, v2 = 0 → G cd_X0_init Q X 125 [(0, (2, v0)), (2, (0, v2))] [] ε_21 μ_12) : o_X0_init [(2, v0), (0, v1)] ε μ Q X := And.intro rfl (g_X0_init_0 h)
/-! ArchYard$Arch.hasPlace(I)Z -/
set_option maxRecDepth 20000 in
theorem g_X0_hasPlace_17 {Q X : m_Po} {t : Int} {ε : m_E} {μ : m_M} (h : TY ε μ → i32 t → (t = 0 ∨ t = 1) ∧ Q t ε μ) : G cd_X0_hasPlace Q X 17 [] [(0, t)] ε μ := by
  refine G_run (m_in [17]) 6 _ _ _ _ ?_
  show m_ty [] [(0, t)] ε μ → (t = 0 ∨ t = 1) ∧ Q t ε μ
  intro hty
  replace h := h hty.1 (hty.2.2 _ (List.mem_of_getElem? (i := 0) rfl))
  obtain ⟨k1, h⟩ := h
  refine And.intro k1 ?_
  exact h
set_option maxRecDepth 20000 in
theorem g_X0_hasPlace_0 {Q X : m_Po} {v0 v1 : Int} {ε : m_E} {μ : m_M} (h : TY ε μ → i32 v1 → ((0 ≤ v1 → kd ε v0 = 0)) ∧ ∀ t : Int, t = (if v1 < 0 then 0 else if (fn ε v0 0) ≤ v1 then 0 else 1) → Q t ε μ) : G cd_X0_hasPlace Q X 0 [(0, (2, v0)), (1, (0, v1))] [] ε μ := by
  refine G_run (m_in [17]) 6 _ _ _ _ ?_
  show m_ty [(0, (2, v0)), (1, (0, v1))] [] ε μ → (v1 < 0 → (m_ty [] [] ε μ → G cd_X0_hasPlace Q X 17 [] [(0, 0)] ε μ)) ∧ (0 ≤ v1 → (m_ty [(0, (2, v0)), (1, (0, v1))] [] ε μ → (kd ε v0 = 0) ∧ ((fn ε v0 0) ≤ v1 → (m_ty [] [] ε μ → G cd_X0_hasPlace Q X 17 [] [(0, 0)] ε μ)) ∧ (v1 < (fn ε v0 0) → (m_ty [] [] ε μ → G cd_X0_hasPlace Q X 17 [] [(0, 1)] ε μ))))
  intro hty
  replace h := h hty.1 (hty.2.1 _ (List.mem_of_getElem? (i := 1) rfl))
  obtain ⟨hc, hj⟩ := h
  refine And.intro (fun c0 => ?_) (fun c0 => ?_)
  · intro _
    exact g_X0_hasPlace_17 (fun _ _ => (And.intro (Or.inl rfl) (hj _ (((if_pos c0).trans rfl)).symm)))
  · replace hc := hc c0
    intro _
    have k2 := hc
    refine And.intro k2 ?_
    refine And.intro (fun c2 => ?_) (fun c2 => ?_)
    · intro _
      exact g_X0_hasPlace_17 (fun _ _ => (And.intro (Or.inl rfl) (hj _ (((if_neg (Int.not_lt.mpr c0)).trans ((if_pos c2).trans rfl))).symm)))
    · intro _
      exact g_X0_hasPlace_17 (fun _ _ => (And.intro (Or.inr rfl) (hj _ (((if_neg (Int.not_lt.mpr c0)).trans ((if_neg (Int.not_le.mpr c2)).trans rfl))).symm)))
theorem e_X0_hasPlace {Q X : m_Po} {v0 v1 : Int} {ε : m_E} {μ : m_M} (h : TY ε μ → i32 v1 → ((0 ≤ v1 → kd ε v0 = 0)) ∧ ∀ t : Int, t = (if v1 < 0 then 0 else if (fn ε v0 0) ≤ v1 then 0 else 1) → Q t ε μ) : o_X0_hasPlace [(2, v0), (0, v1)] ε μ Q X := And.intro rfl (g_X0_hasPlace_0 h)
/-! ArchYard$Arch.standing(I)I -/
set_option maxRecDepth 20000 in
theorem g_X0_standing_18 {Q X : m_Po} {t : Int} {ε : m_E} {μ : m_M} (h : TY ε μ → i32 t → Q t ε μ) : G cd_X0_standing Q X 18 [] [(0, t)] ε μ := by
  refine G_run (m_in [5, 18]) 6 _ _ _ _ ?_
  show m_ty [] [(0, t)] ε μ → Q t ε μ
  intro hty
  replace h := h hty.1 (hty.2.2 _ (List.mem_of_getElem? (i := 0) rfl))
  exact h
set_option maxRecDepth 20000 in
theorem g_X0_standing_5 {Q X : m_Po} {v0 v1 t : Int} {ε : m_E} {μ : m_M} (h : TY ε μ → i32 v1 → i32 t → ((t ≠ 0 → kd ε v0 = 0 ∧ kd ε (fn ε v0 1) = 100 ∧ (0 : Int) ≤ v1 ∧ v1 < ln ε (fn ε v0 1))) ∧ ∀ t_1 : Int, t_1 = (if t = 0 then (-1) else μ (fn ε v0 1) v1) → Q t_1 ε μ) : G cd_X0_standing Q X 5 [(0, (2, v0)), (1, (0, v1))] [(0, t)] ε μ := by
  refine G_run (m_in [5, 18]) 6 _ _ _ _ ?_
  show m_ty [(0, (2, v0)), (1, (0, v1))] [(0, t)] ε μ → (t = 0 → (m_ty [] [] ε μ → G cd_X0_standing Q X 18 [] [(0, (-1))] ε μ)) ∧ (t ≠ 0 → (m_ty [(0, (2, v0)), (1, (0, v1))] [] ε μ → (kd ε v0 = 0) ∧ (kd ε (fn ε v0 1) = 100) ∧ ((0 : Int) ≤ v1 ∧ v1 < ln ε (fn ε v0 1)) ∧ G cd_X0_standing Q X 18 [] [(0, μ (fn ε v0 1) v1)] ε μ))
  intro hty
  replace h := h hty.1 (hty.2.1 _ (List.mem_of_getElem? (i := 1) rfl)) (hty.2.2 _ (List.mem_of_getElem? (i := 0) rfl))
  obtain ⟨hc, hj⟩ := h
  refine And.intro (fun c0 => ?_) (fun c0 => ?_)
  · intro _
    exact g_X0_standing_18 (fun _ _ => (hj _ (((if_pos c0).trans rfl)).symm))
  · replace hc := hc c0
    intro _
    obtain ⟨k2, k3, k4, k5⟩ := hc
    refine And.intro k2 ?_
    refine And.intro k3 ?_
    refine And.intro (And.intro k4 k5) ?_
    exact g_X0_standing_18 (fun _ _ => (hj _ (((if_neg (c0)).trans rfl)).symm))
set_option maxRecDepth 20000 in
theorem g_X0_standing_0 {Q X : m_Po} {v0 v1 : Int} {ε : m_E} {μ : m_M} (h : TY ε μ → i32 v1 → kd ε v0 = 0 ∧ o_X0_hasPlace [(2, v0), (0, v1)] ε μ (fun z ε_1 μ_1 => G cd_X0_standing Q X 5 [(0, (2, v0)), (1, (0, v1))] [(0, z)] ε_1 μ_1) m_F) : G cd_X0_standing Q X 0 [(0, (2, v0)), (1, (0, v1))] [] ε μ := by
  refine G_run (m_in [5, 18]) 6 _ _ _ _ ?_
  show m_ty [(0, (2, v0)), (1, (0, v1))] [] ε μ → (kd ε v0 = 0) ∧ o_X0_hasPlace [(2, v0), (0, v1)] ε μ (fun z ε_1 μ_1 => G cd_X0_standing Q X 5 [(0, (2, v0)), (1, (0, v1))] [(0, z)] ε_1 μ_1) m_F
  intro hty
  replace h := h hty.1 (hty.2.1 _ (List.mem_of_getElem? (i := 1) rfl))
  obtain ⟨k1, h⟩ := h
  refine And.intro k1 ?_
  exact h
theorem e_X0_standing {Q X : m_Po} {v0 v1 : Int} {ε : m_E} {μ : m_M} (h : TY ε μ → i32 v1 → kd ε v0 = 0 ∧ o_X0_hasPlace [(2, v0), (0, v1)] ε μ (fun z ε_1 μ_1 => G cd_X0_standing Q X 5 [(0, (2, v0)), (1, (0, v1))] [(0, z)] ε_1 μ_1) m_F) : o_X0_standing [(2, v0), (0, v1)] ε μ Q X := And.intro rfl (g_X0_standing_0 h)
/-! ArchYard$Arch.blockAt(I)LArchYard$Stone; -/
set_option maxRecDepth 20000 in
theorem g_X0_blockAt_22 {Q X : m_Po} {t : Int} {ε : m_E} {μ : m_M} (h : TY ε μ → Q t ε μ) : G cd_X0_blockAt Q X 22 [] [(2, t)] ε μ := by
  refine G_run (m_in [22]) 6 _ _ _ _ ?_
  show m_ty [] [(2, t)] ε μ → Q t ε μ
  intro hty
  replace h := h hty.1 
  exact h
set_option maxRecDepth 20000 in
theorem g_X0_blockAt_0 {Q X : m_Po} {v0 v1 : Int} {ε : m_E} {μ : m_M} (h : TY ε μ → i32 v1 → ((0 ≤ v1 → kd ε v0 = 0 ∧ (v1 < (fn ε v0 0) → kd ε (fn ε v0 2) = 105 ∧ (0 : Int) ≤ v1 ∧ v1 < ln ε (fn ε v0 2)))) ∧ ∀ t : Int, t = (if v1 < 0 then 0 else if (fn ε v0 0) ≤ v1 then 0 else μ (fn ε v0 2) v1) → Q t ε μ) : G cd_X0_blockAt Q X 0 [(0, (2, v0)), (1, (0, v1))] [] ε μ := by
  refine G_run (m_in [22]) 6 _ _ _ _ ?_
  show m_ty [(0, (2, v0)), (1, (0, v1))] [] ε μ → (v1 < 0 → (m_ty [] [] ε μ → G cd_X0_blockAt Q X 22 [] [(2, 0)] ε μ)) ∧ (0 ≤ v1 → (m_ty [(0, (2, v0)), (1, (0, v1))] [] ε μ → (kd ε v0 = 0) ∧ ((fn ε v0 0) ≤ v1 → (m_ty [] [] ε μ → G cd_X0_blockAt Q X 22 [] [(2, 0)] ε μ)) ∧ (v1 < (fn ε v0 0) → (m_ty [(0, (2, v0)), (1, (0, v1))] [] ε μ → (kd ε v0 = 0) ∧ (kd ε (fn ε v0 2) = 105) ∧ ((0 : Int) ≤ v1 ∧ v1 < ln ε (fn ε v0 2)) ∧ G cd_X0_blockAt Q X 22 [] [(2, μ (fn ε v0 2) v1)] ε μ))))
  intro hty
  replace h := h hty.1 (hty.2.1 _ (List.mem_of_getElem? (i := 1) rfl))
  obtain ⟨hc, hj⟩ := h
  refine And.intro (fun c0 => ?_) (fun c0 => ?_)
  · intro _
    exact g_X0_blockAt_22 (fun _ => (hj _ (((if_pos c0).trans rfl)).symm))
  · replace hc := hc c0
    intro _
    obtain ⟨k2, k7⟩ := hc
    refine And.intro k2 ?_
    refine And.intro (fun c2 => ?_) (fun c2 => ?_)
    · intro _
      exact g_X0_blockAt_22 (fun _ => (hj _ (((if_neg (Int.not_lt.mpr c0)).trans ((if_pos c2).trans rfl))).symm))
    · replace k7 := k7 c2
      intro _
      obtain ⟨k4, k5, k6⟩ := k7
      refine And.intro k2 ?_
      refine And.intro k4 ?_
      refine And.intro (And.intro k5 k6) ?_
      exact g_X0_blockAt_22 (fun _ => (hj _ (((if_neg (Int.not_lt.mpr c0)).trans ((if_neg (Int.not_le.mpr c2)).trans rfl))).symm))
theorem e_X0_blockAt {Q X : m_Po} {v0 v1 : Int} {ε : m_E} {μ : m_M} (h : TY ε μ → i32 v1 → ((0 ≤ v1 → kd ε v0 = 0 ∧ (v1 < (fn ε v0 0) → kd ε (fn ε v0 2) = 105 ∧ (0 : Int) ≤ v1 ∧ v1 < ln ε (fn ε v0 2)))) ∧ ∀ t : Int, t = (if v1 < 0 then 0 else if (fn ε v0 0) ≤ v1 then 0 else μ (fn ε v0 2) v1) → Q t ε μ) : o_X0_blockAt [(2, v0), (0, v1)] ε μ Q X := And.intro rfl (g_X0_blockAt_0 h)
/-! ArchYard$Arch.forgetFindings()V -/
set_option maxRecDepth 20000 in
theorem g_X0_forgetFindings_0 {Q X : m_Po} {v0 : Int} {ε : m_E} {μ : m_M} (h : TY ε μ → kd ε v0 = 0 ∧ ∀ μ_1 : m_M, μ_1 = st μ v0 16 0 → ∀ μ_2 : m_M, μ_2 = st μ_1 v0 17 0 → Q 0 ε μ_2) : G cd_X0_forgetFindings Q X 0 [(0, (2, v0))] [] ε μ := by
  refine G_run (m_in []) 2 _ _ _ _ ?_
  show m_ty [(0, (2, v0))] [] ε μ → (kd ε v0 = 0) ∧ (0 = 0 ∨ 0 = 1) ∧ ∀ μ_1 : m_M, μ_1 = st μ v0 16 0 → (kd ε v0 = 0) ∧ (0 = 0 ∨ 0 = 1) ∧ ∀ μ_2 : m_M, μ_2 = st μ_1 v0 17 0 → Q 0 ε μ_2
  intro hty
  replace h := h hty.1 
  obtain ⟨k1, h⟩ := h
  refine And.intro k1 ?_
  refine And.intro (Or.inl rfl) ?_
  intro μ_1 e_μ_1
  replace h := h μ_1 e_μ_1
  refine And.intro k1 ?_
  refine And.intro (Or.inl rfl) ?_
  intro μ_2 e_μ_2
  replace h := h μ_2 e_μ_2
  exact h
theorem e_X0_forgetFindings {Q X : m_Po} {v0 : Int} {ε : m_E} {μ : m_M} (h : TY ε μ → kd ε v0 = 0 ∧ ∀ μ_1 : m_M, μ_1 = st μ v0 16 0 → ∀ μ_2 : m_M, μ_2 = st μ_1 v0 17 0 → Q 0 ε μ_2) : o_X0_forgetFindings [(2, v0)] ε μ Q X := And.intro rfl (g_X0_forgetFindings_0 h)
/-! ArchYard$Arch.set(IILArchYard$Stone;)V -/
set_option maxRecDepth 20000 in
theorem g_X0_set_26 {Q X : m_Po} {ε : m_E} {μ : m_M} (h : TY ε μ → Q 0 ε μ) : G cd_X0_set Q X 26 [] [] ε μ := by
  refine G_run (m_in [5, 26]) 5 _ _ _ _ ?_
  show m_ty [] [] ε μ → Q 0 ε μ
  intro hty
  replace h := h hty.1 
  exact h
set_option maxRecDepth 20000 in
theorem g_X0_set_5 {Q X : m_Po} {v0 v1 v2 v3 t : Int} {ε : m_E} {μ : m_M} (h : TY ε μ → i32 v1 → i32 v2 → i32 t → (t = 0 → G cd_X0_set Q X 26 [] [] ε μ) ∧ (t ≠ 0 → kd ε v0 = 0 ∧ kd ε (fn ε v0 1) = 100 ∧ (0 : Int) ≤ v1 ∧ v1 < ln ε (fn ε v0 1) ∧ ∀ μ_1 : m_M, μ_1 = st μ (fn ε v0 1) v1 v2 → kd ε (fn ε v0 2) = 105 ∧ v1 < ln ε (fn ε v0 2) ∧ (v3 = 0 ∨ kd ε v3 = 6) ∧ ∀ μ_2 : m_M, μ_2 = st μ_1 (fn ε v0 2) v1 v3 → o_X0_forgetFindings [(2, v0)] ε μ_2 (fun z ε_1 μ_3 => G cd_X0_set Q X 26 [] [] ε_1 μ_3) m_F)) : G cd_X0_set Q X 5 [(0, (2, v0)), (1, (0, v1)), (2, (0, v2)), (3, (2, v3))] [(0, t)] ε μ := by
  refine G_run (m_in [5, 26]) 5 _ _ _ _ ?_
  show m_ty [(0, (2, v0)), (1, (0, v1)), (2, (0, v2)), (3, (2, v3))] [(0, t)] ε μ → (t = 0 → G cd_X0_set Q X 26 [] [] ε μ) ∧ (t ≠ 0 → (m_ty [(0, (2, v0)), (1, (0, v1)), (2, (0, v2)), (3, (2, v3))] [] ε μ → (kd ε v0 = 0) ∧ (kd ε (fn ε v0 1) = 100) ∧ ((0 : Int) ≤ v1 ∧ v1 < ln ε (fn ε v0 1)) ∧ ∀ μ_1 : m_M, μ_1 = st μ (fn ε v0 1) v1 v2 → (kd ε v0 = 0) ∧ (kd ε (fn ε v0 2) = 105) ∧ ((0 : Int) ≤ v1 ∧ v1 < ln ε (fn ε v0 2)) ∧ (v3 = 0 ∨ kd ε v3 = 6) ∧ ∀ μ_2 : m_M, μ_2 = st μ_1 (fn ε v0 2) v1 v3 → (kd ε v0 = 0) ∧ o_X0_forgetFindings [(2, v0)] ε μ_2 (fun z ε_1 μ_3 => G cd_X0_set Q X 26 [] [] ε_1 μ_3) m_F))
  intro hty
  replace h := h hty.1 (hty.2.1 _ (List.mem_of_getElem? (i := 1) rfl)) (hty.2.1 _ (List.mem_of_getElem? (i := 2) rfl)) (hty.2.2 _ (List.mem_of_getElem? (i := 0) rfl))
  obtain ⟨ha, hb⟩ := h
  refine And.intro (fun c7 => ?_) (fun c7 => ?_)
  · replace h := ha c7
    clear ha hb
    exact h
  · replace h := hb c7
    clear ha hb
    intro _
    obtain ⟨k1, h⟩ := h
    refine And.intro k1 ?_
    obtain ⟨k2, h⟩ := h
    refine And.intro k2 ?_
    obtain ⟨k3, h⟩ := h
    obtain ⟨k4, h⟩ := h
    refine And.intro (And.intro k3 k4) ?_
    intro μ_1 e_μ_1
    replace h := h μ_1 e_μ_1
    refine And.intro k1 ?_
    obtain ⟨k5, h⟩ := h
    refine And.intro k5 ?_
    obtain ⟨k6, h⟩ := h
    refine And.intro (And.intro k3 k6) ?_
    obtain ⟨k7, h⟩ := h
    refine And.intro k7 ?_
    intro μ_2 e_μ_2
    replace h := h μ_2 e_μ_2
    refine And.intro k1 ?_
    exact h
set_option maxRecDepth 20000 in
theorem g_X0_set_0 {Q X : m_Po} {v0 v1 v2 v3 : Int} {ε : m_E} {μ : m_M} (h : TY ε μ → i32 v1 → i32 v2 → kd ε v0 = 0 ∧ o_X0_hasPlace [(2, v0), (0, v1)] ε μ (fun z ε_1 μ_1 => G cd_X0_set Q X 5 [(0, (2, v0)), (1, (0, v1)), (2, (0, v2)), (3, (2, v3))] [(0, z)] ε_1 μ_1) m_F) : G cd_X0_set Q X 0 [(0, (2, v0)), (1, (0, v1)), (2, (0, v2)), (3, (2, v3))] [] ε μ := by
  refine G_run (m_in [5, 26]) 5 _ _ _ _ ?_
  show m_ty [(0, (2, v0)), (1, (0, v1)), (2, (0, v2)), (3, (2, v3))] [] ε μ → (kd ε v0 = 0) ∧ o_X0_hasPlace [(2, v0), (0, v1)] ε μ (fun z ε_1 μ_1 => G cd_X0_set Q X 5 [(0, (2, v0)), (1, (0, v1)), (2, (0, v2)), (3, (2, v3))] [(0, z)] ε_1 μ_1) m_F
  intro hty
  replace h := h hty.1 (hty.2.1 _ (List.mem_of_getElem? (i := 1) rfl)) (hty.2.1 _ (List.mem_of_getElem? (i := 2) rfl))
  obtain ⟨k1, h⟩ := h
  refine And.intro k1 ?_
  exact h
theorem e_X0_set {Q X : m_Po} {v0 v1 v2 v3 : Int} {ε : m_E} {μ : m_M} (h : TY ε μ → i32 v1 → i32 v2 → kd ε v0 = 0 ∧ o_X0_hasPlace [(2, v0), (0, v1)] ε μ (fun z ε_1 μ_1 => G cd_X0_set Q X 5 [(0, (2, v0)), (1, (0, v1)), (2, (0, v2)), (3, (2, v3))] [(0, z)] ε_1 μ_1) m_F) : o_X0_set [(2, v0), (0, v1), (0, v2), (2, v3)] ε μ Q X := And.intro rfl (g_X0_set_0 h)
/-! ArchYard$Arch.empty(II)V -/
set_option maxRecDepth 20000 in
theorem g_X0_empty_81 {Q X : m_Po} {v0 v1 v3 v4 : Int} {ε : m_E} {μ : m_M} (h : TY ε μ → i32 v1 → i32 v3 → i32 v4 → ∀ v4_1 : Int, v4_1 = w32 (v4 + 1) → G cd_X0_empty Q X 12 [(0, (2, v0)), (1, (0, v1)), (3, (0, v3)), (4, (0, v4_1))] [] ε μ) : G cd_X0_empty Q X 81 [(0, (2, v0)), (1, (0, v1)), (3, (0, v3)), (4, (0, v4))] [] ε μ := by
  refine G_run (m_in [7, 12, 81]) 9 _ _ _ _ ?_
  show m_ty [(0, (2, v0)), (1, (0, v1)), (3, (0, v3)), (4, (0, v4))] [] ε μ → ∀ v4_1 : Int, v4_1 = w32 (v4 + 1) → G cd_X0_empty Q X 12 [(0, (2, v0)), (1, (0, v1)), (3, (0, v3)), (4, (0, v4_1))] [] ε μ
  intro hty
  replace h := h hty.1 (hty.2.1 _ (List.mem_of_getElem? (i := 1) rfl)) (hty.2.1 _ (List.mem_of_getElem? (i := 2) rfl)) (hty.2.1 _ (List.mem_of_getElem? (i := 3) rfl))
  intro v4_1 e_v4_1
  replace h := h v4_1 e_v4_1
  exact h
set_option maxRecDepth 20000 in
theorem g_X0_empty_12 {Q X : m_Po} {v0 v1 v3 v4 : Int} {ε : m_E} {μ : m_M} (h : TY ε μ → i32 v1 → i32 v3 → i32 v4 → kd ε v0 = 0 ∧ ((μ v0 13) ≤ v4 → ∀ μ_1 : m_M, μ_1 = st μ v0 13 v3 → Q 0 ε μ_1) ∧ (v4 < (μ v0 13) → ((6 : Int) ≤ v4 → ∀ μ_2 : m_M, μ_2 = st μ v0 13 v3 → Q 0 ε μ_2) ∧ (v4 < (6 : Int) → kd ε (fn ε v0 5) = 100 ∧ (0 : Int) ≤ v4 ∧ v4 < ln ε (fn ε v0 5) ∧ ((μ (fn ε v0 5) v4) = v1 → G cd_X0_empty Q X 81 [(0, (2, v0)), (1, (0, v1)), (3, (0, v3)), (4, (0, v4))] [] ε μ) ∧ ((μ (fn ε v0 5) v4) ≠ v1 → (0 : Int) ≤ v3 ∧ v3 < ln ε (fn ε v0 5) ∧ ∀ μ_3 : m_M, μ_3 = st μ (fn ε v0 5) v3 (μ (fn ε v0 5) v4) → kd ε (fn ε v0 6) = 100 ∧ v4 < ln ε (fn ε v0 6) ∧ v3 < ln ε (fn ε v0 6) ∧ ∀ μ_4 : m_M, μ_4 = st μ_3 (fn ε v0 6) v3 (μ_3 (fn ε v0 6) v4) → kd ε (fn ε v0 7) = 100 ∧ v4 < ln ε (fn ε v0 7) ∧ v3 < ln ε (fn ε v0 7) ∧ ∀ μ_5 : m_M, μ_5 = st μ_4 (fn ε v0 7) v3 (μ_4 (fn ε v0 7) v4) → ∀ v3_1 : Int, v3_1 = w32 (v3 + 1) → G cd_X0_empty Q X 81 [(0, (2, v0)), (1, (0, v1)), (3, (0, v3_1)), (4, (0, v4))] [] ε μ_5)))) : G cd_X0_empty Q X 12 [(0, (2, v0)), (1, (0, v1)), (3, (0, v3)), (4, (0, v4))] [] ε μ := by
  refine G_run (m_in [7, 12, 81]) 9 _ _ _ _ ?_
  show m_ty [(0, (2, v0)), (1, (0, v1)), (3, (0, v3)), (4, (0, v4))] [] ε μ → (kd ε v0 = 0) ∧ ((μ v0 13) ≤ v4 → (m_ty [(0, (2, v0)), (3, (0, v3))] [] ε μ → (kd ε v0 = 0) ∧ ∀ μ_1 : m_M, μ_1 = st μ v0 13 v3 → Q 0 ε μ_1)) ∧ (v4 < (μ v0 13) → (m_ty [(0, (2, v0)), (1, (0, v1)), (3, (0, v3)), (4, (0, v4))] [] ε μ → ((6 : Int) ≤ v4 → (m_ty [(0, (2, v0)), (3, (0, v3))] [] ε μ → (kd ε v0 = 0) ∧ ∀ μ_2 : m_M, μ_2 = st μ v0 13 v3 → Q 0 ε μ_2)) ∧ (v4 < (6 : Int) → (m_ty [(0, (2, v0)), (1, (0, v1)), (3, (0, v3)), (4, (0, v4))] [] ε μ → (kd ε v0 = 0) ∧ (kd ε (fn ε v0 5) = 100) ∧ ((0 : Int) ≤ v4 ∧ v4 < ln ε (fn ε v0 5)) ∧ ((μ (fn ε v0 5) v4) = v1 → G cd_X0_empty Q X 81 [(0, (2, v0)), (1, (0, v1)), (3, (0, v3)), (4, (0, v4))] [] ε μ) ∧ ((μ (fn ε v0 5) v4) ≠ v1 → (m_ty [(0, (2, v0)), (1, (0, v1)), (3, (0, v3)), (4, (0, v4))] [] ε μ → (kd ε v0 = 0) ∧ (kd ε v0 = 0) ∧ (kd ε (fn ε v0 5) = 100) ∧ ((0 : Int) ≤ v4 ∧ v4 < ln ε (fn ε v0 5)) ∧ (kd ε (fn ε v0 5) = 100) ∧ ((0 : Int) ≤ v3 ∧ v3 < ln ε (fn ε v0 5)) ∧ ∀ μ_3 : m_M, μ_3 = st μ (fn ε v0 5) v3 (μ (fn ε v0 5) v4) → (kd ε v0 = 0) ∧ (kd ε v0 = 0) ∧ (kd ε (fn ε v0 6) = 100) ∧ ((0 : Int) ≤ v4 ∧ v4 < ln ε (fn ε v0 6)) ∧ (kd ε (fn ε v0 6) = 100) ∧ ((0 : Int) ≤ v3 ∧ v3 < ln ε (fn ε v0 6)) ∧ ∀ μ_4 : m_M, μ_4 = st μ_3 (fn ε v0 6) v3 (μ_3 (fn ε v0 6) v4) → (kd ε v0 = 0) ∧ (kd ε v0 = 0) ∧ (kd ε (fn ε v0 7) = 100) ∧ ((0 : Int) ≤ v4 ∧ v4 < ln ε (fn ε v0 7)) ∧ (kd ε (fn ε v0 7) = 100) ∧ ((0 : Int) ≤ v3 ∧ v3 < ln ε (fn ε v0 7)) ∧ ∀ μ_5 : m_M, μ_5 = st μ_4 (fn ε v0 7) v3 (μ_4 (fn ε v0 7) v4) → ∀ v3_1 : Int, v3_1 = w32 (v3 + 1) → G cd_X0_empty Q X 81 [(0, (2, v0)), (1, (0, v1)), (3, (0, v3_1)), (4, (0, v4))] [] ε μ_5))))))
  intro hty
  replace h := h hty.1 (hty.2.1 _ (List.mem_of_getElem? (i := 1) rfl)) (hty.2.1 _ (List.mem_of_getElem? (i := 2) rfl)) (hty.2.1 _ (List.mem_of_getElem? (i := 3) rfl))
  obtain ⟨k1, h⟩ := h
  refine And.intro k1 ?_
  obtain ⟨ha, hb⟩ := h
  refine And.intro (fun c14 => ?_) (fun c14 => ?_)
  · replace h := ha c14
    clear ha hb
    intro _
    refine And.intro k1 ?_
    intro μ_1 e_μ_1
    replace h := h μ_1 e_μ_1
    exact h
  · replace h := hb c14
    clear ha hb
    intro _
    obtain ⟨ha, hb⟩ := h
    refine And.intro (fun c13 => ?_) (fun c13 => ?_)
    · replace h := ha c13
      clear ha hb
      intro _
      refine And.intro k1 ?_
      intro μ_2 e_μ_2
      replace h := h μ_2 e_μ_2
      exact h
    · replace h := hb c13
      clear ha hb
      intro _
      refine And.intro k1 ?_
      obtain ⟨k2, h⟩ := h
      refine And.intro k2 ?_
      obtain ⟨k3, h⟩ := h
      obtain ⟨k4, h⟩ := h
      refine And.intro (And.intro k3 k4) ?_
      obtain ⟨ha, hb⟩ := h
      refine And.intro (fun c12 => ?_) (fun c12 => ?_)
      · replace h := ha c12
        clear ha hb
        exact h
      · replace h := hb c12
        clear ha hb
        intro _
        refine And.intro k1 ?_
        refine And.intro k1 ?_
        refine And.intro k2 ?_
        refine And.intro (And.intro k3 k4) ?_
        refine And.intro k2 ?_
        obtain ⟨k5, h⟩ := h
        obtain ⟨k6, h⟩ := h
        refine And.intro (And.intro k5 k6) ?_
        intro μ_3 e_μ_3
        replace h := h μ_3 e_μ_3
        refine And.intro k1 ?_
        refine And.intro k1 ?_
        obtain ⟨k7, h⟩ := h
        refine And.intro k7 ?_
        obtain ⟨k8, h⟩ := h
        refine And.intro (And.intro k3 k8) ?_
        refine And.intro k7 ?_
        obtain ⟨k9, h⟩ := h
        refine And.intro (And.intro k5 k9) ?_
        intro μ_4 e_μ_4
        replace h := h μ_4 e_μ_4
        refine And.intro k1 ?_
        refine And.intro k1 ?_
        obtain ⟨k10, h⟩ := h
        refine And.intro k10 ?_
        obtain ⟨k11, h⟩ := h
        refine And.intro (And.intro k3 k11) ?_
        refine And.intro k10 ?_
        obtain ⟨k12, h⟩ := h
        refine And.intro (And.intro k5 k12) ?_
        intro μ_5 e_μ_5
        replace h := h μ_5 e_μ_5
        intro v3_1 e_v3_1
        replace h := h v3_1 e_v3_1
        exact h
set_option maxRecDepth 20000 in
theorem g_X0_empty_7 {Q X : m_Po} {v0 v1 : Int} {ε : m_E} {μ : m_M} (h : TY ε μ → i32 v1 → ∀ v3 : Int, v3 = 0 → ∀ v4 : Int, v4 = 0 → G cd_X0_empty Q X 12 [(0, (2, v0)), (1, (0, v1)), (3, (0, v3)), (4, (0, v4))] [] ε μ) : G cd_X0_empty Q X 7 [(0, (2, v0)), (1, (0, v1))] [] ε μ := by
  refine G_run (m_in [7, 12, 81]) 9 _ _ _ _ ?_
  show m_ty [(0, (2, v0)), (1, (0, v1))] [] ε μ → ∀ v3 : Int, v3 = 0 → ∀ v4 : Int, v4 = 0 → G cd_X0_empty Q X 12 [(0, (2, v0)), (1, (0, v1)), (3, (0, v3)), (4, (0, v4))] [] ε μ
  intro hty
  replace h := h hty.1 (hty.2.1 _ (List.mem_of_getElem? (i := 1) rfl))
  intro v3 e_v3
  replace h := h v3 e_v3
  intro v4 e_v4
  replace h := h v4 e_v4
  exact h
set_option maxRecDepth 20000 in
theorem g_X0_empty_0 {Q X : m_Po} {v0 v1 v2 : Int} {ε : m_E} {μ : m_M} (h : TY ε μ → i32 v1 → i32 v2 → kd ε v0 = 0 ∧ o_X0_set [(2, v0), (0, v1), (0, v2), (2, 0)] ε μ (fun z ε_1 μ_1 => G cd_X0_empty Q X 7 [(0, (2, v0)), (1, (0, v1))] [] ε_1 μ_1) m_F) : G cd_X0_empty Q X 0 [(0, (2, v0)), (1, (0, v1)), (2, (0, v2))] [] ε μ := by
  refine G_run (m_in [7, 12, 81]) 9 _ _ _ _ ?_
  show m_ty [(0, (2, v0)), (1, (0, v1)), (2, (0, v2))] [] ε μ → (kd ε v0 = 0) ∧ o_X0_set [(2, v0), (0, v1), (0, v2), (2, 0)] ε μ (fun z ε_1 μ_1 => G cd_X0_empty Q X 7 [(0, (2, v0)), (1, (0, v1))] [] ε_1 μ_1) m_F
  intro hty
  replace h := h hty.1 (hty.2.1 _ (List.mem_of_getElem? (i := 1) rfl)) (hty.2.1 _ (List.mem_of_getElem? (i := 2) rfl))
  obtain ⟨k1, h⟩ := h
  refine And.intro k1 ?_
  exact h
theorem e_X0_empty {Q X : m_Po} {v0 v1 v2 : Int} {ε : m_E} {μ : m_M} (h : TY ε μ → i32 v1 → i32 v2 → kd ε v0 = 0 ∧ o_X0_set [(2, v0), (0, v1), (0, v2), (2, 0)] ε μ (fun z ε_1 μ_1 => G cd_X0_empty Q X 7 [(0, (2, v0)), (1, (0, v1))] [] ε_1 μ_1) m_F) : o_X0_empty [(2, v0), (0, v1), (0, v2)] ε μ Q X := And.intro rfl (g_X0_empty_0 h)
/-! ArchYard$Arch.raisePier(IIIII)V -/
set_option maxRecDepth 20000 in
theorem g_X0_raisePier_60 {Q X : m_Po} {ε : m_E} {μ : m_M} (h : TY ε μ → Q 0 ε μ) : G cd_X0_raisePier Q X 60 [] [] ε μ := by
  refine G_run (m_in [15, 56, 60]) 9 _ _ _ _ ?_
  show m_ty [] [] ε μ → Q 0 ε μ
  intro hty
  replace h := h hty.1 
  exact h
set_option maxRecDepth 20000 in
theorem g_X0_raisePier_56 {Q X : m_Po} {v0 : Int} {ε : m_E} {μ : m_M} (h : TY ε μ → kd ε v0 = 0 ∧ o_X0_forgetFindings [(2, v0)] ε μ (fun z ε_1 μ_1 => G cd_X0_raisePier Q X 60 [] [] ε_1 μ_1) m_F) : G cd_X0_raisePier Q X 56 [(0, (2, v0))] [] ε μ := by
  refine G_run (m_in [15, 56, 60]) 9 _ _ _ _ ?_
  show m_ty [(0, (2, v0))] [] ε μ → (kd ε v0 = 0) ∧ o_X0_forgetFindings [(2, v0)] ε μ (fun z ε_1 μ_1 => G cd_X0_raisePier Q X 60 [] [] ε_1 μ_1) m_F
  intro hty
  replace h := h hty.1 
  obtain ⟨k1, h⟩ := h
  refine And.intro k1 ?_
  exact h
set_option maxRecDepth 20000 in
theorem g_X0_raisePier_15 {Q X : m_Po} {v0 v1 v2 v3 v4 v5 t : Int} {ε : m_E} {μ : m_M} (h : TY ε μ → i32 v1 → i32 v2 → i32 v3 → i32 v4 → i32 v5 → ∀ v6 : Int, v6 = t → kd ε v6 = 100 ∧ 0 < ln ε v6 ∧ ∀ μ_1 : m_M, μ_1 = st μ v6 0 v2 → 1 < ln ε v6 ∧ ∀ μ_2 : m_M, μ_2 = st μ_1 v6 1 v3 → 2 < ln ε v6 ∧ ∀ μ_3 : m_M, μ_3 = st μ_2 v6 2 v4 → 3 < ln ε v6 ∧ ∀ μ_4 : m_M, μ_4 = st μ_3 v6 3 v5 → (v1 ≠ 0 → kd ε v0 = 0 ∧ ∀ μ_5 : m_M, μ_5 = st μ_4 v0 12 1 → G cd_X0_raisePier Q X 56 [(0, (2, v0))] [] ε μ_5) ∧ (v1 = 0 → kd ε v0 = 0 ∧ ∀ μ_6 : m_M, μ_6 = st μ_4 v0 11 1 → G cd_X0_raisePier Q X 56 [(0, (2, v0))] [] ε μ_6)) : G cd_X0_raisePier Q X 15 [(0, (2, v0)), (1, (0, v1)), (2, (0, v2)), (3, (0, v3)), (4, (0, v4)), (5, (0, v5))] [(2, t)] ε μ := by
  refine G_run (m_in [15, 56, 60]) 9 _ _ _ _ ?_
  show m_ty [(0, (2, v0)), (1, (0, v1)), (2, (0, v2)), (3, (0, v3)), (4, (0, v4)), (5, (0, v5))] [(2, t)] ε μ → ∀ v6 : Int, v6 = t → (kd ε v6 = 100) ∧ ((0 : Int) ≤ 0 ∧ 0 < ln ε v6) ∧ ∀ μ_1 : m_M, μ_1 = st μ v6 0 v2 → (kd ε v6 = 100) ∧ ((0 : Int) ≤ 1 ∧ 1 < ln ε v6) ∧ ∀ μ_2 : m_M, μ_2 = st μ_1 v6 1 v3 → (kd ε v6 = 100) ∧ ((0 : Int) ≤ 2 ∧ 2 < ln ε v6) ∧ ∀ μ_3 : m_M, μ_3 = st μ_2 v6 2 v4 → (kd ε v6 = 100) ∧ ((0 : Int) ≤ 3 ∧ 3 < ln ε v6) ∧ ∀ μ_4 : m_M, μ_4 = st μ_3 v6 3 v5 → (v1 ≠ 0 → (m_ty [(0, (2, v0))] [] ε μ_4 → (kd ε v0 = 0) ∧ (1 = 0 ∨ 1 = 1) ∧ ∀ μ_5 : m_M, μ_5 = st μ_4 v0 12 1 → G cd_X0_raisePier Q X 56 [(0, (2, v0))] [] ε μ_5)) ∧ (v1 = 0 → (m_ty [(0, (2, v0))] [] ε μ_4 → (kd ε v0 = 0) ∧ (1 = 0 ∨ 1 = 1) ∧ ∀ μ_6 : m_M, μ_6 = st μ_4 v0 11 1 → G cd_X0_raisePier Q X 56 [(0, (2, v0))] [] ε μ_6))
  intro hty
  replace h := h hty.1 (hty.2.1 _ (List.mem_of_getElem? (i := 1) rfl)) (hty.2.1 _ (List.mem_of_getElem? (i := 2) rfl)) (hty.2.1 _ (List.mem_of_getElem? (i := 3) rfl)) (hty.2.1 _ (List.mem_of_getElem? (i := 4) rfl)) (hty.2.1 _ (List.mem_of_getElem? (i := 5) rfl))
  intro v6 e_v6
  replace h := h v6 e_v6
  obtain ⟨k1, h⟩ := h
  refine And.intro k1 ?_
  obtain ⟨k2, h⟩ := h
  refine And.intro (And.intro (by decide) k2) ?_
  intro μ_1 e_μ_1
  replace h := h μ_1 e_μ_1
  refine And.intro k1 ?_
  obtain ⟨k3, h⟩ := h
  refine And.intro (And.intro (by decide) k3) ?_
  intro μ_2 e_μ_2
  replace h := h μ_2 e_μ_2
  refine And.intro k1 ?_
  obtain ⟨k4, h⟩ := h
  refine And.intro (And.intro (by decide) k4) ?_
  intro μ_3 e_μ_3
  replace h := h μ_3 e_μ_3
  refine And.intro k1 ?_
  obtain ⟨k5, h⟩ := h
  refine And.intro (And.intro (by decide) k5) ?_
  intro μ_4 e_μ_4
  replace h := h μ_4 e_μ_4
  obtain ⟨ha, hb⟩ := h
  refine And.intro (fun c7 => ?_) (fun c7 => ?_)
  · replace h := ha c7
    clear ha hb
    intro _
    obtain ⟨k6, h⟩ := h
    refine And.intro k6 ?_
    refine And.intro (Or.inr rfl) ?_
    intro μ_5 e_μ_5
    replace h := h μ_5 e_μ_5
    exact h
  · replace h := hb c7
    clear ha hb
    intro _
    obtain ⟨k7, h⟩ := h
    refine And.intro k7 ?_
    refine And.intro (Or.inr rfl) ?_
    intro μ_6 e_μ_6
    replace h := h μ_6 e_μ_6
    exact h
set_option maxRecDepth 20000 in
theorem g_X0_raisePier_0 {Q X : m_Po} {v0 v1 v2 v3 v4 v5 : Int} {ε : m_E} {μ : m_M} (h : TY ε μ → i32 v1 → i32 v2 → i32 v3 → i32 v4 → i32 v5 → ((v1 ≠ 0 → kd ε v0 = 0) ∧ (v1 = 0 → kd ε v0 = 0)) ∧ ∀ t : Int, t = (if v1 = 0 then fn ε v0 3 else fn ε v0 4) → ∀ v6 : Int, v6 = t → kd ε v6 = 100 ∧ 0 < ln ε v6 ∧ ∀ μ_1 : m_M, μ_1 = st μ v6 0 v2 → 1 < ln ε v6 ∧ ∀ μ_2 : m_M, μ_2 = st μ_1 v6 1 v3 → 2 < ln ε v6 ∧ ∀ μ_3 : m_M, μ_3 = st μ_2 v6 2 v4 → 3 < ln ε v6 ∧ ∀ μ_4 : m_M, μ_4 = st μ_3 v6 3 v5 → (v1 ≠ 0 → kd ε v0 = 0 ∧ ∀ μ_5 : m_M, μ_5 = st μ_4 v0 12 1 → G cd_X0_raisePier Q X 56 [(0, (2, v0))] [] ε μ_5) ∧ (v1 = 0 → kd ε v0 = 0 ∧ ∀ μ_6 : m_M, μ_6 = st μ_4 v0 11 1 → G cd_X0_raisePier Q X 56 [(0, (2, v0))] [] ε μ_6)) : G cd_X0_raisePier Q X 0 [(0, (2, v0)), (1, (0, v1)), (2, (0, v2)), (3, (0, v3)), (4, (0, v4)), (5, (0, v5))] [] ε μ := by
  refine G_run (m_in [15, 56, 60]) 9 _ _ _ _ ?_
  show m_ty [(0, (2, v0)), (1, (0, v1)), (2, (0, v2)), (3, (0, v3)), (4, (0, v4)), (5, (0, v5))] [] ε μ → (v1 ≠ 0 → (m_ty [(0, (2, v0)), (1, (0, v1)), (2, (0, v2)), (3, (0, v3)), (4, (0, v4)), (5, (0, v5))] [] ε μ → (kd ε v0 = 0) ∧ G cd_X0_raisePier Q X 15 [(0, (2, v0)), (1, (0, v1)), (2, (0, v2)), (3, (0, v3)), (4, (0, v4)), (5, (0, v5))] [(2, fn ε v0 4)] ε μ)) ∧ (v1 = 0 → (m_ty [(0, (2, v0)), (1, (0, v1)), (2, (0, v2)), (3, (0, v3)), (4, (0, v4)), (5, (0, v5))] [] ε μ → (kd ε v0 = 0) ∧ G cd_X0_raisePier Q X 15 [(0, (2, v0)), (1, (0, v1)), (2, (0, v2)), (3, (0, v3)), (4, (0, v4)), (5, (0, v5))] [(2, fn ε v0 3)] ε μ))
  intro hty
  replace h := h hty.1 (hty.2.1 _ (List.mem_of_getElem? (i := 1) rfl)) (hty.2.1 _ (List.mem_of_getElem? (i := 2) rfl)) (hty.2.1 _ (List.mem_of_getElem? (i := 3) rfl)) (hty.2.1 _ (List.mem_of_getElem? (i := 4) rfl)) (hty.2.1 _ (List.mem_of_getElem? (i := 5) rfl))
  obtain ⟨hc, hj⟩ := h
  obtain ⟨k12, k13⟩ := hc
  refine And.intro (fun c0 => ?_) (fun c0 => ?_)
  · replace k12 := k12 c0
    intro _
    have k2 := k12
    refine And.intro k2 ?_
    exact g_X0_raisePier_15 (fun _ _ _ _ _ _ => (hj _ (((if_neg (c0)).trans rfl)).symm))
  · replace k13 := k13 c0
    intro _
    have k3 := k13
    refine And.intro k3 ?_
    exact g_X0_raisePier_15 (fun _ _ _ _ _ _ => (hj _ (((if_pos c0).trans rfl)).symm))
theorem e_X0_raisePier {Q X : m_Po} {v0 v1 v2 v3 v4 v5 : Int} {ε : m_E} {μ : m_M} (h : TY ε μ → i32 v1 → i32 v2 → i32 v3 → i32 v4 → i32 v5 → ((v1 ≠ 0 → kd ε v0 = 0) ∧ (v1 = 0 → kd ε v0 = 0)) ∧ ∀ t : Int, t = (if v1 = 0 then fn ε v0 3 else fn ε v0 4) → ∀ v6 : Int, v6 = t → kd ε v6 = 100 ∧ 0 < ln ε v6 ∧ ∀ μ_1 : m_M, μ_1 = st μ v6 0 v2 → 1 < ln ε v6 ∧ ∀ μ_2 : m_M, μ_2 = st μ_1 v6 1 v3 → 2 < ln ε v6 ∧ ∀ μ_3 : m_M, μ_3 = st μ_2 v6 2 v4 → 3 < ln ε v6 ∧ ∀ μ_4 : m_M, μ_4 = st μ_3 v6 3 v5 → (v1 ≠ 0 → kd ε v0 = 0 ∧ ∀ μ_5 : m_M, μ_5 = st μ_4 v0 12 1 → G cd_X0_raisePier Q X 56 [(0, (2, v0))] [] ε μ_5) ∧ (v1 = 0 → kd ε v0 = 0 ∧ ∀ μ_6 : m_M, μ_6 = st μ_4 v0 11 1 → G cd_X0_raisePier Q X 56 [(0, (2, v0))] [] ε μ_6)) : o_X0_raisePier [(2, v0), (0, v1), (0, v2), (0, v3), (0, v4), (0, v5)] ε μ Q X := And.intro rfl (g_X0_raisePier_0 h)
/-! ArchYard$Stone.spans(I)Z -/
set_option maxRecDepth 20000 in
theorem g_X7_spans_70 {Q X : m_Po} {t : Int} {ε : m_E} {μ : m_M} (h : TY ε μ → i32 t → (t = 0 ∨ t = 1) ∧ Q t ε μ) : G cd_X7_spans Q X 70 [] [(0, t)] ε μ := by
  refine G_run (m_in [6, 9, 43, 70]) 11 _ _ _ _ ?_
  show m_ty [] [(0, t)] ε μ → (t = 0 ∨ t = 1) ∧ Q t ε μ
  intro hty
  replace h := h hty.1 (hty.2.2 _ (List.mem_of_getElem? (i := 0) rfl))
  obtain ⟨k1, h⟩ := h
  refine And.intro k1 ?_
  exact h
set_option maxRecDepth 20000 in
theorem g_X7_spans_43 {Q X : m_Po} {v0 v1 v2 v3 v4 : Int} {ε : m_E} {μ : m_M} (h : TY ε μ → i32 v1 → i32 v2 → i32 v3 → i32 v4 → ∀ v4_1 : Int, v4_1 = w32 (v4 + 2) → G cd_X7_spans Q X 9 [(0, (2, v0)), (1, (0, v1)), (2, (0, v2)), (3, (0, v3)), (4, (0, v4_1))] [] ε μ) : G cd_X7_spans Q X 43 [(0, (2, v0)), (1, (0, v1)), (2, (0, v2)), (3, (0, v3)), (4, (0, v4))] [] ε μ := by
  refine G_run (m_in [6, 9, 43, 70]) 11 _ _ _ _ ?_
  show m_ty [(0, (2, v0)), (1, (0, v1)), (2, (0, v2)), (3, (0, v3)), (4, (0, v4))] [] ε μ → ∀ v4_1 : Int, v4_1 = w32 (v4 + 2) → G cd_X7_spans Q X 9 [(0, (2, v0)), (1, (0, v1)), (2, (0, v2)), (3, (0, v3)), (4, (0, v4_1))] [] ε μ
  intro hty
  replace h := h hty.1 (hty.2.1 _ (List.mem_of_getElem? (i := 1) rfl)) (hty.2.1 _ (List.mem_of_getElem? (i := 2) rfl)) (hty.2.1 _ (List.mem_of_getElem? (i := 3) rfl)) (hty.2.1 _ (List.mem_of_getElem? (i := 4) rfl))
  intro v4_1 e_v4_1
  replace h := h v4_1 e_v4_1
  exact h
set_option maxRecDepth 20000 in
theorem g_X7_spans_9 {Q X : m_Po} {v0 v1 v2 v3 v4 : Int} {ε : m_E} {μ : m_M} (h : TY ε μ → i32 v1 → i32 v2 → i32 v3 → i32 v4 → kd ε v0 = 6 ∧ kd ε (fn ε v0 1) = 100 ∧ ((ln ε (fn ε v0 1)) ≤ v4 → ∀ t : Int, t = (if v1 < (w32 (10 * v2)) then 0 else if (w32 (10 * v3)) < v1 then 0 else 1) → Q t ε μ) ∧ (v4 < (ln ε (fn ε v0 1)) → (0 : Int) ≤ v4 ∧ v4 < ln ε (fn ε v0 1) ∧ ∀ v2_1 : Int, v2_1 = (if (μ (fn ε v0 1) v4) < v2 then μ (fn ε v0 1) v4 else v2) → ∀ v3_1 : Int, v3_1 = (if v3 < (μ (fn ε v0 1) v4) then μ (fn ε v0 1) v4 else v3) → ∀ v4_1 : Int, v4_1 = w32 (v4 + 2) → G cd_X7_spans Q X 9 [(0, (2, v0)), (1, (0, v1)), (2, (0, v2_1)), (3, (0, v3_1)), (4, (0, v4_1))] [] ε μ)) : G cd_X7_spans Q X 9 [(0, (2, v0)), (1, (0, v1)), (2, (0, v2)), (3, (0, v3)), (4, (0, v4))] [] ε μ := by
  refine G_run (m_in [6, 9, 43, 70]) 11 _ _ _ _ ?_
  show m_ty [(0, (2, v0)), (1, (0, v1)), (2, (0, v2)), (3, (0, v3)), (4, (0, v4))] [] ε μ → (kd ε v0 = 6) ∧ (kd ε (fn ε v0 1) = 100) ∧ ((ln ε (fn ε v0 1)) ≤ v4 → (m_ty [(1, (0, v1)), (2, (0, v2)), (3, (0, v3))] [] ε μ → (v1 < (w32 (10 * v2)) → (m_ty [] [] ε μ → G cd_X7_spans Q X 70 [] [(0, 0)] ε μ)) ∧ ((w32 (10 * v2)) ≤ v1 → (m_ty [(1, (0, v1)), (3, (0, v3))] [] ε μ → ((w32 (10 * v3)) < v1 → (m_ty [] [] ε μ → G cd_X7_spans Q X 70 [] [(0, 0)] ε μ)) ∧ (v1 ≤ (w32 (10 * v3)) → (m_ty [] [] ε μ → G cd_X7_spans Q X 70 [] [(0, 1)] ε μ)))))) ∧ (v4 < (ln ε (fn ε v0 1)) → (m_ty [(0, (2, v0)), (1, (0, v1)), (2, (0, v2)), (3, (0, v3)), (4, (0, v4))] [] ε μ → (kd ε v0 = 6) ∧ (kd ε (fn ε v0 1) = 100) ∧ ((0 : Int) ≤ v4 ∧ v4 < ln ε (fn ε v0 1)) ∧ ∀ v2_1 : Int, v2_1 = (if (μ (fn ε v0 1) v4) < v2 then μ (fn ε v0 1) v4 else v2) → (kd ε v0 = 6) ∧ (kd ε (fn ε v0 1) = 100) ∧ ((0 : Int) ≤ v4 ∧ v4 < ln ε (fn ε v0 1)) ∧ ∀ v3_1 : Int, v3_1 = (if v3 < (μ (fn ε v0 1) v4) then μ (fn ε v0 1) v4 else v3) → G cd_X7_spans Q X 43 [(0, (2, v0)), (1, (0, v1)), (2, (0, v2_1)), (3, (0, v3_1)), (4, (0, v4))] [] ε μ))
  intro hty
  replace h := h hty.1 (hty.2.1 _ (List.mem_of_getElem? (i := 1) rfl)) (hty.2.1 _ (List.mem_of_getElem? (i := 2) rfl)) (hty.2.1 _ (List.mem_of_getElem? (i := 3) rfl)) (hty.2.1 _ (List.mem_of_getElem? (i := 4) rfl))
  obtain ⟨k1, h⟩ := h
  refine And.intro k1 ?_
  obtain ⟨k2, h⟩ := h
  refine And.intro k2 ?_
  obtain ⟨ha, hb⟩ := h
  refine And.intro (fun c7 => ?_) (fun c7 => ?_)
  · replace h := ha c7
    clear ha hb
    intro _
    have hj := h
    refine And.intro (fun c2 => ?_) (fun c2 => ?_)
    · intro _
      exact g_X7_spans_70 (fun _ _ => (And.intro (Or.inl rfl) (hj _ (((if_pos c2).trans rfl)).symm)))
    · intro _
      refine And.intro (fun c3 => ?_) (fun c3 => ?_)
      · intro _
        exact g_X7_spans_70 (fun _ _ => (And.intro (Or.inl rfl) (hj _ (((if_neg (Int.not_lt.mpr c2)).trans ((if_pos c3).trans rfl))).symm)))
      · intro _
        exact g_X7_spans_70 (fun _ _ => (And.intro (Or.inr rfl) (hj _ (((if_neg (Int.not_lt.mpr c2)).trans ((if_neg (Int.not_lt.mpr c3)).trans rfl))).symm)))
  · replace h := hb c7
    clear ha hb
    intro _
    refine And.intro k1 ?_
    refine And.intro k2 ?_
    obtain ⟨k6, h⟩ := h
    obtain ⟨k7, h⟩ := h
    refine And.intro (And.intro k6 k7) ?_
    intro v2_1 e_v2_1
    replace h := h v2_1 e_v2_1
    refine And.intro k1 ?_
    refine And.intro k2 ?_
    refine And.intro (And.intro k6 k7) ?_
    intro v3_1 e_v3_1
    replace h := h v3_1 e_v3_1
    exact g_X7_spans_43 (fun _ _ _ _ _ => h)
set_option maxRecDepth 20000 in
theorem g_X7_spans_6 {Q X : m_Po} {v0 v1 v2 v3 : Int} {ε : m_E} {μ : m_M} (h : TY ε μ → i32 v1 → i32 v2 → i32 v3 → ∀ v4 : Int, v4 = 0 → G cd_X7_spans Q X 9 [(0, (2, v0)), (1, (0, v1)), (2, (0, v2)), (3, (0, v3)), (4, (0, v4))] [] ε μ) : G cd_X7_spans Q X 6 [(0, (2, v0)), (1, (0, v1)), (2, (0, v2)), (3, (0, v3))] [] ε μ := by
  refine G_run (m_in [6, 9, 43, 70]) 11 _ _ _ _ ?_
  show m_ty [(0, (2, v0)), (1, (0, v1)), (2, (0, v2)), (3, (0, v3))] [] ε μ → ∀ v4 : Int, v4 = 0 → G cd_X7_spans Q X 9 [(0, (2, v0)), (1, (0, v1)), (2, (0, v2)), (3, (0, v3)), (4, (0, v4))] [] ε μ
  intro hty
  replace h := h hty.1 (hty.2.1 _ (List.mem_of_getElem? (i := 1) rfl)) (hty.2.1 _ (List.mem_of_getElem? (i := 2) rfl)) (hty.2.1 _ (List.mem_of_getElem? (i := 3) rfl))
  intro v4 e_v4
  replace h := h v4 e_v4
  exact h
set_option maxRecDepth 20000 in
theorem g_X7_spans_0 {Q X : m_Po} {v0 v1 : Int} {ε : m_E} {μ : m_M} (h : TY ε μ → i32 v1 → ∀ v2 : Int, v2 = 100 → ∀ v3 : Int, v3 = (-100) → ∀ v4 : Int, v4 = 0 → G cd_X7_spans Q X 9 [(0, (2, v0)), (1, (0, v1)), (2, (0, v2)), (3, (0, v3)), (4, (0, v4))] [] ε μ) : G cd_X7_spans Q X 0 [(0, (2, v0)), (1, (0, v1))] [] ε μ := by
  refine G_run (m_in [6, 9, 43, 70]) 11 _ _ _ _ ?_
  show m_ty [(0, (2, v0)), (1, (0, v1))] [] ε μ → ∀ v2 : Int, v2 = 100 → ∀ v3 : Int, v3 = (-100) → G cd_X7_spans Q X 6 [(0, (2, v0)), (1, (0, v1)), (2, (0, v2)), (3, (0, v3))] [] ε μ
  intro hty
  replace h := h hty.1 (hty.2.1 _ (List.mem_of_getElem? (i := 1) rfl))
  intro v2 e_v2
  replace h := h v2 e_v2
  intro v3 e_v3
  replace h := h v3 e_v3
  exact g_X7_spans_6 (fun _ _ _ _ => h)
theorem e_X7_spans {Q X : m_Po} {v0 v1 : Int} {ε : m_E} {μ : m_M} (h : TY ε μ → i32 v1 → ∀ v2 : Int, v2 = 100 → ∀ v3 : Int, v3 = (-100) → ∀ v4 : Int, v4 = 0 → G cd_X7_spans Q X 9 [(0, (2, v0)), (1, (0, v1)), (2, (0, v2)), (3, (0, v3)), (4, (0, v4))] [] ε μ) : o_X7_spans [(2, v0), (0, v1)] ε μ Q X := And.intro rfl (g_X7_spans_0 h)
/-! ArchYard$Arch.burden(III)I -/
set_option maxRecDepth 20000 in
theorem g_X0_burden_27 {Q X : m_Po} {v0 v1 v2 v3 t : Int} {ε : m_E} {μ : m_M} (h : TY ε μ → i32 v1 → i32 v2 → i32 v3 → i32 t → (t ≠ 0 → kd ε v0 = 0 ∧ kd ε (fn ε v0 5) = 100 ∧ (0 : Int) ≤ μ v0 13 ∧ μ v0 13 < ln ε (fn ε v0 5) ∧ ∀ μ_1 : m_M, μ_1 = st μ (fn ε v0 5) (μ v0 13) v1 → kd ε (fn ε v0 6) = 100 ∧ (0 : Int) ≤ μ_1 v0 13 ∧ μ_1 v0 13 < ln ε (fn ε v0 6) ∧ ∀ μ_2 : m_M, μ_2 = st μ_1 (fn ε v0 6) (μ_1 v0 13) v2 → kd ε (fn ε v0 7) = 100 ∧ (0 : Int) ≤ μ_2 v0 13 ∧ μ_2 v0 13 < ln ε (fn ε v0 7) ∧ ∀ μ_3 : m_M, μ_3 = st μ_2 (fn ε v0 7) (μ_2 v0 13) v3 → ∀ μ_4 : m_M, μ_4 = st μ_3 v0 13 (w32 ((μ_3 v0 13) + 1)) → Q (μ_4 v0 13) ε μ_4) ∧ (t = 0 → Q (-1) ε μ)) : G cd_X0_burden Q X 27 [(0, (2, v0)), (1, (0, v1)), (2, (0, v2)), (3, (0, v3))] [(0, t)] ε μ := by
  refine G_run (m_in [5, 27]) 8 _ _ _ _ ?_
  show m_ty [(0, (2, v0)), (1, (0, v1)), (2, (0, v2)), (3, (0, v3))] [(0, t)] ε μ → (t ≠ 0 → (m_ty [(0, (2, v0)), (1, (0, v1)), (2, (0, v2)), (3, (0, v3))] [] ε μ → (kd ε v0 = 0) ∧ (kd ε v0 = 0) ∧ (kd ε (fn ε v0 5) = 100) ∧ ((0 : Int) ≤ μ v0 13 ∧ μ v0 13 < ln ε (fn ε v0 5)) ∧ ∀ μ_1 : m_M, μ_1 = st μ (fn ε v0 5) (μ v0 13) v1 → (kd ε v0 = 0) ∧ (kd ε v0 = 0) ∧ (kd ε (fn ε v0 6) = 100) ∧ ((0 : Int) ≤ μ_1 v0 13 ∧ μ_1 v0 13 < ln ε (fn ε v0 6)) ∧ ∀ μ_2 : m_M, μ_2 = st μ_1 (fn ε v0 6) (μ_1 v0 13) v2 → (kd ε v0 = 0) ∧ (kd ε v0 = 0) ∧ (kd ε (fn ε v0 7) = 100) ∧ ((0 : Int) ≤ μ_2 v0 13 ∧ μ_2 v0 13 < ln ε (fn ε v0 7)) ∧ ∀ μ_3 : m_M, μ_3 = st μ_2 (fn ε v0 7) (μ_2 v0 13) v3 → (kd ε v0 = 0) ∧ (kd ε v0 = 0) ∧ ∀ μ_4 : m_M, μ_4 = st μ_3 v0 13 (w32 ((μ_3 v0 13) + 1)) → (kd ε v0 = 0) ∧ Q (μ_4 v0 13) ε μ_4)) ∧ (t = 0 → (m_ty [] [] ε μ → Q (-1) ε μ))
  intro hty
  replace h := h hty.1 (hty.2.1 _ (List.mem_of_getElem? (i := 1) rfl)) (hty.2.1 _ (List.mem_of_getElem? (i := 2) rfl)) (hty.2.1 _ (List.mem_of_getElem? (i := 3) rfl)) (hty.2.2 _ (List.mem_of_getElem? (i := 0) rfl))
  obtain ⟨ha, hb⟩ := h
  refine And.intro (fun c10 => ?_) (fun c10 => ?_)
  · replace h := ha c10
    clear ha hb
    intro _
    obtain ⟨k1, h⟩ := h
    refine And.intro k1 ?_
    refine And.intro k1 ?_
    obtain ⟨k2, h⟩ := h
    refine And.intro k2 ?_
    obtain ⟨k3, h⟩ := h
    obtain ⟨k4, h⟩ := h
    refine And.intro (And.intro k3 k4) ?_
    intro μ_1 e_μ_1
    replace h := h μ_1 e_μ_1
    refine And.intro k1 ?_
    refine And.intro k1 ?_
    obtain ⟨k5, h⟩ := h
    refine And.intro k5 ?_
    obtain ⟨k6, h⟩ := h
    obtain ⟨k7, h⟩ := h
    refine And.intro (And.intro k6 k7) ?_
    intro μ_2 e_μ_2
    replace h := h μ_2 e_μ_2
    refine And.intro k1 ?_
    refine And.intro k1 ?_
    obtain ⟨k8, h⟩ := h
    refine And.intro k8 ?_
    obtain ⟨k9, h⟩ := h
    obtain ⟨k10, h⟩ := h
    refine And.intro (And.intro k9 k10) ?_
    intro μ_3 e_μ_3
    replace h := h μ_3 e_μ_3
    refine And.intro k1 ?_
    refine And.intro k1 ?_
    intro μ_4 e_μ_4
    replace h := h μ_4 e_μ_4
    refine And.intro k1 ?_
    exact h
  · replace h := hb c10
    clear ha hb
    intro _
    exact h
set_option maxRecDepth 20000 in
theorem g_X0_burden_5 {Q X : m_Po} {v0 v1 v2 v3 t : Int} {ε : m_E} {μ : m_M} (h : TY ε μ → i32 v1 → i32 v2 → i32 v3 → ∀ v4 : Int, v4 = t → (v4 = 0 → Q (-1) ε μ) ∧ (0 < v4 → kd ε v0 = 0 ∧ ((6 : Int) ≤ (μ v0 13) → Q (-1) ε μ) ∧ ((μ v0 13) < (6 : Int) → kd ε v4 = 6 ∧ o_X7_spans [(2, v4), (0, v2)] ε μ (fun z ε_1 μ_1 => G cd_X0_burden Q X 27 [(0, (2, v0)), (1, (0, v1)), (2, (0, v2)), (3, (0, v3))] [(0, z)] ε_1 μ_1) m_F))) : G cd_X0_burden Q X 5 [(0, (2, v0)), (1, (0, v1)), (2, (0, v2)), (3, (0, v3))] [(2, t)] ε μ := by
  refine G_run (m_in [5, 27]) 8 _ _ _ _ ?_
  show m_ty [(0, (2, v0)), (1, (0, v1)), (2, (0, v2)), (3, (0, v3))] [(2, t)] ε μ → ∀ v4 : Int, v4 = t → (v4 = 0 → (m_ty [] [] ε μ → Q (-1) ε μ)) ∧ (0 < v4 → (m_ty [(0, (2, v0)), (1, (0, v1)), (2, (0, v2)), (3, (0, v3)), (4, (2, v4))] [] ε μ → (kd ε v0 = 0) ∧ ((6 : Int) ≤ (μ v0 13) → (m_ty [] [] ε μ → Q (-1) ε μ)) ∧ ((μ v0 13) < (6 : Int) → (m_ty [(0, (2, v0)), (1, (0, v1)), (2, (0, v2)), (3, (0, v3)), (4, (2, v4))] [] ε μ → (kd ε v4 = 6) ∧ o_X7_spans [(2, v4), (0, v2)] ε μ (fun z ε_1 μ_1 => G cd_X0_burden Q X 27 [(0, (2, v0)), (1, (0, v1)), (2, (0, v2)), (3, (0, v3))] [(0, z)] ε_1 μ_1) m_F))))
  intro hty
  replace h := h hty.1 (hty.2.1 _ (List.mem_of_getElem? (i := 1) rfl)) (hty.2.1 _ (List.mem_of_getElem? (i := 2) rfl)) (hty.2.1 _ (List.mem_of_getElem? (i := 3) rfl))
  intro v4 e_v4
  replace h := h v4 e_v4
  obtain ⟨ha, hb⟩ := h
  refine And.intro (fun c3 => ?_) (fun c3 => ?_)
  · replace h := ha c3
    clear ha hb
    intro _
    exact h
  · replace h := hb c3
    clear ha hb
    intro _
    obtain ⟨k1, h⟩ := h
    refine And.intro k1 ?_
    obtain ⟨ha, hb⟩ := h
    refine And.intro (fun c2 => ?_) (fun c2 => ?_)
    · replace h := ha c2
      clear ha hb
      intro _
      exact h
    · replace h := hb c2
      clear ha hb
      intro _
      obtain ⟨k2, h⟩ := h
      refine And.intro k2 ?_
      exact h
set_option maxRecDepth 20000 in
theorem g_X0_burden_0 {Q X : m_Po} {v0 v1 v2 v3 : Int} {ε : m_E} {μ : m_M} (h : TY ε μ → i32 v1 → i32 v2 → i32 v3 → kd ε v0 = 0 ∧ o_X0_blockAt [(2, v0), (0, v1)] ε μ (fun z ε_1 μ_1 => G cd_X0_burden Q X 5 [(0, (2, v0)), (1, (0, v1)), (2, (0, v2)), (3, (0, v3))] [(2, z)] ε_1 μ_1) m_F) : G cd_X0_burden Q X 0 [(0, (2, v0)), (1, (0, v1)), (2, (0, v2)), (3, (0, v3))] [] ε μ := by
  refine G_run (m_in [5, 27]) 8 _ _ _ _ ?_
  show m_ty [(0, (2, v0)), (1, (0, v1)), (2, (0, v2)), (3, (0, v3))] [] ε μ → (kd ε v0 = 0) ∧ o_X0_blockAt [(2, v0), (0, v1)] ε μ (fun z ε_1 μ_1 => G cd_X0_burden Q X 5 [(0, (2, v0)), (1, (0, v1)), (2, (0, v2)), (3, (0, v3))] [(2, z)] ε_1 μ_1) m_F
  intro hty
  replace h := h hty.1 (hty.2.1 _ (List.mem_of_getElem? (i := 1) rfl)) (hty.2.1 _ (List.mem_of_getElem? (i := 2) rfl)) (hty.2.1 _ (List.mem_of_getElem? (i := 3) rfl))
  obtain ⟨k1, h⟩ := h
  refine And.intro k1 ?_
  exact h
theorem e_X0_burden {Q X : m_Po} {v0 v1 v2 v3 : Int} {ε : m_E} {μ : m_M} (h : TY ε μ → i32 v1 → i32 v2 → i32 v3 → kd ε v0 = 0 ∧ o_X0_blockAt [(2, v0), (0, v1)] ε μ (fun z ε_1 μ_1 => G cd_X0_burden Q X 5 [(0, (2, v0)), (1, (0, v1)), (2, (0, v2)), (3, (0, v3))] [(2, z)] ε_1 μ_1) m_F) : o_X0_burden [(2, v0), (0, v1), (0, v2), (0, v3)] ε μ Q X := And.intro rfl (g_X0_burden_0 h)
/-! ArchYard$Arch.lean(II)V -/
set_option maxRecDepth 20000 in
theorem g_X0_lean_14 {Q X : m_Po} {ε : m_E} {μ : m_M} (h : TY ε μ → Q 0 ε μ) : G cd_X0_lean Q X 14 [] [] ε μ := by
  refine G_run (m_in [14]) 3 _ _ _ _ ?_
  show m_ty [] [] ε μ → Q 0 ε μ
  intro hty
  replace h := h hty.1 
  exact h
set_option maxRecDepth 20000 in
theorem g_X0_lean_0 {Q X : m_Po} {v0 v1 v2 : Int} {ε : m_E} {μ : m_M} (h : TY ε μ → i32 v1 → i32 v2 → kd ε v0 = 0 ∧ ∀ μ_1 : m_M, μ_1 = st μ v0 14 v1 → ∀ μ_2 : m_M, μ_2 = st μ_1 v0 15 v2 → o_X0_forgetFindings [(2, v0)] ε μ_2 (fun z ε_1 μ_3 => G cd_X0_lean Q X 14 [] [] ε_1 μ_3) m_F) : G cd_X0_lean Q X 0 [(0, (2, v0)), (1, (0, v1)), (2, (0, v2))] [] ε μ := by
  refine G_run (m_in [14]) 3 _ _ _ _ ?_
  show m_ty [(0, (2, v0)), (1, (0, v1)), (2, (0, v2))] [] ε μ → (kd ε v0 = 0) ∧ ∀ μ_1 : m_M, μ_1 = st μ v0 14 v1 → (kd ε v0 = 0) ∧ ∀ μ_2 : m_M, μ_2 = st μ_1 v0 15 v2 → (kd ε v0 = 0) ∧ o_X0_forgetFindings [(2, v0)] ε μ_2 (fun z ε_1 μ_3 => G cd_X0_lean Q X 14 [] [] ε_1 μ_3) m_F
  intro hty
  replace h := h hty.1 (hty.2.1 _ (List.mem_of_getElem? (i := 1) rfl)) (hty.2.1 _ (List.mem_of_getElem? (i := 2) rfl))
  obtain ⟨k1, h⟩ := h
  refine And.intro k1 ?_
  intro μ_1 e_μ_1
  replace h := h μ_1 e_μ_1
  refine And.intro k1 ?_
  intro μ_2 e_μ_2
  replace h := h μ_2 e_μ_2
  refine And.intro k1 ?_
  exact h
theorem e_X0_lean {Q X : m_Po} {v0 v1 v2 : Int} {ε : m_E} {μ : m_M} (h : TY ε μ → i32 v1 → i32 v2 → kd ε v0 = 0 ∧ ∀ μ_1 : m_M, μ_1 = st μ v0 14 v1 → ∀ μ_2 : m_M, μ_2 = st μ_1 v0 15 v2 → o_X0_forgetFindings [(2, v0)] ε μ_2 (fun z ε_1 μ_3 => G cd_X0_lean Q X 14 [] [] ε_1 μ_3) m_F) : o_X0_lean [(2, v0), (0, v1), (0, v2)] ε μ Q X := And.intro rfl (g_X0_lean_0 h)
/-! ArchYard$Arch.mayStand(I)Z -/
set_option maxRecDepth 20000 in
theorem g_X0_mayStand_73 {Q X : m_Po} {t : Int} {ε : m_E} {μ : m_M} (h : TY ε μ → i32 t → (t = 0 ∨ t = 1) ∧ Q t ε μ) : G cd_X0_mayStand Q X 73 [] [(0, t)] ε μ := by
  refine G_run (m_in [5, 27, 37, 44, 73]) 18 _ _ _ _ ?_
  show m_ty [] [(0, t)] ε μ → (t = 0 ∨ t = 1) ∧ Q t ε μ
  intro hty
  replace h := h hty.1 (hty.2.2 _ (List.mem_of_getElem? (i := 0) rfl))
  obtain ⟨k1, h⟩ := h
  refine And.intro k1 ?_
  exact h
set_option maxRecDepth 20000 in
theorem g_X0_mayStand_44 {Q X : m_Po} {ε : m_E} {μ : m_M} (h : TY ε μ → Q 0 ε μ) : G cd_X0_mayStand Q X 44 [] [] ε μ := by
  refine G_run (m_in [5, 27, 37, 44, 73]) 18 _ _ _ _ ?_
  show m_ty [] [] ε μ → (m_ty [] [(0, 0)] ε μ → (0 = 0 ∨ 0 = 1) ∧ Q 0 ε μ)
  intro hty
  replace h := h hty.1 
  intro _
  refine And.intro (Or.inl rfl) ?_
  exact h
set_option maxRecDepth 20000 in
theorem g_X0_mayStand_37 {Q X : m_Po} {t : Int} {ε : m_E} {μ : m_M} (h : TY ε μ → (t = 0 → G cd_X0_mayStand Q X 44 [] [] ε μ) ∧ (0 < t → Q 1 ε μ)) : G cd_X0_mayStand Q X 37 [] [(2, t)] ε μ := by
  refine G_run (m_in [5, 27, 37, 44, 73]) 18 _ _ _ _ ?_
  show m_ty [] [(2, t)] ε μ → (t = 0 → G cd_X0_mayStand Q X 44 [] [] ε μ) ∧ (0 < t → (m_ty [] [] ε μ → (m_ty [] [(0, 1)] ε μ → (1 = 0 ∨ 1 = 1) ∧ Q 1 ε μ)))
  intro hty
  replace h := h hty.1 
  obtain ⟨ha, hb⟩ := h
  refine And.intro (fun c0 => ?_) (fun c0 => ?_)
  · replace h := ha c0
    clear ha hb
    exact h
  · replace h := hb c0
    clear ha hb
    intro _
    intro _
    refine And.intro (Or.inr rfl) ?_
    exact h
set_option maxRecDepth 20000 in
theorem g_X0_mayStand_27 {Q X : m_Po} {v0 v1 t : Int} {ε : m_E} {μ : m_M} (h : TY ε μ → i32 v1 → (t = 0 → G cd_X0_mayStand Q X 44 [] [] ε μ) ∧ (0 < t → kd ε v0 = 0 ∧ o_X0_blockAt [(2, v0), (0, w32 (v1 + 1))] ε μ (fun z ε_1 μ_1 => G cd_X0_mayStand Q X 37 [] [(2, z)] ε_1 μ_1) m_F)) : G cd_X0_mayStand Q X 27 [(0, (2, v0)), (1, (0, v1))] [(2, t)] ε μ := by
  refine G_run (m_in [5, 27, 37, 44, 73]) 18 _ _ _ _ ?_
  show m_ty [(0, (2, v0)), (1, (0, v1))] [(2, t)] ε μ → (t = 0 → G cd_X0_mayStand Q X 44 [] [] ε μ) ∧ (0 < t → (m_ty [(0, (2, v0)), (1, (0, v1))] [] ε μ → (kd ε v0 = 0) ∧ o_X0_blockAt [(2, v0), (0, w32 (v1 + 1))] ε μ (fun z ε_1 μ_1 => G cd_X0_mayStand Q X 37 [] [(2, z)] ε_1 μ_1) m_F))
  intro hty
  replace h := h hty.1 (hty.2.1 _ (List.mem_of_getElem? (i := 1) rfl))
  obtain ⟨ha, hb⟩ := h
  refine And.intro (fun c1 => ?_) (fun c1 => ?_)
  · replace h := ha c1
    clear ha hb
    exact h
  · replace h := hb c1
    clear ha hb
    intro _
    obtain ⟨k1, h⟩ := h
    refine And.intro k1 ?_
    exact h
set_option maxRecDepth 20000 in
theorem g_X0_mayStand_5 {Q X : m_Po} {v0 v1 t : Int} {ε : m_E} {μ : m_M} (h : TY ε μ → i32 v1 → ∀ v2 : Int, v2 = t → (v2 = 0 → Q 0 ε μ) ∧ (0 < v2 → kd ε v2 = 6 ∧ ((fn ε v2 0) ≠ (1 : Int) → (((fn ε v2 0) = (2 : Int) → (v1 ≠ 0 → kd ε v0 = 0))) ∧ ∀ t_1 : Int, t_1 = (if (fn ε v2 0) = (2 : Int) then if v1 = 0 then 1 else if v1 = (w32 ((fn ε v0 0) - 1)) then 1 else 0 else 1) → Q t_1 ε μ) ∧ ((fn ε v2 0) = (1 : Int) → kd ε v0 = 0 ∧ o_X0_blockAt [(2, v0), (0, w32 (v1 - 1))] ε μ (fun z ε_1 μ_1 => G cd_X0_mayStand Q X 27 [(0, (2, v0)), (1, (0, v1))] [(2, z)] ε_1 μ_1) m_F))) : G cd_X0_mayStand Q X 5 [(0, (2, v0)), (1, (0, v1))] [(2, t)] ε μ := by
  refine G_run (m_in [5, 27, 37, 44, 73]) 18 _ _ _ _ ?_
  show m_ty [(0, (2, v0)), (1, (0, v1))] [(2, t)] ε μ → ∀ v2 : Int, v2 = t → (v2 = 0 → (m_ty [] [] ε μ → (0 = 0 ∨ 0 = 1) ∧ Q 0 ε μ)) ∧ (0 < v2 → (m_ty [(0, (2, v0)), (1, (0, v1)), (2, (2, v2))] [] ε μ → (kd ε v2 = 6) ∧ ((fn ε v2 0) ≠ (1 : Int) → (m_ty [(0, (2, v0)), (1, (0, v1)), (2, (2, v2))] [] ε μ → (kd ε v2 = 6) ∧ ((fn ε v2 0) ≠ (2 : Int) → (m_ty [] [] ε μ → G cd_X0_mayStand Q X 73 [] [(0, 1)] ε μ)) ∧ ((fn ε v2 0) = (2 : Int) → (m_ty [(0, (2, v0)), (1, (0, v1))] [] ε μ → (v1 = 0 → (m_ty [] [] ε μ → G cd_X0_mayStand Q X 73 [] [(0, 1)] ε μ)) ∧ (v1 ≠ 0 → (m_ty [(0, (2, v0)), (1, (0, v1))] [] ε μ → (kd ε v0 = 0) ∧ (v1 ≠ (w32 ((fn ε v0 0) - 1)) → (m_ty [] [] ε μ → G cd_X0_mayStand Q X 73 [] [(0, 0)] ε μ)) ∧ (v1 = (w32 ((fn ε v0 0) - 1)) → (m_ty [] [] ε μ → G cd_X0_mayStand Q X 73 [] [(0, 1)] ε μ)))))))) ∧ ((fn ε v2 0) = (1 : Int) → (m_ty [(0, (2, v0)), (1, (0, v1))] [] ε μ → (kd ε v0 = 0) ∧ o_X0_blockAt [(2, v0), (0, w32 (v1 - 1))] ε μ (fun z ε_1 μ_1 => G cd_X0_mayStand Q X 27 [(0, (2, v0)), (1, (0, v1))] [(2, z)] ε_1 μ_1) m_F))))
  intro hty
  replace h := h hty.1 (hty.2.1 _ (List.mem_of_getElem? (i := 1) rfl))
  intro v2 e_v2
  replace h := h v2 e_v2
  obtain ⟨ha, hb⟩ := h
  refine And.intro (fun c8 => ?_) (fun c8 => ?_)
  · replace h := ha c8
    clear ha hb
    intro _
    refine And.intro (Or.inl rfl) ?_
    exact h
  · replace h := hb c8
    clear ha hb
    intro _
    obtain ⟨k1, h⟩ := h
    refine And.intro k1 ?_
    obtain ⟨ha, hb⟩ := h
    refine And.intro (fun c7 => ?_) (fun c7 => ?_)
    · replace h := ha c7
      clear ha hb
      intro _
      refine And.intro k1 ?_
      obtain ⟨hc, hj⟩ := h
      refine And.intro (fun c1 => ?_) (fun c1 => ?_)
      · intro _
        exact g_X0_mayStand_73 (fun _ _ => (And.intro (Or.inr rfl) (hj _ (((if_neg (c1)).trans rfl)).symm)))
      · replace hc := hc c1
        intro _
        refine And.intro (fun c2 => ?_) (fun c2 => ?_)
        · intro _
          exact g_X0_mayStand_73 (fun _ _ => (And.intro (Or.inr rfl) (hj _ (((if_pos c1).trans ((if_pos c2).trans rfl))).symm)))
        · replace hc := hc c2
          intro _
          have k4 := hc
          refine And.intro k4 ?_
          refine And.intro (fun c4 => ?_) (fun c4 => ?_)
          · intro _
            exact g_X0_mayStand_73 (fun _ _ => (And.intro (Or.inl rfl) (hj _ (((if_pos c1).trans ((if_neg (c2)).trans ((if_neg (c4)).trans rfl)))).symm)))
          · intro _
            exact g_X0_mayStand_73 (fun _ _ => (And.intro (Or.inr rfl) (hj _ (((if_pos c1).trans ((if_neg (c2)).trans ((if_pos c4).trans rfl)))).symm)))
    · replace h := hb c7
      clear ha hb
      intro _
      obtain ⟨k7, h⟩ := h
      refine And.intro k7 ?_
      exact h
set_option maxRecDepth 20000 in
theorem g_X0_mayStand_0 {Q X : m_Po} {v0 v1 : Int} {ε : m_E} {μ : m_M} (h : TY ε μ → i32 v1 → kd ε v0 = 0 ∧ o_X0_blockAt [(2, v0), (0, v1)] ε μ (fun z ε_1 μ_1 => G cd_X0_mayStand Q X 5 [(0, (2, v0)), (1, (0, v1))] [(2, z)] ε_1 μ_1) m_F) : G cd_X0_mayStand Q X 0 [(0, (2, v0)), (1, (0, v1))] [] ε μ := by
  refine G_run (m_in [5, 27, 37, 44, 73]) 18 _ _ _ _ ?_
  show m_ty [(0, (2, v0)), (1, (0, v1))] [] ε μ → (kd ε v0 = 0) ∧ o_X0_blockAt [(2, v0), (0, v1)] ε μ (fun z ε_1 μ_1 => G cd_X0_mayStand Q X 5 [(0, (2, v0)), (1, (0, v1))] [(2, z)] ε_1 μ_1) m_F
  intro hty
  replace h := h hty.1 (hty.2.1 _ (List.mem_of_getElem? (i := 1) rfl))
  obtain ⟨k1, h⟩ := h
  refine And.intro k1 ?_
  exact h
theorem e_X0_mayStand {Q X : m_Po} {v0 v1 : Int} {ε : m_E} {μ : m_M} (h : TY ε μ → i32 v1 → kd ε v0 = 0 ∧ o_X0_blockAt [(2, v0), (0, v1)] ε μ (fun z ε_1 μ_1 => G cd_X0_mayStand Q X 5 [(0, (2, v0)), (1, (0, v1))] [(2, z)] ε_1 μ_1) m_F) : o_X0_mayStand [(2, v0), (0, v1)] ε μ Q X := And.intro rfl (g_X0_mayStand_0 h)
/-! ArchYard$Arch.pointsBefore(I)[I -/
set_option maxRecDepth 20000 in
theorem g_X0_pointsBefore_40 {Q X : m_Po} {t : Int} {ε : m_E} {μ : m_M} (h : TY ε μ → Q t ε μ) : G cd_X0_pointsBefore Q X 40 [] [(2, t)] ε μ := by
  refine G_run (m_in [19, 27, 40]) 11 _ _ _ _ ?_
  show m_ty [] [(2, t)] ε μ → Q t ε μ
  intro hty
  replace h := h hty.1 
  exact h
set_option maxRecDepth 20000 in
theorem g_X0_pointsBefore_27 {Q X : m_Po} {t : Int} {ε : m_E} {μ : m_M} (h : TY ε μ → ∀ v2 : Int, v2 = t → ((0 < v2 → kd ε v2 = 6)) ∧ ∀ t_1 : Int, t_1 = (if v2 = 0 then 0 else fn ε v2 1) → Q t_1 ε μ) : G cd_X0_pointsBefore Q X 27 [] [(2, t)] ε μ := by
  refine G_run (m_in [19, 27, 40]) 11 _ _ _ _ ?_
  show m_ty [] [(2, t)] ε μ → ∀ v2 : Int, v2 = t → (v2 = 0 → (m_ty [] [] ε μ → G cd_X0_pointsBefore Q X 40 [] [(2, 0)] ε μ)) ∧ (0 < v2 → (m_ty [(2, (2, v2))] [] ε μ → (kd ε v2 = 6) ∧ G cd_X0_pointsBefore Q X 40 [] [(2, fn ε v2 1)] ε μ))
  intro hty
  replace h := h hty.1 
  intro v2 e_v2
  replace h := h v2 e_v2
  obtain ⟨hc, hj⟩ := h
  refine And.intro (fun c0 => ?_) (fun c0 => ?_)
  · intro _
    exact g_X0_pointsBefore_40 (fun _ => (hj _ (((if_pos c0).trans rfl)).symm))
  · replace hc := hc c0
    intro _
    have k2 := hc
    refine And.intro k2 ?_
    exact g_X0_pointsBefore_40 (fun _ => (hj _ (((if_neg (Int.ne_of_gt c0)).trans rfl)).symm))
set_option maxRecDepth 20000 in
theorem g_X0_pointsBefore_19 {Q X : m_Po} {t : Int} {ε : m_E} {μ : m_M} (h : TY ε μ → Q t ε μ) : G cd_X0_pointsBefore Q X 19 [] [(2, t)] ε μ := by
  refine G_run (m_in [19, 27, 40]) 11 _ _ _ _ ?_
  show m_ty [] [(2, t)] ε μ → Q t ε μ
  intro hty
  replace h := h hty.1 
  exact h
set_option maxRecDepth 20000 in
theorem g_X0_pointsBefore_0 {Q X : m_Po} {v0 v1 : Int} {ε : m_E} {μ : m_M} (h : TY ε μ → i32 v1 → (v1 ≠ 0 → kd ε v0 = 0 ∧ o_X0_blockAt [(2, v0), (0, w32 (v1 - 1))] ε μ (fun z ε_1 μ_1 => G cd_X0_pointsBefore Q X 27 [] [(2, z)] ε_1 μ_1) m_F) ∧ (v1 = 0 → kd ε v0 = 0 ∧ ∀ t : Int, t = (if (μ v0 11) = 0 then 0 else fn ε v0 3) → Q t ε μ)) : G cd_X0_pointsBefore Q X 0 [(0, (2, v0)), (1, (0, v1))] [] ε μ := by
  refine G_run (m_in [19, 27, 40]) 11 _ _ _ _ ?_
  show m_ty [(0, (2, v0)), (1, (0, v1))] [] ε μ → (v1 ≠ 0 → (m_ty [(0, (2, v0)), (1, (0, v1))] [] ε μ → (kd ε v0 = 0) ∧ o_X0_blockAt [(2, v0), (0, w32 (v1 - 1))] ε μ (fun z ε_1 μ_1 => G cd_X0_pointsBefore Q X 27 [] [(2, z)] ε_1 μ_1) m_F)) ∧ (v1 = 0 → (m_ty [(0, (2, v0))] [] ε μ → (kd ε v0 = 0) ∧ ((μ v0 11) = 0 → (m_ty [] [] ε μ → G cd_X0_pointsBefore Q X 19 [] [(2, 0)] ε μ)) ∧ ((μ v0 11) ≠ 0 → (m_ty [(0, (2, v0))] [] ε μ → (kd ε v0 = 0) ∧ G cd_X0_pointsBefore Q X 19 [] [(2, fn ε v0 3)] ε μ))))
  intro hty
  replace h := h hty.1 (hty.2.1 _ (List.mem_of_getElem? (i := 1) rfl))
  obtain ⟨ha, hb⟩ := h
  refine And.intro (fun c3 => ?_) (fun c3 => ?_)
  · replace h := ha c3
    clear ha hb
    intro _
    obtain ⟨k1, h⟩ := h
    refine And.intro k1 ?_
    exact h
  · replace h := hb c3
    clear ha hb
    intro _
    obtain ⟨k2, h⟩ := h
    refine And.intro k2 ?_
    have hj := h
    refine And.intro (fun c2 => ?_) (fun c2 => ?_)
    · intro _
      exact g_X0_pointsBefore_19 (fun _ => (hj _ (((if_pos c2).trans rfl)).symm))
    · intro _
      refine And.intro k2 ?_
      exact g_X0_pointsBefore_19 (fun _ => (hj _ (((if_neg (c2)).trans rfl)).symm))
theorem e_X0_pointsBefore {Q X : m_Po} {v0 v1 : Int} {ε : m_E} {μ : m_M} (h : TY ε μ → i32 v1 → (v1 ≠ 0 → kd ε v0 = 0 ∧ o_X0_blockAt [(2, v0), (0, w32 (v1 - 1))] ε μ (fun z ε_1 μ_1 => G cd_X0_pointsBefore Q X 27 [] [(2, z)] ε_1 μ_1) m_F) ∧ (v1 = 0 → kd ε v0 = 0 ∧ ∀ t : Int, t = (if (μ v0 11) = 0 then 0 else fn ε v0 3) → Q t ε μ)) : o_X0_pointsBefore [(2, v0), (0, v1)] ε μ Q X := And.intro rfl (g_X0_pointsBefore_0 h)
/-! ArchYard$Arch.pointsAfter(I)[I -/
set_option maxRecDepth 20000 in
theorem g_X0_pointsAfter_42 {Q X : m_Po} {t : Int} {ε : m_E} {μ : m_M} (h : TY ε μ → Q t ε μ) : G cd_X0_pointsAfter Q X 42 [] [(2, t)] ε μ := by
  refine G_run (m_in [23, 29, 42]) 11 _ _ _ _ ?_
  show m_ty [] [(2, t)] ε μ → Q t ε μ
  intro hty
  replace h := h hty.1 
  exact h
set_option maxRecDepth 20000 in
theorem g_X0_pointsAfter_29 {Q X : m_Po} {t : Int} {ε : m_E} {μ : m_M} (h : TY ε μ → ∀ v2 : Int, v2 = t → ((0 < v2 → kd ε v2 = 6)) ∧ ∀ t_1 : Int, t_1 = (if v2 = 0 then 0 else fn ε v2 1) → Q t_1 ε μ) : G cd_X0_pointsAfter Q X 29 [] [(2, t)] ε μ := by
  refine G_run (m_in [23, 29, 42]) 11 _ _ _ _ ?_
  show m_ty [] [(2, t)] ε μ → ∀ v2 : Int, v2 = t → (v2 = 0 → (m_ty [] [] ε μ → G cd_X0_pointsAfter Q X 42 [] [(2, 0)] ε μ)) ∧ (0 < v2 → (m_ty [(2, (2, v2))] [] ε μ → (kd ε v2 = 6) ∧ G cd_X0_pointsAfter Q X 42 [] [(2, fn ε v2 1)] ε μ))
  intro hty
  replace h := h hty.1 
  intro v2 e_v2
  replace h := h v2 e_v2
  obtain ⟨hc, hj⟩ := h
  refine And.intro (fun c0 => ?_) (fun c0 => ?_)
  · intro _
    exact g_X0_pointsAfter_42 (fun _ => (hj _ (((if_pos c0).trans rfl)).symm))
  · replace hc := hc c0
    intro _
    have k2 := hc
    refine And.intro k2 ?_
    exact g_X0_pointsAfter_42 (fun _ => (hj _ (((if_neg (Int.ne_of_gt c0)).trans rfl)).symm))
set_option maxRecDepth 20000 in
theorem g_X0_pointsAfter_23 {Q X : m_Po} {t : Int} {ε : m_E} {μ : m_M} (h : TY ε μ → Q t ε μ) : G cd_X0_pointsAfter Q X 23 [] [(2, t)] ε μ := by
  refine G_run (m_in [23, 29, 42]) 11 _ _ _ _ ?_
  show m_ty [] [(2, t)] ε μ → Q t ε μ
  intro hty
  replace h := h hty.1 
  exact h
set_option maxRecDepth 20000 in
theorem g_X0_pointsAfter_0 {Q X : m_Po} {v0 v1 : Int} {ε : m_E} {μ : m_M} (h : TY ε μ → i32 v1 → kd ε v0 = 0 ∧ (v1 ≠ (fn ε v0 0) → o_X0_blockAt [(2, v0), (0, v1)] ε μ (fun z ε_1 μ_1 => G cd_X0_pointsAfter Q X 29 [] [(2, z)] ε_1 μ_1) m_F) ∧ (v1 = (fn ε v0 0) → ∀ t : Int, t = (if (μ v0 12) = 0 then 0 else fn ε v0 4) → Q t ε μ)) : G cd_X0_pointsAfter Q X 0 [(0, (2, v0)), (1, (0, v1))] [] ε μ := by
  refine G_run (m_in [23, 29, 42]) 11 _ _ _ _ ?_
  show m_ty [(0, (2, v0)), (1, (0, v1))] [] ε μ → (kd ε v0 = 0) ∧ (v1 ≠ (fn ε v0 0) → (m_ty [(0, (2, v0)), (1, (0, v1))] [] ε μ → (kd ε v0 = 0) ∧ o_X0_blockAt [(2, v0), (0, v1)] ε μ (fun z ε_1 μ_1 => G cd_X0_pointsAfter Q X 29 [] [(2, z)] ε_1 μ_1) m_F)) ∧ (v1 = (fn ε v0 0) → (m_ty [(0, (2, v0))] [] ε μ → (kd ε v0 = 0) ∧ ((μ v0 12) = 0 → (m_ty [] [] ε μ → G cd_X0_pointsAfter Q X 23 [] [(2, 0)] ε μ)) ∧ ((μ v0 12) ≠ 0 → (m_ty [(0, (2, v0))] [] ε μ → (kd ε v0 = 0) ∧ G cd_X0_pointsAfter Q X 23 [] [(2, fn ε v0 4)] ε μ))))
  intro hty
  replace h := h hty.1 (hty.2.1 _ (List.mem_of_getElem? (i := 1) rfl))
  obtain ⟨k1, h⟩ := h
  refine And.intro k1 ?_
  obtain ⟨ha, hb⟩ := h
  refine And.intro (fun c2 => ?_) (fun c2 => ?_)
  · replace h := ha c2
    clear ha hb
    intro _
    refine And.intro k1 ?_
    exact h
  · replace h := hb c2
    clear ha hb
    intro _
    refine And.intro k1 ?_
    have hj := h
    refine And.intro (fun c1 => ?_) (fun c1 => ?_)
    · intro _
      exact g_X0_pointsAfter_23 (fun _ => (hj _ (((if_pos c1).trans rfl)).symm))
    · intro _
      refine And.intro k1 ?_
      exact g_X0_pointsAfter_23 (fun _ => (hj _ (((if_neg (c1)).trans rfl)).symm))
theorem e_X0_pointsAfter {Q X : m_Po} {v0 v1 : Int} {ε : m_E} {μ : m_M} (h : TY ε μ → i32 v1 → kd ε v0 = 0 ∧ (v1 ≠ (fn ε v0 0) → o_X0_blockAt [(2, v0), (0, v1)] ε μ (fun z ε_1 μ_1 => G cd_X0_pointsAfter Q X 29 [] [(2, z)] ε_1 μ_1) m_F) ∧ (v1 = (fn ε v0 0) → ∀ t : Int, t = (if (μ v0 12) = 0 then 0 else fn ε v0 4) → Q t ε μ)) : o_X0_pointsAfter [(2, v0), (0, v1)] ε μ Q X := And.intro rfl (g_X0_pointsAfter_0 h)
/-! ArchYard$Shape.pointsOf([I)I -/
set_option maxRecDepth 20000 in
theorem g_X6_pointsOf_0 {Q X : m_Po} {v0 : Int} {ε : m_E} {μ : m_M} (h : TY ε μ → kd ε v0 = 100 ∧ Q (w32 (Int.tdiv (ln ε v0) 2)) ε μ) : G cd_X6_pointsOf Q X 0 [(0, (2, v0))] [] ε μ := by
  refine G_run (m_in []) 2 _ _ _ _ ?_
  show m_ty [(0, (2, v0))] [] ε μ → (kd ε v0 = 100) ∧ (2 : Int) ≠ 0 ∧ Q (w32 (Int.tdiv (ln ε v0) 2)) ε μ
  intro hty
  replace h := h hty.1 
  obtain ⟨k1, h⟩ := h
  refine And.intro k1 ?_
  refine And.intro (by decide) ?_
  exact h
theorem e_X6_pointsOf {Q X : m_Po} {v0 : Int} {ε : m_E} {μ : m_M} (h : TY ε μ → kd ε v0 = 100 ∧ Q (w32 (Int.tdiv (ln ε v0) 2)) ε μ) : o_X6_pointsOf [(2, v0)] ε μ Q X := And.intro rfl (g_X6_pointsOf_0 h)
/-! ArchYard$Shape.facesOf([I)I -/
set_option maxRecDepth 20000 in
theorem g_X6_facesOf_15 {Q X : m_Po} {t : Int} {ε : m_E} {μ : m_M} (h : TY ε μ → i32 t → Q t ε μ) : G cd_X6_facesOf Q X 15 [] [(0, t)] ε μ := by
  refine G_run (m_in [4, 15]) 6 _ _ _ _ ?_
  show m_ty [] [(0, t)] ε μ → Q t ε μ
  intro hty
  replace h := h hty.1 (hty.2.2 _ (List.mem_of_getElem? (i := 0) rfl))
  exact h
set_option maxRecDepth 20000 in
theorem g_X6_facesOf_4 {Q X : m_Po} {t : Int} {ε : m_E} {μ : m_M} (h : TY ε μ → i32 t → ∀ v1 : Int, v1 = t → ∀ t_1 : Int, t_1 = (if v1 = (2 : Int) then 1 else v1) → Q t_1 ε μ) : G cd_X6_facesOf Q X 4 [] [(0, t)] ε μ := by
  refine G_run (m_in [4, 15]) 6 _ _ _ _ ?_
  show m_ty [] [(0, t)] ε μ → ∀ v1 : Int, v1 = t → (v1 ≠ (2 : Int) → (m_ty [(1, (0, v1))] [] ε μ → G cd_X6_facesOf Q X 15 [] [(0, v1)] ε μ)) ∧ (v1 = (2 : Int) → (m_ty [] [] ε μ → G cd_X6_facesOf Q X 15 [] [(0, 1)] ε μ))
  intro hty
  replace h := h hty.1 (hty.2.2 _ (List.mem_of_getElem? (i := 0) rfl))
  intro v1 e_v1
  replace h := h v1 e_v1
  have hj := h
  refine And.intro (fun c0 => ?_) (fun c0 => ?_)
  · intro _
    exact g_X6_facesOf_15 (fun _ _ => (hj _ (((if_neg (c0)).trans rfl)).symm))
  · intro _
    exact g_X6_facesOf_15 (fun _ _ => (hj _ (((if_pos c0).trans rfl)).symm))
set_option maxRecDepth 20000 in
theorem g_X6_facesOf_0 {Q X : m_Po} {v0 : Int} {ε : m_E} {μ : m_M} (h : TY ε μ → o_X6_pointsOf [(2, v0)] ε μ (fun z ε_1 μ_1 => G cd_X6_facesOf Q X 4 [] [(0, z)] ε_1 μ_1) m_F) : G cd_X6_facesOf Q X 0 [(0, (2, v0))] [] ε μ := by
  refine G_run (m_in [4, 15]) 6 _ _ _ _ ?_
  show m_ty [(0, (2, v0))] [] ε μ → o_X6_pointsOf [(2, v0)] ε μ (fun z ε_1 μ_1 => G cd_X6_facesOf Q X 4 [] [(0, z)] ε_1 μ_1) m_F
  intro hty
  replace h := h hty.1 
  exact h
theorem e_X6_facesOf {Q X : m_Po} {v0 : Int} {ε : m_E} {μ : m_M} (h : TY ε μ → o_X6_pointsOf [(2, v0)] ε μ (fun z ε_1 μ_1 => G cd_X6_facesOf Q X 4 [] [(0, z)] ε_1 μ_1) m_F) : o_X6_facesOf [(2, v0)] ε μ Q X := And.intro rfl (g_X6_facesOf_0 h)
/-! ArchYard$Shape.xOf([II)I -/
set_option maxRecDepth 20000 in
theorem g_X6_xOf_25 {Q X : m_Po} {t : Int} {ε : m_E} {μ : m_M} (h : TY ε μ → i32 t → Q t ε μ) : G cd_X6_xOf Q X 25 [] [(0, t)] ε μ := by
  refine G_run (m_in [25]) 6 _ _ _ _ ?_
  show m_ty [] [(0, t)] ε μ → Q t ε μ
  intro hty
  replace h := h hty.1 (hty.2.2 _ (List.mem_of_getElem? (i := 0) rfl))
  exact h
set_option maxRecDepth 20000 in
theorem g_X6_xOf_0 {Q X : m_Po} {v0 v1 : Int} {ε : m_E} {μ : m_M} (h : TY ε μ → i32 v1 → kd ε v0 = 100 ∧ ∀ v2 : Int, v2 = w32 (Int.tdiv (ln ε v0) 2) → (((1 : Int) ≤ v2 → (0 ≤ v1 → v2 ≠ 0 ∧ (0 : Int) ≤ w32 (2 * (Int.tmod v1 v2)) ∧ w32 (2 * (Int.tmod v1 v2)) < ln ε v0))) ∧ ∀ t : Int, t = (if v2 < (1 : Int) then 0 else if 0 ≤ v1 then μ v0 (w32 (2 * (Int.tmod v1 v2))) else 0) → Q t ε μ) : G cd_X6_xOf Q X 0 [(0, (2, v0)), (1, (0, v1))] [] ε μ := by
  refine G_run (m_in [25]) 6 _ _ _ _ ?_
  show m_ty [(0, (2, v0)), (1, (0, v1))] [] ε μ → (kd ε v0 = 100) ∧ (2 : Int) ≠ 0 ∧ ∀ v2 : Int, v2 = w32 (Int.tdiv (ln ε v0) 2) → (v2 < (1 : Int) → (m_ty [] [] ε μ → G cd_X6_xOf Q X 25 [] [(0, 0)] ε μ)) ∧ ((1 : Int) ≤ v2 → (m_ty [(0, (2, v0)), (1, (0, v1)), (2, (0, v2))] [] ε μ → (0 ≤ v1 → (m_ty [(0, (2, v0)), (1, (0, v1)), (2, (0, v2))] [] ε μ → (v2 ≠ 0) ∧ (kd ε v0 = 100) ∧ ((0 : Int) ≤ w32 (2 * (Int.tmod v1 v2)) ∧ w32 (2 * (Int.tmod v1 v2)) < ln ε v0) ∧ G cd_X6_xOf Q X 25 [] [(0, μ v0 (w32 (2 * (Int.tmod v1 v2))))] ε μ)) ∧ (v1 < 0 → (m_ty [] [] ε μ → G cd_X6_xOf Q X 25 [] [(0, 0)] ε μ))))
  intro hty
  replace h := h hty.1 (hty.2.1 _ (List.mem_of_getElem? (i := 1) rfl))
  obtain ⟨k1, h⟩ := h
  refine And.intro k1 ?_
  refine And.intro (by decide) ?_
  intro v2 e_v2
  replace h := h v2 e_v2
  obtain ⟨hc, hj⟩ := h
  refine And.intro (fun c1 => ?_) (fun c1 => ?_)
  · intro _
    exact g_X6_xOf_25 (fun _ _ => (hj _ (((if_pos c1).trans rfl)).symm))
  · replace hc := hc c1
    intro _
    refine And.intro (fun c2 => ?_) (fun c2 => ?_)
    · replace hc := hc c2
      intro _
      obtain ⟨k4, k5, k6⟩ := hc
      refine And.intro k4 ?_
      refine And.intro k1 ?_
      refine And.intro (And.intro k5 k6) ?_
      exact g_X6_xOf_25 (fun _ _ => (hj _ (((if_neg (Int.not_lt.mpr c1)).trans ((if_pos c2).trans rfl))).symm))
    · intro _
      exact g_X6_xOf_25 (fun _ _ => (hj _ (((if_neg (Int.not_lt.mpr c1)).trans ((if_neg (Int.not_le.mpr c2)).trans rfl))).symm))
theorem e_X6_xOf {Q X : m_Po} {v0 v1 : Int} {ε : m_E} {μ : m_M} (h : TY ε μ → i32 v1 → kd ε v0 = 100 ∧ ∀ v2 : Int, v2 = w32 (Int.tdiv (ln ε v0) 2) → (((1 : Int) ≤ v2 → (0 ≤ v1 → v2 ≠ 0 ∧ (0 : Int) ≤ w32 (2 * (Int.tmod v1 v2)) ∧ w32 (2 * (Int.tmod v1 v2)) < ln ε v0))) ∧ ∀ t : Int, t = (if v2 < (1 : Int) then 0 else if 0 ≤ v1 then μ v0 (w32 (2 * (Int.tmod v1 v2))) else 0) → Q t ε μ) : o_X6_xOf [(2, v0), (0, v1)] ε μ Q X := And.intro rfl (g_X6_xOf_0 h)
/-! ArchYard$Shape.yOf([II)I -/
set_option maxRecDepth 20000 in
theorem g_X6_yOf_27 {Q X : m_Po} {t : Int} {ε : m_E} {μ : m_M} (h : TY ε μ → i32 t → Q t ε μ) : G cd_X6_yOf Q X 27 [] [(0, t)] ε μ := by
  refine G_run (m_in [27]) 6 _ _ _ _ ?_
  show m_ty [] [(0, t)] ε μ → Q t ε μ
  intro hty
  replace h := h hty.1 (hty.2.2 _ (List.mem_of_getElem? (i := 0) rfl))
  exact h
set_option maxRecDepth 20000 in
theorem g_X6_yOf_0 {Q X : m_Po} {v0 v1 : Int} {ε : m_E} {μ : m_M} (h : TY ε μ → i32 v1 → kd ε v0 = 100 ∧ ∀ v2 : Int, v2 = w32 (Int.tdiv (ln ε v0) 2) → (((1 : Int) ≤ v2 → (0 ≤ v1 → v2 ≠ 0 ∧ (0 : Int) ≤ w32 ((w32 (2 * (Int.tmod v1 v2))) + 1) ∧ w32 ((w32 (2 * (Int.tmod v1 v2))) + 1) < ln ε v0))) ∧ ∀ t : Int, t = (if v2 < (1 : Int) then 0 else if 0 ≤ v1 then μ v0 (w32 ((w32 (2 * (Int.tmod v1 v2))) + 1)) else 0) → Q t ε μ) : G cd_X6_yOf Q X 0 [(0, (2, v0)), (1, (0, v1))] [] ε μ := by
  refine G_run (m_in [27]) 6 _ _ _ _ ?_
  show m_ty [(0, (2, v0)), (1, (0, v1))] [] ε μ → (kd ε v0 = 100) ∧ (2 : Int) ≠ 0 ∧ ∀ v2 : Int, v2 = w32 (Int.tdiv (ln ε v0) 2) → (v2 < (1 : Int) → (m_ty [] [] ε μ → G cd_X6_yOf Q X 27 [] [(0, 0)] ε μ)) ∧ ((1 : Int) ≤ v2 → (m_ty [(0, (2, v0)), (1, (0, v1)), (2, (0, v2))] [] ε μ → (0 ≤ v1 → (m_ty [(0, (2, v0)), (1, (0, v1)), (2, (0, v2))] [] ε μ → (v2 ≠ 0) ∧ (kd ε v0 = 100) ∧ ((0 : Int) ≤ w32 ((w32 (2 * (Int.tmod v1 v2))) + 1) ∧ w32 ((w32 (2 * (Int.tmod v1 v2))) + 1) < ln ε v0) ∧ G cd_X6_yOf Q X 27 [] [(0, μ v0 (w32 ((w32 (2 * (Int.tmod v1 v2))) + 1)))] ε μ)) ∧ (v1 < 0 → (m_ty [] [] ε μ → G cd_X6_yOf Q X 27 [] [(0, 0)] ε μ))))
  intro hty
  replace h := h hty.1 (hty.2.1 _ (List.mem_of_getElem? (i := 1) rfl))
  obtain ⟨k1, h⟩ := h
  refine And.intro k1 ?_
  refine And.intro (by decide) ?_
  intro v2 e_v2
  replace h := h v2 e_v2
  obtain ⟨hc, hj⟩ := h
  refine And.intro (fun c1 => ?_) (fun c1 => ?_)
  · intro _
    exact g_X6_yOf_27 (fun _ _ => (hj _ (((if_pos c1).trans rfl)).symm))
  · replace hc := hc c1
    intro _
    refine And.intro (fun c2 => ?_) (fun c2 => ?_)
    · replace hc := hc c2
      intro _
      obtain ⟨k4, k5, k6⟩ := hc
      refine And.intro k4 ?_
      refine And.intro k1 ?_
      refine And.intro (And.intro k5 k6) ?_
      exact g_X6_yOf_27 (fun _ _ => (hj _ (((if_neg (Int.not_lt.mpr c1)).trans ((if_pos c2).trans rfl))).symm))
    · intro _
      exact g_X6_yOf_27 (fun _ _ => (hj _ (((if_neg (Int.not_lt.mpr c1)).trans ((if_neg (Int.not_le.mpr c2)).trans rfl))).symm))
theorem e_X6_yOf {Q X : m_Po} {v0 v1 : Int} {ε : m_E} {μ : m_M} (h : TY ε μ → i32 v1 → kd ε v0 = 100 ∧ ∀ v2 : Int, v2 = w32 (Int.tdiv (ln ε v0) 2) → (((1 : Int) ≤ v2 → (0 ≤ v1 → v2 ≠ 0 ∧ (0 : Int) ≤ w32 ((w32 (2 * (Int.tmod v1 v2))) + 1) ∧ w32 ((w32 (2 * (Int.tmod v1 v2))) + 1) < ln ε v0))) ∧ ∀ t : Int, t = (if v2 < (1 : Int) then 0 else if 0 ≤ v1 then μ v0 (w32 ((w32 (2 * (Int.tmod v1 v2))) + 1)) else 0) → Q t ε μ) : o_X6_yOf [(2, v0), (0, v1)] ε μ Q X := And.intro rfl (g_X6_yOf_0 h)
/-! ArchYard$Shape.share([II[II[II)Z -/
set_option maxRecDepth 20000 in
theorem g_X6_share_291 {Q X : m_Po} {t t_1 t_2 t_3 : Int} {ε : m_E} {μ : m_M} (h : TY ε μ → i32 t_1 → i32 t_2 → i32 t_3 → kd ε t = 100 ∧ (0 : Int) ≤ t_1 ∧ t_1 < ln ε t ∧ ∀ μ_1 : m_M, μ_1 = st μ t t_1 (w32 (t_2 + t_3)) → Q 1 ε μ_1) : G cd_X6_share Q X 291 [] [(0, t_3), (0, t_2), (0, t_1), (2, t)] ε μ := by
  refine G_run (m_in [5, 12, 21, 33, 43, 53, 65, 77, 138, 163, 222, 243, 267, 291]) 35 _ _ _ _ ?_
  show m_ty [] [(0, t_3), (0, t_2), (0, t_1), (2, t)] ε μ → (kd ε t = 100) ∧ ((0 : Int) ≤ t_1 ∧ t_1 < ln ε t) ∧ ∀ μ_1 : m_M, μ_1 = st μ t t_1 (w32 (t_2 + t_3)) → (1 = 0 ∨ 1 = 1) ∧ Q 1 ε μ_1
  intro hty
  replace h := h hty.1 (hty.2.2 _ (List.mem_of_getElem? (i := 2) rfl)) (hty.2.2 _ (List.mem_of_getElem? (i := 1) rfl)) (hty.2.2 _ (List.mem_of_getElem? (i := 0) rfl))
  obtain ⟨k1, h⟩ := h
  refine And.intro k1 ?_
  obtain ⟨k2, h⟩ := h
  obtain ⟨k3, h⟩ := h
  refine And.intro (And.intro k2 k3) ?_
  intro μ_1 e_μ_1
  replace h := h μ_1 e_μ_1
  refine And.intro (Or.inr rfl) ?_
  exact h
set_option maxRecDepth 20000 in
theorem g_X6_share_267 {Q X : m_Po} {v4 v5 v7 v9 v11 v14 v16 t t_1 t_2 t_3 : Int} {ε : m_E} {μ : m_M} (h : TY ε μ → i32 v5 → i32 v7 → i32 v9 → i32 v11 → i32 v14 → i32 v16 → i32 t_1 → i32 t_2 → i32 t_3 → kd ε t = 100 ∧ (0 : Int) ≤ t_1 ∧ t_1 < ln ε t ∧ ∀ μ_1 : m_M, μ_1 = st μ t t_1 (w32 (t_2 + t_3)) → ∀ t_4 : Int, t_4 = (if v14 ≤ v16 then v9 else v11) → kd ε v4 = 100 ∧ (0 : Int) ≤ (w32 (v5 + 3)) ∧ (w32 (v5 + 3)) < ln ε v4 ∧ ∀ μ_2 : m_M, μ_2 = st μ_1 v4 (w32 (v5 + 3)) (w32 (v7 + t_4)) → Q 1 ε μ_2) : G cd_X6_share Q X 267 [(4, (2, v4)), (5, (0, v5)), (7, (0, v7)), (9, (0, v9)), (11, (0, v11)), (14, (0, v14)), (16, (0, v16))] [(0, t_3), (0, t_2), (0, t_1), (2, t)] ε μ := by
  refine G_run (m_in [5, 12, 21, 33, 43, 53, 65, 77, 138, 163, 222, 243, 267, 291]) 35 _ _ _ _ ?_
  show m_ty [(4, (2, v4)), (5, (0, v5)), (7, (0, v7)), (9, (0, v9)), (11, (0, v11)), (14, (0, v14)), (16, (0, v16))] [(0, t_3), (0, t_2), (0, t_1), (2, t)] ε μ → (kd ε t = 100) ∧ ((0 : Int) ≤ t_1 ∧ t_1 < ln ε t) ∧ ∀ μ_1 : m_M, μ_1 = st μ t t_1 (w32 (t_2 + t_3)) → (v14 ≤ v16 → (m_ty [(9, (0, v9))] [(0, v7), (0, w32 (v5 + 3)), (2, v4)] ε μ_1 → G cd_X6_share Q X 291 [] [(0, v9), (0, v7), (0, w32 (v5 + 3)), (2, v4)] ε μ_1)) ∧ (v16 < v14 → (m_ty [(11, (0, v11))] [(0, v7), (0, w32 (v5 + 3)), (2, v4)] ε μ_1 → G cd_X6_share Q X 291 [] [(0, v11), (0, v7), (0, w32 (v5 + 3)), (2, v4)] ε μ_1))
  intro hty
  replace h := h hty.1 (hty.2.1 _ (List.mem_of_getElem? (i := 1) rfl)) (hty.2.1 _ (List.mem_of_getElem? (i := 2) rfl)) (hty.2.1 _ (List.mem_of_getElem? (i := 3) rfl)) (hty.2.1 _ (List.mem_of_getElem? (i := 4) rfl)) (hty.2.1 _ (List.mem_of_getElem? (i := 5) rfl)) (hty.2.1 _ (List.mem_of_getElem? (i := 6) rfl)) (hty.2.2 _ (List.mem_of_getElem? (i := 2) rfl)) (hty.2.2 _ (List.mem_of_getElem? (i := 1) rfl)) (hty.2.2 _ (List.mem_of_getElem? (i := 0) rfl))
  obtain ⟨k1, h⟩ := h
  refine And.intro k1 ?_
  obtain ⟨k2, h⟩ := h
  obtain ⟨k3, h⟩ := h
  refine And.intro (And.intro k2 k3) ?_
  intro μ_1 e_μ_1
  replace h := h μ_1 e_μ_1
  have hj := h
  refine And.intro (fun c3 => ?_) (fun c3 => ?_)
  · intro _
    exact g_X6_share_291 (fun _ _ _ _ => (hj _ (((if_pos c3).trans rfl)).symm))
  · intro _
    exact g_X6_share_291 (fun _ _ _ _ => (hj _ (((if_neg (Int.not_le.mpr c3)).trans rfl)).symm))
set_option maxRecDepth 20000 in
theorem g_X6_share_243 {Q X : m_Po} {v4 v5 v6 v7 v8 v9 v10 v11 v14 v16 t t_1 t_2 t_3 : Int} {ε : m_E} {μ : m_M} (h : TY ε μ → i32 v5 → i32 v6 → i32 v7 → i32 v8 → i32 v9 → i32 v10 → i32 v11 → i32 v14 → i32 v16 → i32 t_1 → i32 t_2 → i32 t_3 → kd ε t = 100 ∧ (0 : Int) ≤ t_1 ∧ t_1 < ln ε t ∧ ∀ μ_1 : m_M, μ_1 = st μ t t_1 (w32 (t_2 + t_3)) → ∀ t_4 : Int, t_4 = (if v14 ≤ v16 then v8 else v10) → kd ε v4 = 100 ∧ (0 : Int) ≤ (w32 (v5 + 2)) ∧ (w32 (v5 + 2)) < ln ε v4 ∧ ∀ μ_2 : m_M, μ_2 = st μ_1 v4 (w32 (v5 + 2)) (w32 (v6 + t_4)) → ∀ t_5 : Int, t_5 = (if v14 ≤ v16 then v9 else v11) → kd ε v4 = 100 ∧ (0 : Int) ≤ (w32 (v5 + 3)) ∧ (w32 (v5 + 3)) < ln ε v4 ∧ ∀ μ_3 : m_M, μ_3 = st μ_2 v4 (w32 (v5 + 3)) (w32 (v7 + t_5)) → Q 1 ε μ_3) : G cd_X6_share Q X 243 [(4, (2, v4)), (5, (0, v5)), (6, (0, v6)), (7, (0, v7)), (8, (0, v8)), (9, (0, v9)), (10, (0, v10)), (11, (0, v11)), (14, (0, v14)), (16, (0, v16))] [(0, t_3), (0, t_2), (0, t_1), (2, t)] ε μ := by
  refine G_run (m_in [5, 12, 21, 33, 43, 53, 65, 77, 138, 163, 222, 243, 267, 291]) 35 _ _ _ _ ?_
  show m_ty [(4, (2, v4)), (5, (0, v5)), (6, (0, v6)), (7, (0, v7)), (8, (0, v8)), (9, (0, v9)), (10, (0, v10)), (11, (0, v11)), (14, (0, v14)), (16, (0, v16))] [(0, t_3), (0, t_2), (0, t_1), (2, t)] ε μ → (kd ε t = 100) ∧ ((0 : Int) ≤ t_1 ∧ t_1 < ln ε t) ∧ ∀ μ_1 : m_M, μ_1 = st μ t t_1 (w32 (t_2 + t_3)) → (v14 ≤ v16 → (m_ty [(4, (2, v4)), (5, (0, v5)), (7, (0, v7)), (8, (0, v8)), (9, (0, v9)), (11, (0, v11)), (14, (0, v14)), (16, (0, v16))] [(0, v6), (0, w32 (v5 + 2)), (2, v4)] ε μ_1 → G cd_X6_share Q X 267 [(4, (2, v4)), (5, (0, v5)), (7, (0, v7)), (9, (0, v9)), (11, (0, v11)), (14, (0, v14)), (16, (0, v16))] [(0, v8), (0, v6), (0, w32 (v5 + 2)), (2, v4)] ε μ_1)) ∧ (v16 < v14 → (m_ty [(4, (2, v4)), (5, (0, v5)), (7, (0, v7)), (9, (0, v9)), (10, (0, v10)), (11, (0, v11)), (14, (0, v14)), (16, (0, v16))] [(0, v6), (0, w32 (v5 + 2)), (2, v4)] ε μ_1 → G cd_X6_share Q X 267 [(4, (2, v4)), (5, (0, v5)), (7, (0, v7)), (9, (0, v9)), (11, (0, v11)), (14, (0, v14)), (16, (0, v16))] [(0, v10), (0, v6), (0, w32 (v5 + 2)), (2, v4)] ε μ_1))
  intro hty
  replace h := h hty.1 (hty.2.1 _ (List.mem_of_getElem? (i := 1) rfl)) (hty.2.1 _ (List.mem_of_getElem? (i := 2) rfl)) (hty.2.1 _ (List.mem_of_getElem? (i := 3) rfl)) (hty.2.1 _ (List.mem_of_getElem? (i := 4) rfl)) (hty.2.1 _ (List.mem_of_getElem? (i := 5) rfl)) (hty.2.1 _ (List.mem_of_getElem? (i := 6) rfl)) (hty.2.1 _ (List.mem_of_getElem? (i := 7) rfl)) (hty.2.1 _ (List.mem_of_getElem? (i := 8) rfl)) (hty.2.1 _ (List.mem_of_getElem? (i := 9) rfl)) (hty.2.2 _ (List.mem_of_getElem? (i := 2) rfl)) (hty.2.2 _ (List.mem_of_getElem? (i := 1) rfl)) (hty.2.2 _ (List.mem_of_getElem? (i := 0) rfl))
  obtain ⟨k1, h⟩ := h
  refine And.intro k1 ?_
  obtain ⟨k2, h⟩ := h
  obtain ⟨k3, h⟩ := h
  refine And.intro (And.intro k2 k3) ?_
  intro μ_1 e_μ_1
  replace h := h μ_1 e_μ_1
  have hj := h
  refine And.intro (fun c3 => ?_) (fun c3 => ?_)
  · intro _
    exact g_X6_share_267 (fun _ _ _ _ _ _ _ _ _ _ => (hj _ (((if_pos c3).trans rfl)).symm))
  · intro _
    exact g_X6_share_267 (fun _ _ _ _ _ _ _ _ _ _ => (hj _ (((if_neg (Int.not_le.mpr c3)).trans rfl)).symm))
set_option maxRecDepth 20000 in
theorem g_X6_share_222 {Q X : m_Po} {v4 v5 v6 v7 v8 v9 v10 v11 v13 v14 v15 v16 t t_1 t_2 t_3 : Int} {ε : m_E} {μ : m_M} (h : TY ε μ → i32 v5 → i32 v6 → i32 v7 → i32 v8 → i32 v9 → i32 v10 → i32 v11 → i32 v13 → i32 v14 → i32 v15 → i32 v16 → i32 t_1 → i32 t_2 → i32 t_3 → kd ε t = 100 ∧ (0 : Int) ≤ t_1 ∧ t_1 < ln ε t ∧ ∀ μ_1 : m_M, μ_1 = st μ t t_1 (w32 (t_2 + t_3)) → ∀ t_4 : Int, t_4 = (if v15 ≤ 0 then 0 else v13) → kd ε v4 = 100 ∧ (0 : Int) ≤ (w32 (v5 + 1)) ∧ (w32 (v5 + 1)) < ln ε v4 ∧ ∀ μ_2 : m_M, μ_2 = st μ_1 v4 (w32 (v5 + 1)) (w32 (v7 + t_4)) → ∀ t_5 : Int, t_5 = (if v14 ≤ v16 then v8 else v10) → kd ε v4 = 100 ∧ (0 : Int) ≤ (w32 (v5 + 2)) ∧ (w32 (v5 + 2)) < ln ε v4 ∧ ∀ μ_3 : m_M, μ_3 = st μ_2 v4 (w32 (v5 + 2)) (w32 (v6 + t_5)) → ∀ t_6 : Int, t_6 = (if v14 ≤ v16 then v9 else v11) → kd ε v4 = 100 ∧ (0 : Int) ≤ (w32 (v5 + 3)) ∧ (w32 (v5 + 3)) < ln ε v4 ∧ ∀ μ_4 : m_M, μ_4 = st μ_3 v4 (w32 (v5 + 3)) (w32 (v7 + t_6)) → Q 1 ε μ_4) : G cd_X6_share Q X 222 [(4, (2, v4)), (5, (0, v5)), (6, (0, v6)), (7, (0, v7)), (8, (0, v8)), (9, (0, v9)), (10, (0, v10)), (11, (0, v11)), (13, (0, v13)), (14, (0, v14)), (15, (0, v15)), (16, (0, v16))] [(0, t_3), (0, t_2), (0, t_1), (2, t)] ε μ := by
  refine G_run (m_in [5, 12, 21, 33, 43, 53, 65, 77, 138, 163, 222, 243, 267, 291]) 35 _ _ _ _ ?_
  show m_ty [(4, (2, v4)), (5, (0, v5)), (6, (0, v6)), (7, (0, v7)), (8, (0, v8)), (9, (0, v9)), (10, (0, v10)), (11, (0, v11)), (13, (0, v13)), (14, (0, v14)), (15, (0, v15)), (16, (0, v16))] [(0, t_3), (0, t_2), (0, t_1), (2, t)] ε μ → (kd ε t = 100) ∧ ((0 : Int) ≤ t_1 ∧ t_1 < ln ε t) ∧ ∀ μ_1 : m_M, μ_1 = st μ t t_1 (w32 (t_2 + t_3)) → (v15 ≤ 0 → (m_ty [(4, (2, v4)), (5, (0, v5)), (6, (0, v6)), (7, (0, v7)), (8, (0, v8)), (9, (0, v9)), (10, (0, v10)), (11, (0, v11)), (14, (0, v14)), (16, (0, v16))] [(0, v7), (0, w32 (v5 + 1)), (2, v4)] ε μ_1 → G cd_X6_share Q X 243 [(4, (2, v4)), (5, (0, v5)), (6, (0, v6)), (7, (0, v7)), (8, (0, v8)), (9, (0, v9)), (10, (0, v10)), (11, (0, v11)), (14, (0, v14)), (16, (0, v16))] [(0, 0), (0, v7), (0, w32 (v5 + 1)), (2, v4)] ε μ_1)) ∧ (0 < v15 → (m_ty [(4, (2, v4)), (5, (0, v5)), (6, (0, v6)), (7, (0, v7)), (8, (0, v8)), (9, (0, v9)), (10, (0, v10)), (11, (0, v11)), (13, (0, v13)), (14, (0, v14)), (16, (0, v16))] [(0, v7), (0, w32 (v5 + 1)), (2, v4)] ε μ_1 → G cd_X6_share Q X 243 [(4, (2, v4)), (5, (0, v5)), (6, (0, v6)), (7, (0, v7)), (8, (0, v8)), (9, (0, v9)), (10, (0, v10)), (11, (0, v11)), (14, (0, v14)), (16, (0, v16))] [(0, v13), (0, v7), (0, w32 (v5 + 1)), (2, v4)] ε μ_1))
  intro hty
  replace h := h hty.1 (hty.2.1 _ (List.mem_of_getElem? (i := 1) rfl)) (hty.2.1 _ (List.mem_of_getElem? (i := 2) rfl)) (hty.2.1 _ (List.mem_of_getElem? (i := 3) rfl)) (hty.2.1 _ (List.mem_of_getElem? (i := 4) rfl)) (hty.2.1 _ (List.mem_of_getElem? (i := 5) rfl)) (hty.2.1 _ (List.mem_of_getElem? (i := 6) rfl)) (hty.2.1 _ (List.mem_of_getElem? (i := 7) rfl)) (hty.2.1 _ (List.mem_of_getElem? (i := 8) rfl)) (hty.2.1 _ (List.mem_of_getElem? (i := 9) rfl)) (hty.2.1 _ (List.mem_of_getElem? (i := 10) rfl)) (hty.2.1 _ (List.mem_of_getElem? (i := 11) rfl)) (hty.2.2 _ (List.mem_of_getElem? (i := 2) rfl)) (hty.2.2 _ (List.mem_of_getElem? (i := 1) rfl)) (hty.2.2 _ (List.mem_of_getElem? (i := 0) rfl))
  obtain ⟨k1, h⟩ := h
  refine And.intro k1 ?_
  obtain ⟨k2, h⟩ := h
  obtain ⟨k3, h⟩ := h
  refine And.intro (And.intro k2 k3) ?_
  intro μ_1 e_μ_1
  replace h := h μ_1 e_μ_1
  have hj := h
  refine And.intro (fun c3 => ?_) (fun c3 => ?_)
  · intro _
    exact g_X6_share_243 (fun _ _ _ _ _ _ _ _ _ _ _ _ _ => (hj _ (((if_pos c3).trans rfl)).symm))
  · intro _
    exact g_X6_share_243 (fun _ _ _ _ _ _ _ _ _ _ _ _ _ => (hj _ (((if_neg (Int.not_le.mpr c3)).trans rfl)).symm))
set_option maxRecDepth 20000 in
theorem g_X6_share_163 {Q X : m_Po} {v4 v5 v6 v7 v8 v9 v10 v11 v12 v13 v14 v15 v16 t : Int} {ε : m_E} {μ : m_M} (h : TY ε μ → i32 v5 → i32 v6 → i32 v7 → i32 v8 → i32 v9 → i32 v10 → i32 v11 → i32 v12 → i32 v13 → i32 v14 → i32 v15 → i32 v16 → i32 t → ∀ v17 : Int, v17 = t → (v17 = 0 → Q 0 ε μ) ∧ (v17 ≠ 0 → ((if v15 < 0 then 0 else v15) < (if v14 < v16 then v14 else v16) → (v5 < 0 → Q 0 ε μ) ∧ (0 ≤ v5 → kd ε v4 = 100 ∧ (v5 ≤ (w32 ((ln ε v4) - 4)) → ∀ t_1 : Int, t_1 = (if v15 ≤ 0 then 0 else v12) → kd ε v4 = 100 ∧ (0 : Int) ≤ v5 ∧ v5 < ln ε v4 ∧ ∀ μ_1 : m_M, μ_1 = st μ v4 v5 (w32 (v6 + t_1)) → ∀ t_2 : Int, t_2 = (if v15 ≤ 0 then 0 else v13) → kd ε v4 = 100 ∧ (0 : Int) ≤ (w32 (v5 + 1)) ∧ (w32 (v5 + 1)) < ln ε v4 ∧ ∀ μ_2 : m_M, μ_2 = st μ_1 v4 (w32 (v5 + 1)) (w32 (v7 + t_2)) → ∀ t_3 : Int, t_3 = (if v14 ≤ v16 then v8 else v10) → kd ε v4 = 100 ∧ (0 : Int) ≤ (w32 (v5 + 2)) ∧ (w32 (v5 + 2)) < ln ε v4 ∧ ∀ μ_3 : m_M, μ_3 = st μ_2 v4 (w32 (v5 + 2)) (w32 (v6 + t_3)) → ∀ t_4 : Int, t_4 = (if v14 ≤ v16 then v9 else v11) → kd ε v4 = 100 ∧ (0 : Int) ≤ (w32 (v5 + 3)) ∧ (w32 (v5 + 3)) < ln ε v4 ∧ ∀ μ_4 : m_M, μ_4 = st μ_3 v4 (w32 (v5 + 3)) (w32 (v7 + t_4)) → Q 1 ε μ_4) ∧ ((w32 ((ln ε v4) - 4)) < v5 → Q 0 ε μ))) ∧ ((if v14 < v16 then v14 else v16) ≤ (if v15 < 0 then 0 else v15) → Q 0 ε μ))) : G cd_X6_share Q X 163 [(4, (2, v4)), (5, (0, v5)), (6, (0, v6)), (7, (0, v7)), (8, (0, v8)), (9, (0, v9)), (10, (0, v10)), (11, (0, v11)), (12, (0, v12)), (13, (0, v13)), (14, (0, v14)), (15, (0, v15)), (16, (0, v16))] [(0, t)] ε μ := by
  refine G_run (m_in [5, 12, 21, 33, 43, 53, 65, 77, 138, 163, 222, 243, 267, 291]) 35 _ _ _ _ ?_
  show m_ty [(4, (2, v4)), (5, (0, v5)), (6, (0, v6)), (7, (0, v7)), (8, (0, v8)), (9, (0, v9)), (10, (0, v10)), (11, (0, v11)), (12, (0, v12)), (13, (0, v13)), (14, (0, v14)), (15, (0, v15)), (16, (0, v16))] [(0, t)] ε μ → ∀ v17 : Int, v17 = t → (v17 = 0 → (m_ty [] [] ε μ → (0 = 0 ∨ 0 = 1) ∧ Q 0 ε μ)) ∧ (v17 ≠ 0 → (m_ty [(4, (2, v4)), (5, (0, v5)), (6, (0, v6)), (7, (0, v7)), (8, (0, v8)), (9, (0, v9)), (10, (0, v10)), (11, (0, v11)), (12, (0, v12)), (13, (0, v13)), (14, (0, v14)), (15, (0, v15)), (16, (0, v16))] [] ε μ → ((if v15 < 0 then 0 else v15) < (if v14 < v16 then v14 else v16) → (m_ty [(4, (2, v4)), (5, (0, v5)), (6, (0, v6)), (7, (0, v7)), (8, (0, v8)), (9, (0, v9)), (10, (0, v10)), (11, (0, v11)), (12, (0, v12)), (13, (0, v13)), (14, (0, v14)), (15, (0, v15)), (16, (0, v16))] [] ε μ → (v5 < 0 → (m_ty [] [] ε μ → (0 = 0 ∨ 0 = 1) ∧ Q 0 ε μ)) ∧ (0 ≤ v5 → (m_ty [(4, (2, v4)), (5, (0, v5)), (6, (0, v6)), (7, (0, v7)), (8, (0, v8)), (9, (0, v9)), (10, (0, v10)), (11, (0, v11)), (12, (0, v12)), (13, (0, v13)), (14, (0, v14)), (15, (0, v15)), (16, (0, v16))] [] ε μ → (kd ε v4 = 100) ∧ (v5 ≤ (w32 ((ln ε v4) - 4)) → (m_ty [(4, (2, v4)), (5, (0, v5)), (6, (0, v6)), (7, (0, v7)), (8, (0, v8)), (9, (0, v9)), (10, (0, v10)), (11, (0, v11)), (12, (0, v12)), (13, (0, v13)), (14, (0, v14)), (15, (0, v15)), (16, (0, v16))] [] ε μ → (v15 ≤ 0 → (m_ty [(4, (2, v4)), (5, (0, v5)), (6, (0, v6)), (7, (0, v7)), (8, (0, v8)), (9, (0, v9)), (10, (0, v10)), (11, (0, v11)), (13, (0, v13)), (14, (0, v14)), (15, (0, v15)), (16, (0, v16))] [(0, v6), (0, v5), (2, v4)] ε μ → G cd_X6_share Q X 222 [(4, (2, v4)), (5, (0, v5)), (6, (0, v6)), (7, (0, v7)), (8, (0, v8)), (9, (0, v9)), (10, (0, v10)), (11, (0, v11)), (13, (0, v13)), (14, (0, v14)), (15, (0, v15)), (16, (0, v16))] [(0, 0), (0, v6), (0, v5), (2, v4)] ε μ)) ∧ (0 < v15 → (m_ty [(4, (2, v4)), (5, (0, v5)), (6, (0, v6)), (7, (0, v7)), (8, (0, v8)), (9, (0, v9)), (10, (0, v10)), (11, (0, v11)), (12, (0, v12)), (13, (0, v13)), (14, (0, v14)), (15, (0, v15)), (16, (0, v16))] [(0, v6), (0, v5), (2, v4)] ε μ → G cd_X6_share Q X 222 [(4, (2, v4)), (5, (0, v5)), (6, (0, v6)), (7, (0, v7)), (8, (0, v8)), (9, (0, v9)), (10, (0, v10)), (11, (0, v11)), (13, (0, v13)), (14, (0, v14)), (15, (0, v15)), (16, (0, v16))] [(0, v12), (0, v6), (0, v5), (2, v4)] ε μ)))) ∧ ((w32 ((ln ε v4) - 4)) < v5 → (m_ty [] [] ε μ → (0 = 0 ∨ 0 = 1) ∧ Q 0 ε μ)))))) ∧ ((if v14 < v16 then v14 else v16) ≤ (if v15 < 0 then 0 else v15) → (m_ty [] [] ε μ → (0 = 0 ∨ 0 = 1) ∧ Q 0 ε μ))))
  intro hty
  replace h := h hty.1 (hty.2.1 _ (List.mem_of_getElem? (i := 1) rfl)) (hty.2.1 _ (List.mem_of_getElem? (i := 2) rfl)) (hty.2.1 _ (List.mem_of_getElem? (i := 3) rfl)) (hty.2.1 _ (List.mem_of_getElem? (i := 4) rfl)) (hty.2.1 _ (List.mem_of_getElem? (i := 5) rfl)) (hty.2.1 _ (List.mem_of_getElem? (i := 6) rfl)) (hty.2.1 _ (List.mem_of_getElem? (i := 7) rfl)) (hty.2.1 _ (List.mem_of_getElem? (i := 8) rfl)) (hty.2.1 _ (List.mem_of_getElem? (i := 9) rfl)) (hty.2.1 _ (List.mem_of_getElem? (i := 10) rfl)) (hty.2.1 _ (List.mem_of_getElem? (i := 11) rfl)) (hty.2.1 _ (List.mem_of_getElem? (i := 12) rfl)) (hty.2.2 _ (List.mem_of_getElem? (i := 0) rfl))
  intro v17 e_v17
  replace h := h v17 e_v17
  obtain ⟨ha, hb⟩ := h
  refine And.intro (fun c20 => ?_) (fun c20 => ?_)
  · replace h := ha c20
    clear ha hb
    intro _
    refine And.intro (Or.inl rfl) ?_
    exact h
  · replace h := hb c20
    clear ha hb
    intro _
    obtain ⟨ha, hb⟩ := h
    refine And.intro (fun c19 => ?_) (fun c19 => ?_)
    · replace h := ha c19
      clear ha hb
      intro _
      obtain ⟨ha, hb⟩ := h
      refine And.intro (fun c18 => ?_) (fun c18 => ?_)
      · replace h := ha c18
        clear ha hb
        intro _
        refine And.intro (Or.inl rfl) ?_
        exact h
      · replace h := hb c18
        clear ha hb
        intro _
        obtain ⟨k1, h⟩ := h
        refine And.intro k1 ?_
        obtain ⟨ha, hb⟩ := h
        refine And.intro (fun c17 => ?_) (fun c17 => ?_)
        · replace h := ha c17
          clear ha hb
          intro _
          have hj := h
          refine And.intro (fun c1 => ?_) (fun c1 => ?_)
          · intro _
            exact g_X6_share_222 (fun _ _ _ _ _ _ _ _ _ _ _ _ _ _ _ => (hj _ (((if_pos c1).trans rfl)).symm))
          · intro _
            exact g_X6_share_222 (fun _ _ _ _ _ _ _ _ _ _ _ _ _ _ _ => (hj _ (((if_neg (Int.not_le.mpr c1)).trans rfl)).symm))
        · replace h := hb c17
          clear ha hb
          intro _
          refine And.intro (Or.inl rfl) ?_
          exact h
    · replace h := hb c19
      clear ha hb
      intro _
      refine And.intro (Or.inl rfl) ?_
      exact h
set_option maxRecDepth 20000 in
theorem g_X6_share_138 {Q X : m_Po} {v4 v5 v6 v7 v8 v9 v10 v11 v12 v13 v14 v15 : Int} {ε : m_E} {μ : m_M} (h : TY ε μ → i32 v5 → i32 v6 → i32 v7 → i32 v8 → i32 v9 → i32 v10 → i32 v11 → i32 v12 → i32 v13 → i32 v14 → i32 v15 → ∀ v16 : Int, v16 = w32 ((w32 (v8 * v10)) + (w32 (v9 * v11))) → ∀ t : Int, t = (if v16 ≤ v15 then 0 else 1) → ∀ v17 : Int, v17 = t → (v17 = 0 → Q 0 ε μ) ∧ (v17 ≠ 0 → ((if v15 < 0 then 0 else v15) < (if v14 < v16 then v14 else v16) → (v5 < 0 → Q 0 ε μ) ∧ (0 ≤ v5 → kd ε v4 = 100 ∧ (v5 ≤ (w32 ((ln ε v4) - 4)) → ∀ t_1 : Int, t_1 = (if v15 ≤ 0 then 0 else v12) → kd ε v4 = 100 ∧ (0 : Int) ≤ v5 ∧ v5 < ln ε v4 ∧ ∀ μ_1 : m_M, μ_1 = st μ v4 v5 (w32 (v6 + t_1)) → ∀ t_2 : Int, t_2 = (if v15 ≤ 0 then 0 else v13) → kd ε v4 = 100 ∧ (0 : Int) ≤ (w32 (v5 + 1)) ∧ (w32 (v5 + 1)) < ln ε v4 ∧ ∀ μ_2 : m_M, μ_2 = st μ_1 v4 (w32 (v5 + 1)) (w32 (v7 + t_2)) → ∀ t_3 : Int, t_3 = (if v14 ≤ v16 then v8 else v10) → kd ε v4 = 100 ∧ (0 : Int) ≤ (w32 (v5 + 2)) ∧ (w32 (v5 + 2)) < ln ε v4 ∧ ∀ μ_3 : m_M, μ_3 = st μ_2 v4 (w32 (v5 + 2)) (w32 (v6 + t_3)) → ∀ t_4 : Int, t_4 = (if v14 ≤ v16 then v9 else v11) → kd ε v4 = 100 ∧ (0 : Int) ≤ (w32 (v5 + 3)) ∧ (w32 (v5 + 3)) < ln ε v4 ∧ ∀ μ_4 : m_M, μ_4 = st μ_3 v4 (w32 (v5 + 3)) (w32 (v7 + t_4)) → Q 1 ε μ_4) ∧ ((w32 ((ln ε v4) - 4)) < v5 → Q 0 ε μ))) ∧ ((if v14 < v16 then v14 else v16) ≤ (if v15 < 0 then 0 else v15) → Q 0 ε μ))) : G cd_X6_share Q X 138 [(4, (2, v4)), (5, (0, v5)), (6, (0, v6)), (7, (0, v7)), (8, (0, v8)), (9, (0, v9)), (10, (0, v10)), (11, (0, v11)), (12, (0, v12)), (13, (0, v13)), (14, (0, v14)), (15, (0, v15))] [] ε μ := by
  refine G_run (m_in [5, 12, 21, 33, 43, 53, 65, 77, 138, 163, 222, 243, 267, 291]) 35 _ _ _ _ ?_
  show m_ty [(4, (2, v4)), (5, (0, v5)), (6, (0, v6)), (7, (0, v7)), (8, (0, v8)), (9, (0, v9)), (10, (0, v10)), (11, (0, v11)), (12, (0, v12)), (13, (0, v13)), (14, (0, v14)), (15, (0, v15))] [] ε μ → ∀ v16 : Int, v16 = w32 ((w32 (v8 * v10)) + (w32 (v9 * v11))) → (v16 ≤ v15 → (m_ty [(4, (2, v4)), (5, (0, v5)), (6, (0, v6)), (7, (0, v7)), (8, (0, v8)), (9, (0, v9)), (10, (0, v10)), (11, (0, v11)), (12, (0, v12)), (13, (0, v13)), (14, (0, v14)), (15, (0, v15)), (16, (0, v16))] [] ε μ → G cd_X6_share Q X 163 [(4, (2, v4)), (5, (0, v5)), (6, (0, v6)), (7, (0, v7)), (8, (0, v8)), (9, (0, v9)), (10, (0, v10)), (11, (0, v11)), (12, (0, v12)), (13, (0, v13)), (14, (0, v14)), (15, (0, v15)), (16, (0, v16))] [(0, 0)] ε μ)) ∧ (v15 < v16 → (m_ty [(4, (2, v4)), (5, (0, v5)), (6, (0, v6)), (7, (0, v7)), (8, (0, v8)), (9, (0, v9)), (10, (0, v10)), (11, (0, v11)), (12, (0, v12)), (13, (0, v13)), (14, (0, v14)), (15, (0, v15)), (16, (0, v16))] [] ε μ → G cd_X6_share Q X 163 [(4, (2, v4)), (5, (0, v5)), (6, (0, v6)), (7, (0, v7)), (8, (0, v8)), (9, (0, v9)), (10, (0, v10)), (11, (0, v11)), (12, (0, v12)), (13, (0, v13)), (14, (0, v14)), (15, (0, v15)), (16, (0, v16))] [(0, 1)] ε μ))
  intro hty
  replace h := h hty.1 (hty.2.1 _ (List.mem_of_getElem? (i := 1) rfl)) (hty.2.1 _ (List.mem_of_getElem? (i := 2) rfl)) (hty.2.1 _ (List.mem_of_getElem? (i := 3) rfl)) (hty.2.1 _ (List.mem_of_getElem? (i := 4) rfl)) (hty.2.1 _ (List.mem_of_getElem? (i := 5) rfl)) (hty.2.1 _ (List.mem_of_getElem? (i := 6) rfl)) (hty.2.1 _ (List.mem_of_getElem? (i := 7) rfl)) (hty.2.1 _ (List.mem_of_getElem? (i := 8) rfl)) (hty.2.1 _ (List.mem_of_getElem? (i := 9) rfl)) (hty.2.1 _ (List.mem_of_getElem? (i := 10) rfl)) (hty.2.1 _ (List.mem_of_getElem? (i := 11) rfl))
  intro v16 e_v16
  replace h := h v16 e_v16
  have hj := h
  refine And.intro (fun c0 => ?_) (fun c0 => ?_)
  · intro _
    exact g_X6_share_163 (fun _ _ _ _ _ _ _ _ _ _ _ _ _ _ => (hj _ (((if_pos c0).trans rfl)).symm))
  · intro _
    exact g_X6_share_163 (fun _ _ _ _ _ _ _ _ _ _ _ _ _ _ => (hj _ (((if_neg (Int.not_le.mpr c0)).trans rfl)).symm))
set_option maxRecDepth 20000 in
theorem g_X6_share_77 {Q X : m_Po} {v4 v5 v6 v7 v8 v9 v10 v11 v12 t : Int} {ε : m_E} {μ : m_M} (h : TY ε μ → i32 v5 → i32 v6 → i32 v7 → i32 v8 → i32 v9 → i32 v10 → i32 v11 → i32 v12 → i32 t → ∀ v13 : Int, v13 = w32 (t - v7) → ((w32 ((w32 (v8 * v11)) - (w32 (v9 * v10)))) ≠ 0 → Q 0 ε μ) ∧ ((w32 ((w32 (v8 * v11)) - (w32 (v9 * v10)))) = 0 → ((w32 ((w32 (v8 * v13)) - (w32 (v9 * v12)))) = 0 → ∀ v14 : Int, v14 = w32 ((w32 (v8 * v8)) + (w32 (v9 * v9))) → ∀ v15 : Int, v15 = w32 ((w32 (v8 * v12)) + (w32 (v9 * v13))) → ∀ v16 : Int, v16 = w32 ((w32 (v8 * v10)) + (w32 (v9 * v11))) → ∀ t_1 : Int, t_1 = (if v16 ≤ v15 then 0 else 1) → ∀ v17 : Int, v17 = t_1 → (v17 = 0 → Q 0 ε μ) ∧ (v17 ≠ 0 → ((if v15 < 0 then 0 else v15) < (if v14 < v16 then v14 else v16) → (v5 < 0 → Q 0 ε μ) ∧ (0 ≤ v5 → kd ε v4 = 100 ∧ (v5 ≤ (w32 ((ln ε v4) - 4)) → ∀ t_2 : Int, t_2 = (if v15 ≤ 0 then 0 else v12) → kd ε v4 = 100 ∧ (0 : Int) ≤ v5 ∧ v5 < ln ε v4 ∧ ∀ μ_1 : m_M, μ_1 = st μ v4 v5 (w32 (v6 + t_2)) → ∀ t_3 : Int, t_3 = (if v15 ≤ 0 then 0 else v13) → kd ε v4 = 100 ∧ (0 : Int) ≤ (w32 (v5 + 1)) ∧ (w32 (v5 + 1)) < ln ε v4 ∧ ∀ μ_2 : m_M, μ_2 = st μ_1 v4 (w32 (v5 + 1)) (w32 (v7 + t_3)) → ∀ t_4 : Int, t_4 = (if v14 ≤ v16 then v8 else v10) → kd ε v4 = 100 ∧ (0 : Int) ≤ (w32 (v5 + 2)) ∧ (w32 (v5 + 2)) < ln ε v4 ∧ ∀ μ_3 : m_M, μ_3 = st μ_2 v4 (w32 (v5 + 2)) (w32 (v6 + t_4)) → ∀ t_5 : Int, t_5 = (if v14 ≤ v16 then v9 else v11) → kd ε v4 = 100 ∧ (0 : Int) ≤ (w32 (v5 + 3)) ∧ (w32 (v5 + 3)) < ln ε v4 ∧ ∀ μ_4 : m_M, μ_4 = st μ_3 v4 (w32 (v5 + 3)) (w32 (v7 + t_5)) → Q 1 ε μ_4) ∧ ((w32 ((ln ε v4) - 4)) < v5 → Q 0 ε μ))) ∧ ((if v14 < v16 then v14 else v16) ≤ (if v15 < 0 then 0 else v15) → Q 0 ε μ))) ∧ ((w32 ((w32 (v8 * v13)) - (w32 (v9 * v12)))) ≠ 0 → Q 0 ε μ))) : G cd_X6_share Q X 77 [(4, (2, v4)), (5, (0, v5)), (6, (0, v6)), (7, (0, v7)), (8, (0, v8)), (9, (0, v9)), (10, (0, v10)), (11, (0, v11)), (12, (0, v12))] [(0, t)] ε μ := by
  refine G_run (m_in [5, 12, 21, 33, 43, 53, 65, 77, 138, 163, 222, 243, 267, 291]) 35 _ _ _ _ ?_
  show m_ty [(4, (2, v4)), (5, (0, v5)), (6, (0, v6)), (7, (0, v7)), (8, (0, v8)), (9, (0, v9)), (10, (0, v10)), (11, (0, v11)), (12, (0, v12))] [(0, t)] ε μ → ∀ v13 : Int, v13 = w32 (t - v7) → ((w32 ((w32 (v8 * v11)) - (w32 (v9 * v10)))) ≠ 0 → (m_ty [] [] ε μ → (0 = 0 ∨ 0 = 1) ∧ Q 0 ε μ)) ∧ ((w32 ((w32 (v8 * v11)) - (w32 (v9 * v10)))) = 0 → (m_ty [(4, (2, v4)), (5, (0, v5)), (6, (0, v6)), (7, (0, v7)), (8, (0, v8)), (9, (0, v9)), (10, (0, v10)), (11, (0, v11)), (12, (0, v12)), (13, (0, v13))] [] ε μ → ((w32 ((w32 (v8 * v13)) - (w32 (v9 * v12)))) = 0 → (m_ty [(4, (2, v4)), (5, (0, v5)), (6, (0, v6)), (7, (0, v7)), (8, (0, v8)), (9, (0, v9)), (10, (0, v10)), (11, (0, v11)), (12, (0, v12)), (13, (0, v13))] [] ε μ → ∀ v14 : Int, v14 = w32 ((w32 (v8 * v8)) + (w32 (v9 * v9))) → ∀ v15 : Int, v15 = w32 ((w32 (v8 * v12)) + (w32 (v9 * v13))) → G cd_X6_share Q X 138 [(4, (2, v4)), (5, (0, v5)), (6, (0, v6)), (7, (0, v7)), (8, (0, v8)), (9, (0, v9)), (10, (0, v10)), (11, (0, v11)), (12, (0, v12)), (13, (0, v13)), (14, (0, v14)), (15, (0, v15))] [] ε μ)) ∧ ((w32 ((w32 (v8 * v13)) - (w32 (v9 * v12)))) ≠ 0 → (m_ty [] [] ε μ → (0 = 0 ∨ 0 = 1) ∧ Q 0 ε μ))))
  intro hty
  replace h := h hty.1 (hty.2.1 _ (List.mem_of_getElem? (i := 1) rfl)) (hty.2.1 _ (List.mem_of_getElem? (i := 2) rfl)) (hty.2.1 _ (List.mem_of_getElem? (i := 3) rfl)) (hty.2.1 _ (List.mem_of_getElem? (i := 4) rfl)) (hty.2.1 _ (List.mem_of_getElem? (i := 5) rfl)) (hty.2.1 _ (List.mem_of_getElem? (i := 6) rfl)) (hty.2.1 _ (List.mem_of_getElem? (i := 7) rfl)) (hty.2.1 _ (List.mem_of_getElem? (i := 8) rfl)) (hty.2.2 _ (List.mem_of_getElem? (i := 0) rfl))
  intro v13 e_v13
  replace h := h v13 e_v13
  obtain ⟨ha, hb⟩ := h
  refine And.intro (fun c23 => ?_) (fun c23 => ?_)
  · replace h := ha c23
    clear ha hb
    intro _
    refine And.intro (Or.inl rfl) ?_
    exact h
  · replace h := hb c23
    clear ha hb
    intro _
    obtain ⟨ha, hb⟩ := h
    refine And.intro (fun c22 => ?_) (fun c22 => ?_)
    · replace h := ha c22
      clear ha hb
      intro _
      intro v14 e_v14
      replace h := h v14 e_v14
      intro v15 e_v15
      replace h := h v15 e_v15
      exact g_X6_share_138 (fun _ _ _ _ _ _ _ _ _ _ _ _ => h)
    · replace h := hb c22
      clear ha hb
      intro _
      refine And.intro (Or.inl rfl) ?_
      exact h
set_option maxRecDepth 20000 in
theorem g_X6_share_65 {Q X : m_Po} {v2 v3 v4 v5 v6 v7 v8 v9 v10 v11 t : Int} {ε : m_E} {μ : m_M} (h : TY ε μ → i32 v3 → i32 v5 → i32 v6 → i32 v7 → i32 v8 → i32 v9 → i32 v10 → i32 v11 → i32 t → ∀ v12 : Int, v12 = w32 (t - v6) → o_X6_yOf [(2, v2), (0, w32 (v3 + 1))] ε μ (fun z ε_1 μ_1 => G cd_X6_share Q X 77 [(4, (2, v4)), (5, (0, v5)), (6, (0, v6)), (7, (0, v7)), (8, (0, v8)), (9, (0, v9)), (10, (0, v10)), (11, (0, v11)), (12, (0, v12))] [(0, z)] ε_1 μ_1) m_F) : G cd_X6_share Q X 65 [(2, (2, v2)), (3, (0, v3)), (4, (2, v4)), (5, (0, v5)), (6, (0, v6)), (7, (0, v7)), (8, (0, v8)), (9, (0, v9)), (10, (0, v10)), (11, (0, v11))] [(0, t)] ε μ := by
  refine G_run (m_in [5, 12, 21, 33, 43, 53, 65, 77, 138, 163, 222, 243, 267, 291]) 35 _ _ _ _ ?_
  show m_ty [(2, (2, v2)), (3, (0, v3)), (4, (2, v4)), (5, (0, v5)), (6, (0, v6)), (7, (0, v7)), (8, (0, v8)), (9, (0, v9)), (10, (0, v10)), (11, (0, v11))] [(0, t)] ε μ → ∀ v12 : Int, v12 = w32 (t - v6) → o_X6_yOf [(2, v2), (0, w32 (v3 + 1))] ε μ (fun z ε_1 μ_1 => G cd_X6_share Q X 77 [(4, (2, v4)), (5, (0, v5)), (6, (0, v6)), (7, (0, v7)), (8, (0, v8)), (9, (0, v9)), (10, (0, v10)), (11, (0, v11)), (12, (0, v12))] [(0, z)] ε_1 μ_1) m_F
  intro hty
  replace h := h hty.1 (hty.2.1 _ (List.mem_of_getElem? (i := 1) rfl)) (hty.2.1 _ (List.mem_of_getElem? (i := 3) rfl)) (hty.2.1 _ (List.mem_of_getElem? (i := 4) rfl)) (hty.2.1 _ (List.mem_of_getElem? (i := 5) rfl)) (hty.2.1 _ (List.mem_of_getElem? (i := 6) rfl)) (hty.2.1 _ (List.mem_of_getElem? (i := 7) rfl)) (hty.2.1 _ (List.mem_of_getElem? (i := 8) rfl)) (hty.2.1 _ (List.mem_of_getElem? (i := 9) rfl)) (hty.2.2 _ (List.mem_of_getElem? (i := 0) rfl))
  intro v12 e_v12
  replace h := h v12 e_v12
  exact h
set_option maxRecDepth 20000 in
theorem g_X6_share_53 {Q X : m_Po} {v2 v3 v4 v5 v6 v7 v8 v9 v10 t : Int} {ε : m_E} {μ : m_M} (h : TY ε μ → i32 v3 → i32 v5 → i32 v6 → i32 v7 → i32 v8 → i32 v9 → i32 v10 → i32 t → ∀ v11 : Int, v11 = w32 (t - v7) → o_X6_xOf [(2, v2), (0, w32 (v3 + 1))] ε μ (fun z ε_1 μ_1 => G cd_X6_share Q X 65 [(2, (2, v2)), (3, (0, v3)), (4, (2, v4)), (5, (0, v5)), (6, (0, v6)), (7, (0, v7)), (8, (0, v8)), (9, (0, v9)), (10, (0, v10)), (11, (0, v11))] [(0, z)] ε_1 μ_1) m_F) : G cd_X6_share Q X 53 [(2, (2, v2)), (3, (0, v3)), (4, (2, v4)), (5, (0, v5)), (6, (0, v6)), (7, (0, v7)), (8, (0, v8)), (9, (0, v9)), (10, (0, v10))] [(0, t)] ε μ := by
  refine G_run (m_in [5, 12, 21, 33, 43, 53, 65, 77, 138, 163, 222, 243, 267, 291]) 35 _ _ _ _ ?_
  show m_ty [(2, (2, v2)), (3, (0, v3)), (4, (2, v4)), (5, (0, v5)), (6, (0, v6)), (7, (0, v7)), (8, (0, v8)), (9, (0, v9)), (10, (0, v10))] [(0, t)] ε μ → ∀ v11 : Int, v11 = w32 (t - v7) → o_X6_xOf [(2, v2), (0, w32 (v3 + 1))] ε μ (fun z ε_1 μ_1 => G cd_X6_share Q X 65 [(2, (2, v2)), (3, (0, v3)), (4, (2, v4)), (5, (0, v5)), (6, (0, v6)), (7, (0, v7)), (8, (0, v8)), (9, (0, v9)), (10, (0, v10)), (11, (0, v11))] [(0, z)] ε_1 μ_1) m_F
  intro hty
  replace h := h hty.1 (hty.2.1 _ (List.mem_of_getElem? (i := 1) rfl)) (hty.2.1 _ (List.mem_of_getElem? (i := 3) rfl)) (hty.2.1 _ (List.mem_of_getElem? (i := 4) rfl)) (hty.2.1 _ (List.mem_of_getElem? (i := 5) rfl)) (hty.2.1 _ (List.mem_of_getElem? (i := 6) rfl)) (hty.2.1 _ (List.mem_of_getElem? (i := 7) rfl)) (hty.2.1 _ (List.mem_of_getElem? (i := 8) rfl)) (hty.2.2 _ (List.mem_of_getElem? (i := 0) rfl))
  intro v11 e_v11
  replace h := h v11 e_v11
  exact h
set_option maxRecDepth 20000 in
theorem g_X6_share_43 {Q X : m_Po} {v2 v3 v4 v5 v6 v7 v8 v9 t : Int} {ε : m_E} {μ : m_M} (h : TY ε μ → i32 v3 → i32 v5 → i32 v6 → i32 v7 → i32 v8 → i32 v9 → i32 t → ∀ v10 : Int, v10 = w32 (t - v6) → o_X6_yOf [(2, v2), (0, v3)] ε μ (fun z ε_1 μ_1 => G cd_X6_share Q X 53 [(2, (2, v2)), (3, (0, v3)), (4, (2, v4)), (5, (0, v5)), (6, (0, v6)), (7, (0, v7)), (8, (0, v8)), (9, (0, v9)), (10, (0, v10))] [(0, z)] ε_1 μ_1) m_F) : G cd_X6_share Q X 43 [(2, (2, v2)), (3, (0, v3)), (4, (2, v4)), (5, (0, v5)), (6, (0, v6)), (7, (0, v7)), (8, (0, v8)), (9, (0, v9))] [(0, t)] ε μ := by
  refine G_run (m_in [5, 12, 21, 33, 43, 53, 65, 77, 138, 163, 222, 243, 267, 291]) 35 _ _ _ _ ?_
  show m_ty [(2, (2, v2)), (3, (0, v3)), (4, (2, v4)), (5, (0, v5)), (6, (0, v6)), (7, (0, v7)), (8, (0, v8)), (9, (0, v9))] [(0, t)] ε μ → ∀ v10 : Int, v10 = w32 (t - v6) → o_X6_yOf [(2, v2), (0, v3)] ε μ (fun z ε_1 μ_1 => G cd_X6_share Q X 53 [(2, (2, v2)), (3, (0, v3)), (4, (2, v4)), (5, (0, v5)), (6, (0, v6)), (7, (0, v7)), (8, (0, v8)), (9, (0, v9)), (10, (0, v10))] [(0, z)] ε_1 μ_1) m_F
  intro hty
  replace h := h hty.1 (hty.2.1 _ (List.mem_of_getElem? (i := 1) rfl)) (hty.2.1 _ (List.mem_of_getElem? (i := 3) rfl)) (hty.2.1 _ (List.mem_of_getElem? (i := 4) rfl)) (hty.2.1 _ (List.mem_of_getElem? (i := 5) rfl)) (hty.2.1 _ (List.mem_of_getElem? (i := 6) rfl)) (hty.2.1 _ (List.mem_of_getElem? (i := 7) rfl)) (hty.2.2 _ (List.mem_of_getElem? (i := 0) rfl))
  intro v10 e_v10
  replace h := h v10 e_v10
  exact h
set_option maxRecDepth 20000 in
theorem g_X6_share_33 {Q X : m_Po} {v2 v3 v4 v5 v6 v7 v8 t : Int} {ε : m_E} {μ : m_M} (h : TY ε μ → i32 v3 → i32 v5 → i32 v6 → i32 v7 → i32 v8 → i32 t → ∀ v9 : Int, v9 = w32 (t - v7) → o_X6_xOf [(2, v2), (0, v3)] ε μ (fun z ε_1 μ_1 => G cd_X6_share Q X 43 [(2, (2, v2)), (3, (0, v3)), (4, (2, v4)), (5, (0, v5)), (6, (0, v6)), (7, (0, v7)), (8, (0, v8)), (9, (0, v9))] [(0, z)] ε_1 μ_1) m_F) : G cd_X6_share Q X 33 [(2, (2, v2)), (3, (0, v3)), (4, (2, v4)), (5, (0, v5)), (6, (0, v6)), (7, (0, v7)), (8, (0, v8))] [(0, t)] ε μ := by
  refine G_run (m_in [5, 12, 21, 33, 43, 53, 65, 77, 138, 163, 222, 243, 267, 291]) 35 _ _ _ _ ?_
  show m_ty [(2, (2, v2)), (3, (0, v3)), (4, (2, v4)), (5, (0, v5)), (6, (0, v6)), (7, (0, v7)), (8, (0, v8))] [(0, t)] ε μ → ∀ v9 : Int, v9 = w32 (t - v7) → o_X6_xOf [(2, v2), (0, v3)] ε μ (fun z ε_1 μ_1 => G cd_X6_share Q X 43 [(2, (2, v2)), (3, (0, v3)), (4, (2, v4)), (5, (0, v5)), (6, (0, v6)), (7, (0, v7)), (8, (0, v8)), (9, (0, v9))] [(0, z)] ε_1 μ_1) m_F
  intro hty
  replace h := h hty.1 (hty.2.1 _ (List.mem_of_getElem? (i := 1) rfl)) (hty.2.1 _ (List.mem_of_getElem? (i := 3) rfl)) (hty.2.1 _ (List.mem_of_getElem? (i := 4) rfl)) (hty.2.1 _ (List.mem_of_getElem? (i := 5) rfl)) (hty.2.1 _ (List.mem_of_getElem? (i := 6) rfl)) (hty.2.2 _ (List.mem_of_getElem? (i := 0) rfl))
  intro v9 e_v9
  replace h := h v9 e_v9
  exact h
set_option maxRecDepth 20000 in
theorem g_X6_share_21 {Q X : m_Po} {v0 v1 v2 v3 v4 v5 v6 v7 t : Int} {ε : m_E} {μ : m_M} (h : TY ε μ → i32 v1 → i32 v3 → i32 v5 → i32 v6 → i32 v7 → i32 t → ∀ v8 : Int, v8 = w32 (t - v6) → o_X6_yOf [(2, v0), (0, w32 (v1 + 1))] ε μ (fun z ε_1 μ_1 => G cd_X6_share Q X 33 [(2, (2, v2)), (3, (0, v3)), (4, (2, v4)), (5, (0, v5)), (6, (0, v6)), (7, (0, v7)), (8, (0, v8))] [(0, z)] ε_1 μ_1) m_F) : G cd_X6_share Q X 21 [(0, (2, v0)), (1, (0, v1)), (2, (2, v2)), (3, (0, v3)), (4, (2, v4)), (5, (0, v5)), (6, (0, v6)), (7, (0, v7))] [(0, t)] ε μ := by
  refine G_run (m_in [5, 12, 21, 33, 43, 53, 65, 77, 138, 163, 222, 243, 267, 291]) 35 _ _ _ _ ?_
  show m_ty [(0, (2, v0)), (1, (0, v1)), (2, (2, v2)), (3, (0, v3)), (4, (2, v4)), (5, (0, v5)), (6, (0, v6)), (7, (0, v7))] [(0, t)] ε μ → ∀ v8 : Int, v8 = w32 (t - v6) → o_X6_yOf [(2, v0), (0, w32 (v1 + 1))] ε μ (fun z ε_1 μ_1 => G cd_X6_share Q X 33 [(2, (2, v2)), (3, (0, v3)), (4, (2, v4)), (5, (0, v5)), (6, (0, v6)), (7, (0, v7)), (8, (0, v8))] [(0, z)] ε_1 μ_1) m_F
  intro hty
  replace h := h hty.1 (hty.2.1 _ (List.mem_of_getElem? (i := 1) rfl)) (hty.2.1 _ (List.mem_of_getElem? (i := 3) rfl)) (hty.2.1 _ (List.mem_of_getElem? (i := 5) rfl)) (hty.2.1 _ (List.mem_of_getElem? (i := 6) rfl)) (hty.2.1 _ (List.mem_of_getElem? (i := 7) rfl)) (hty.2.2 _ (List.mem_of_getElem? (i := 0) rfl))
  intro v8 e_v8
  replace h := h v8 e_v8
  exact h
set_option maxRecDepth 20000 in
theorem g_X6_share_12 {Q X : m_Po} {v0 v1 v2 v3 v4 v5 v6 t : Int} {ε : m_E} {μ : m_M} (h : TY ε μ → i32 v1 → i32 v3 → i32 v5 → i32 v6 → i32 t → ∀ v7 : Int, v7 = t → o_X6_xOf [(2, v0), (0, w32 (v1 + 1))] ε μ (fun z ε_1 μ_1 => G cd_X6_share Q X 21 [(0, (2, v0)), (1, (0, v1)), (2, (2, v2)), (3, (0, v3)), (4, (2, v4)), (5, (0, v5)), (6, (0, v6)), (7, (0, v7))] [(0, z)] ε_1 μ_1) m_F) : G cd_X6_share Q X 12 [(0, (2, v0)), (1, (0, v1)), (2, (2, v2)), (3, (0, v3)), (4, (2, v4)), (5, (0, v5)), (6, (0, v6))] [(0, t)] ε μ := by
  refine G_run (m_in [5, 12, 21, 33, 43, 53, 65, 77, 138, 163, 222, 243, 267, 291]) 35 _ _ _ _ ?_
  show m_ty [(0, (2, v0)), (1, (0, v1)), (2, (2, v2)), (3, (0, v3)), (4, (2, v4)), (5, (0, v5)), (6, (0, v6))] [(0, t)] ε μ → ∀ v7 : Int, v7 = t → o_X6_xOf [(2, v0), (0, w32 (v1 + 1))] ε μ (fun z ε_1 μ_1 => G cd_X6_share Q X 21 [(0, (2, v0)), (1, (0, v1)), (2, (2, v2)), (3, (0, v3)), (4, (2, v4)), (5, (0, v5)), (6, (0, v6)), (7, (0, v7))] [(0, z)] ε_1 μ_1) m_F
  intro hty
  replace h := h hty.1 (hty.2.1 _ (List.mem_of_getElem? (i := 1) rfl)) (hty.2.1 _ (List.mem_of_getElem? (i := 3) rfl)) (hty.2.1 _ (List.mem_of_getElem? (i := 5) rfl)) (hty.2.1 _ (List.mem_of_getElem? (i := 6) rfl)) (hty.2.2 _ (List.mem_of_getElem? (i := 0) rfl))
  intro v7 e_v7
  replace h := h v7 e_v7
  exact h
set_option maxRecDepth 20000 in
theorem g_X6_share_5 {Q X : m_Po} {v0 v1 v2 v3 v4 v5 t : Int} {ε : m_E} {μ : m_M} (h : TY ε μ → i32 v1 → i32 v3 → i32 v5 → i32 t → ∀ v6 : Int, v6 = t → o_X6_yOf [(2, v0), (0, v1)] ε μ (fun z ε_1 μ_1 => G cd_X6_share Q X 12 [(0, (2, v0)), (1, (0, v1)), (2, (2, v2)), (3, (0, v3)), (4, (2, v4)), (5, (0, v5)), (6, (0, v6))] [(0, z)] ε_1 μ_1) m_F) : G cd_X6_share Q X 5 [(0, (2, v0)), (1, (0, v1)), (2, (2, v2)), (3, (0, v3)), (4, (2, v4)), (5, (0, v5))] [(0, t)] ε μ := by
  refine G_run (m_in [5, 12, 21, 33, 43, 53, 65, 77, 138, 163, 222, 243, 267, 291]) 35 _ _ _ _ ?_
  show m_ty [(0, (2, v0)), (1, (0, v1)), (2, (2, v2)), (3, (0, v3)), (4, (2, v4)), (5, (0, v5))] [(0, t)] ε μ → ∀ v6 : Int, v6 = t → o_X6_yOf [(2, v0), (0, v1)] ε μ (fun z ε_1 μ_1 => G cd_X6_share Q X 12 [(0, (2, v0)), (1, (0, v1)), (2, (2, v2)), (3, (0, v3)), (4, (2, v4)), (5, (0, v5)), (6, (0, v6))] [(0, z)] ε_1 μ_1) m_F
  intro hty
  replace h := h hty.1 (hty.2.1 _ (List.mem_of_getElem? (i := 1) rfl)) (hty.2.1 _ (List.mem_of_getElem? (i := 3) rfl)) (hty.2.1 _ (List.mem_of_getElem? (i := 5) rfl)) (hty.2.2 _ (List.mem_of_getElem? (i := 0) rfl))
  intro v6 e_v6
  replace h := h v6 e_v6
  exact h
set_option maxRecDepth 20000 in
theorem g_X6_share_0 {Q X : m_Po} {v0 v1 v2 v3 v4 v5 : Int} {ε : m_E} {μ : m_M} (h : TY ε μ → i32 v1 → i32 v3 → i32 v5 → o_X6_xOf [(2, v0), (0, v1)] ε μ (fun z ε_1 μ_1 => G cd_X6_share Q X 5 [(0, (2, v0)), (1, (0, v1)), (2, (2, v2)), (3, (0, v3)), (4, (2, v4)), (5, (0, v5))] [(0, z)] ε_1 μ_1) m_F) : G cd_X6_share Q X 0 [(0, (2, v0)), (1, (0, v1)), (2, (2, v2)), (3, (0, v3)), (4, (2, v4)), (5, (0, v5))] [] ε μ := by
  refine G_run (m_in [5, 12, 21, 33, 43, 53, 65, 77, 138, 163, 222, 243, 267, 291]) 35 _ _ _ _ ?_
  show m_ty [(0, (2, v0)), (1, (0, v1)), (2, (2, v2)), (3, (0, v3)), (4, (2, v4)), (5, (0, v5))] [] ε μ → o_X6_xOf [(2, v0), (0, v1)] ε μ (fun z ε_1 μ_1 => G cd_X6_share Q X 5 [(0, (2, v0)), (1, (0, v1)), (2, (2, v2)), (3, (0, v3)), (4, (2, v4)), (5, (0, v5))] [(0, z)] ε_1 μ_1) m_F
  intro hty
  replace h := h hty.1 (hty.2.1 _ (List.mem_of_getElem? (i := 1) rfl)) (hty.2.1 _ (List.mem_of_getElem? (i := 3) rfl)) (hty.2.1 _ (List.mem_of_getElem? (i := 5) rfl))
  exact h
theorem e_X6_share {Q X : m_Po} {v0 v1 v2 v3 v4 v5 : Int} {ε : m_E} {μ : m_M} (h : TY ε μ → i32 v1 → i32 v3 → i32 v5 → o_X6_xOf [(2, v0), (0, v1)] ε μ (fun z ε_1 μ_1 => G cd_X6_share Q X 5 [(0, (2, v0)), (1, (0, v1)), (2, (2, v2)), (3, (0, v3)), (4, (2, v4)), (5, (0, v5))] [(0, z)] ε_1 μ_1) m_F) : o_X6_share [(2, v0), (0, v1), (2, v2), (0, v3), (2, v4), (0, v5)] ε μ Q X := And.intro rfl (g_X6_share_0 h)
/-! ArchYard$Shape.findSpan([I[I[II)Z -/
set_option maxRecDepth 20000 in
theorem g_X6_findSpan_35 {Q X : m_Po} {v0 v1 v2 v3 v4 v5 t : Int} {ε : m_E} {μ : m_M} (h : TY ε μ → i32 v3 → i32 v4 → i32 v5 → i32 t → (t = 0 → ∀ v5_1 : Int, v5_1 = w32 (v5 + 1) → G cd_X6_findSpan Q X 15 [(0, (2, v0)), (1, (2, v1)), (2, (2, v2)), (3, (0, v3)), (4, (0, v4)), (5, (0, v5_1))] [] ε μ) ∧ (t ≠ 0 → Q 1 ε μ)) : G cd_X6_findSpan Q X 35 [(0, (2, v0)), (1, (2, v1)), (2, (2, v2)), (3, (0, v3)), (4, (0, v4)), (5, (0, v5))] [(0, t)] ε μ := by
  refine G_run (m_in [3, 9, 15, 21, 35]) 13 _ _ _ _ ?_
  show m_ty [(0, (2, v0)), (1, (2, v1)), (2, (2, v2)), (3, (0, v3)), (4, (0, v4)), (5, (0, v5))] [(0, t)] ε μ → (t = 0 → (m_ty [(0, (2, v0)), (1, (2, v1)), (2, (2, v2)), (3, (0, v3)), (4, (0, v4)), (5, (0, v5))] [] ε μ → ∀ v5_1 : Int, v5_1 = w32 (v5 + 1) → G cd_X6_findSpan Q X 15 [(0, (2, v0)), (1, (2, v1)), (2, (2, v2)), (3, (0, v3)), (4, (0, v4)), (5, (0, v5_1))] [] ε μ)) ∧ (t ≠ 0 → (m_ty [] [] ε μ → (1 = 0 ∨ 1 = 1) ∧ Q 1 ε μ))
  intro hty
  replace h := h hty.1 (hty.2.1 _ (List.mem_of_getElem? (i := 3) rfl)) (hty.2.1 _ (List.mem_of_getElem? (i := 4) rfl)) (hty.2.1 _ (List.mem_of_getElem? (i := 5) rfl)) (hty.2.2 _ (List.mem_of_getElem? (i := 0) rfl))
  obtain ⟨ha, hb⟩ := h
  refine And.intro (fun c0 => ?_) (fun c0 => ?_)
  · replace h := ha c0
    clear ha hb
    intro _
    intro v5_1 e_v5_1
    replace h := h v5_1 e_v5_1
    exact h
  · replace h := hb c0
    clear ha hb
    intro _
    refine And.intro (Or.inr rfl) ?_
    exact h
set_option maxRecDepth 20000 in
theorem g_X6_findSpan_21 {Q X : m_Po} {v0 v1 v2 v3 v4 v5 t t_1 : Int} {ε : m_E} {μ : m_M} (h : TY ε μ → i32 v3 → i32 v4 → i32 v5 → i32 t → i32 t_1 → (t_1 ≤ t → ∀ v4_1 : Int, v4_1 = w32 (v4 + 1) → G cd_X6_findSpan Q X 3 [(0, (2, v0)), (1, (2, v1)), (2, (2, v2)), (3, (0, v3)), (4, (0, v4_1))] [] ε μ) ∧ (t < t_1 → o_X6_share [(2, v0), (0, v4), (2, v1), (0, v5), (2, v2), (0, v3)] ε μ (fun z ε_1 μ_1 => G cd_X6_findSpan Q X 35 [(0, (2, v0)), (1, (2, v1)), (2, (2, v2)), (3, (0, v3)), (4, (0, v4)), (5, (0, v5))] [(0, z)] ε_1 μ_1) m_F)) : G cd_X6_findSpan Q X 21 [(0, (2, v0)), (1, (2, v1)), (2, (2, v2)), (3, (0, v3)), (4, (0, v4)), (5, (0, v5))] [(0, t_1), (0, t)] ε μ := by
  refine G_run (m_in [3, 9, 15, 21, 35]) 13 _ _ _ _ ?_
  show m_ty [(0, (2, v0)), (1, (2, v1)), (2, (2, v2)), (3, (0, v3)), (4, (0, v4)), (5, (0, v5))] [(0, t_1), (0, t)] ε μ → (t_1 ≤ t → (m_ty [(0, (2, v0)), (1, (2, v1)), (2, (2, v2)), (3, (0, v3)), (4, (0, v4))] [] ε μ → ∀ v4_1 : Int, v4_1 = w32 (v4 + 1) → G cd_X6_findSpan Q X 3 [(0, (2, v0)), (1, (2, v1)), (2, (2, v2)), (3, (0, v3)), (4, (0, v4_1))] [] ε μ)) ∧ (t < t_1 → (m_ty [(0, (2, v0)), (1, (2, v1)), (2, (2, v2)), (3, (0, v3)), (4, (0, v4)), (5, (0, v5))] [] ε μ → o_X6_share [(2, v0), (0, v4), (2, v1), (0, v5), (2, v2), (0, v3)] ε μ (fun z ε_1 μ_1 => G cd_X6_findSpan Q X 35 [(0, (2, v0)), (1, (2, v1)), (2, (2, v2)), (3, (0, v3)), (4, (0, v4)), (5, (0, v5))] [(0, z)] ε_1 μ_1) m_F))
  intro hty
  replace h := h hty.1 (hty.2.1 _ (List.mem_of_getElem? (i := 3) rfl)) (hty.2.1 _ (List.mem_of_getElem? (i := 4) rfl)) (hty.2.1 _ (List.mem_of_getElem? (i := 5) rfl)) (hty.2.2 _ (List.mem_of_getElem? (i := 1) rfl)) (hty.2.2 _ (List.mem_of_getElem? (i := 0) rfl))
  obtain ⟨ha, hb⟩ := h
  refine And.intro (fun c0 => ?_) (fun c0 => ?_)
  · replace h := ha c0
    clear ha hb
    intro _
    intro v4_1 e_v4_1
    replace h := h v4_1 e_v4_1
    exact h
  · replace h := hb c0
    clear ha hb
    intro _
    exact h
set_option maxRecDepth 20000 in
theorem g_X6_findSpan_15 {Q X : m_Po} {v0 v1 v2 v3 v4 v5 : Int} {ε : m_E} {μ : m_M} (h : TY ε μ → i32 v3 → i32 v4 → i32 v5 → o_X6_facesOf [(2, v1)] ε μ (fun z ε_1 μ_1 => G cd_X6_findSpan Q X 21 [(0, (2, v0)), (1, (2, v1)), (2, (2, v2)), (3, (0, v3)), (4, (0, v4)), (5, (0, v5))] [(0, z), (0, v5)] ε_1 μ_1) m_F) : G cd_X6_findSpan Q X 15 [(0, (2, v0)), (1, (2, v1)), (2, (2, v2)), (3, (0, v3)), (4, (0, v4)), (5, (0, v5))] [] ε μ := by
  refine G_run (m_in [3, 9, 15, 21, 35]) 13 _ _ _ _ ?_
  show m_ty [(0, (2, v0)), (1, (2, v1)), (2, (2, v2)), (3, (0, v3)), (4, (0, v4)), (5, (0, v5))] [] ε μ → o_X6_facesOf [(2, v1)] ε μ (fun z ε_1 μ_1 => G cd_X6_findSpan Q X 21 [(0, (2, v0)), (1, (2, v1)), (2, (2, v2)), (3, (0, v3)), (4, (0, v4)), (5, (0, v5))] [(0, z), (0, v5)] ε_1 μ_1) m_F
  intro hty
  replace h := h hty.1 (hty.2.1 _ (List.mem_of_getElem? (i := 3) rfl)) (hty.2.1 _ (List.mem_of_getElem? (i := 4) rfl)) (hty.2.1 _ (List.mem_of_getElem? (i := 5) rfl))
  exact h
set_option maxRecDepth 20000 in
theorem g_X6_findSpan_9 {Q X : m_Po} {v0 v1 v2 v3 v4 t t_1 : Int} {ε : m_E} {μ : m_M} (h : TY ε μ → i32 v3 → i32 v4 → i32 t → i32 t_1 → (t_1 ≤ t → Q 0 ε μ) ∧ (t < t_1 → ∀ v5 : Int, v5 = 0 → G cd_X6_findSpan Q X 15 [(0, (2, v0)), (1, (2, v1)), (2, (2, v2)), (3, (0, v3)), (4, (0, v4)), (5, (0, v5))] [] ε μ)) : G cd_X6_findSpan Q X 9 [(0, (2, v0)), (1, (2, v1)), (2, (2, v2)), (3, (0, v3)), (4, (0, v4))] [(0, t_1), (0, t)] ε μ := by
  refine G_run (m_in [3, 9, 15, 21, 35]) 13 _ _ _ _ ?_
  show m_ty [(0, (2, v0)), (1, (2, v1)), (2, (2, v2)), (3, (0, v3)), (4, (0, v4))] [(0, t_1), (0, t)] ε μ → (t_1 ≤ t → (m_ty [] [] ε μ → (0 = 0 ∨ 0 = 1) ∧ Q 0 ε μ)) ∧ (t < t_1 → (m_ty [(0, (2, v0)), (1, (2, v1)), (2, (2, v2)), (3, (0, v3)), (4, (0, v4))] [] ε μ → ∀ v5 : Int, v5 = 0 → G cd_X6_findSpan Q X 15 [(0, (2, v0)), (1, (2, v1)), (2, (2, v2)), (3, (0, v3)), (4, (0, v4)), (5, (0, v5))] [] ε μ))
  intro hty
  replace h := h hty.1 (hty.2.1 _ (List.mem_of_getElem? (i := 3) rfl)) (hty.2.1 _ (List.mem_of_getElem? (i := 4) rfl)) (hty.2.2 _ (List.mem_of_getElem? (i := 1) rfl)) (hty.2.2 _ (List.mem_of_getElem? (i := 0) rfl))
  obtain ⟨ha, hb⟩ := h
  refine And.intro (fun c0 => ?_) (fun c0 => ?_)
  · replace h := ha c0
    clear ha hb
    intro _
    refine And.intro (Or.inl rfl) ?_
    exact h
  · replace h := hb c0
    clear ha hb
    intro _
    intro v5 e_v5
    replace h := h v5 e_v5
    exact h
set_option maxRecDepth 20000 in
theorem g_X6_findSpan_3 {Q X : m_Po} {v0 v1 v2 v3 v4 : Int} {ε : m_E} {μ : m_M} (h : TY ε μ → i32 v3 → i32 v4 → o_X6_facesOf [(2, v0)] ε μ (fun z ε_1 μ_1 => G cd_X6_findSpan Q X 9 [(0, (2, v0)), (1, (2, v1)), (2, (2, v2)), (3, (0, v3)), (4, (0, v4))] [(0, z), (0, v4)] ε_1 μ_1) m_F) : G cd_X6_findSpan Q X 3 [(0, (2, v0)), (1, (2, v1)), (2, (2, v2)), (3, (0, v3)), (4, (0, v4))] [] ε μ := by
  refine G_run (m_in [3, 9, 15, 21, 35]) 13 _ _ _ _ ?_
  show m_ty [(0, (2, v0)), (1, (2, v1)), (2, (2, v2)), (3, (0, v3)), (4, (0, v4))] [] ε μ → o_X6_facesOf [(2, v0)] ε μ (fun z ε_1 μ_1 => G cd_X6_findSpan Q X 9 [(0, (2, v0)), (1, (2, v1)), (2, (2, v2)), (3, (0, v3)), (4, (0, v4))] [(0, z), (0, v4)] ε_1 μ_1) m_F
  intro hty
  replace h := h hty.1 (hty.2.1 _ (List.mem_of_getElem? (i := 3) rfl)) (hty.2.1 _ (List.mem_of_getElem? (i := 4) rfl))
  exact h
set_option maxRecDepth 20000 in
theorem g_X6_findSpan_0 {Q X : m_Po} {v0 v1 v2 v3 : Int} {ε : m_E} {μ : m_M} (h : TY ε μ → i32 v3 → ∀ v4 : Int, v4 = 0 → G cd_X6_findSpan Q X 3 [(0, (2, v0)), (1, (2, v1)), (2, (2, v2)), (3, (0, v3)), (4, (0, v4))] [] ε μ) : G cd_X6_findSpan Q X 0 [(0, (2, v0)), (1, (2, v1)), (2, (2, v2)), (3, (0, v3))] [] ε μ := by
  refine G_run (m_in [3, 9, 15, 21, 35]) 13 _ _ _ _ ?_
  show m_ty [(0, (2, v0)), (1, (2, v1)), (2, (2, v2)), (3, (0, v3))] [] ε μ → ∀ v4 : Int, v4 = 0 → G cd_X6_findSpan Q X 3 [(0, (2, v0)), (1, (2, v1)), (2, (2, v2)), (3, (0, v3)), (4, (0, v4))] [] ε μ
  intro hty
  replace h := h hty.1 (hty.2.1 _ (List.mem_of_getElem? (i := 3) rfl))
  intro v4 e_v4
  replace h := h v4 e_v4
  exact h
theorem e_X6_findSpan {Q X : m_Po} {v0 v1 v2 v3 : Int} {ε : m_E} {μ : m_M} (h : TY ε μ → i32 v3 → ∀ v4 : Int, v4 = 0 → G cd_X6_findSpan Q X 3 [(0, (2, v0)), (1, (2, v1)), (2, (2, v2)), (3, (0, v3)), (4, (0, v4))] [] ε μ) : o_X6_findSpan [(2, v0), (2, v1), (2, v2), (0, v3)] ε μ Q X := And.intro rfl (g_X6_findSpan_0 h)
/-! ArchYard$Arch.findSpans()V -/
set_option maxRecDepth 20000 in
theorem g_X0_findSpans_63 {Q X : m_Po} {v0 v1 t t_1 t_2 : Int} {ε : m_E} {μ : m_M} (h : TY ε μ → i32 v1 → i32 t_1 → i32 t_2 → kd ε t = 103 ∧ (0 : Int) ≤ t_1 ∧ t_1 < ln ε t ∧ (t_2 = 0 ∨ t_2 = 1) ∧ ∀ μ_1 : m_M, μ_1 = st μ t t_1 t_2 → ∀ v1_1 : Int, v1_1 = w32 (v1 + 1) → G cd_X0_findSpans Q X 10 [(0, (2, v0)), (1, (0, v1_1))] [] ε μ_1) : G cd_X0_findSpans Q X 63 [(0, (2, v0)), (1, (0, v1))] [(0, t_2), (0, t_1), (2, t)] ε μ := by
  refine G_run (m_in [10, 23, 29, 55, 62, 63]) 15 _ _ _ _ ?_
  show m_ty [(0, (2, v0)), (1, (0, v1))] [(0, t_2), (0, t_1), (2, t)] ε μ → (kd ε t = 103) ∧ ((0 : Int) ≤ t_1 ∧ t_1 < ln ε t) ∧ (t_2 = 0 ∨ t_2 = 1) ∧ ∀ μ_1 : m_M, μ_1 = st μ t t_1 t_2 → ∀ v1_1 : Int, v1_1 = w32 (v1 + 1) → G cd_X0_findSpans Q X 10 [(0, (2, v0)), (1, (0, v1_1))] [] ε μ_1
  intro hty
  replace h := h hty.1 (hty.2.1 _ (List.mem_of_getElem? (i := 1) rfl)) (hty.2.2 _ (List.mem_of_getElem? (i := 1) rfl)) (hty.2.2 _ (List.mem_of_getElem? (i := 0) rfl))
  obtain ⟨k1, h⟩ := h
  refine And.intro k1 ?_
  obtain ⟨k2, h⟩ := h
  obtain ⟨k3, h⟩ := h
  refine And.intro (And.intro k2 k3) ?_
  obtain ⟨k4, h⟩ := h
  refine And.intro k4 ?_
  intro μ_1 e_μ_1
  replace h := h μ_1 e_μ_1
  intro v1_1 e_v1_1
  replace h := h v1_1 e_v1_1
  exact h
set_option maxRecDepth 20000 in
theorem g_X0_findSpans_62 {Q X : m_Po} {v0 v1 t t_1 : Int} {ε : m_E} {μ : m_M} (h : TY ε μ → i32 v1 → i32 t_1 → G cd_X0_findSpans Q X 63 [(0, (2, v0)), (1, (0, v1))] [(0, 0), (0, t_1), (2, t)] ε μ) : G cd_X0_findSpans Q X 62 [(0, (2, v0)), (1, (0, v1))] [(0, t_1), (2, t)] ε μ := by
  refine G_run (m_in [10, 23, 29, 55, 62, 63]) 15 _ _ _ _ ?_
  show m_ty [(0, (2, v0)), (1, (0, v1))] [(0, t_1), (2, t)] ε μ → G cd_X0_findSpans Q X 63 [(0, (2, v0)), (1, (0, v1))] [(0, 0), (0, t_1), (2, t)] ε μ
  intro hty
  replace h := h hty.1 (hty.2.1 _ (List.mem_of_getElem? (i := 1) rfl)) (hty.2.2 _ (List.mem_of_getElem? (i := 0) rfl))
  exact h
set_option maxRecDepth 20000 in
theorem g_X0_findSpans_55 {Q X : m_Po} {v0 v1 t t_1 t_2 : Int} {ε : m_E} {μ : m_M} (h : TY ε μ → i32 v1 → i32 t_1 → i32 t_2 → (t_2 = 0 → G cd_X0_findSpans Q X 62 [(0, (2, v0)), (1, (0, v1))] [(0, t_1), (2, t)] ε μ) ∧ (t_2 ≠ 0 → G cd_X0_findSpans Q X 63 [(0, (2, v0)), (1, (0, v1))] [(0, 1), (0, t_1), (2, t)] ε μ)) : G cd_X0_findSpans Q X 55 [(0, (2, v0)), (1, (0, v1))] [(0, t_2), (0, t_1), (2, t)] ε μ := by
  refine G_run (m_in [10, 23, 29, 55, 62, 63]) 15 _ _ _ _ ?_
  show m_ty [(0, (2, v0)), (1, (0, v1))] [(0, t_2), (0, t_1), (2, t)] ε μ → (t_2 = 0 → G cd_X0_findSpans Q X 62 [(0, (2, v0)), (1, (0, v1))] [(0, t_1), (2, t)] ε μ) ∧ (t_2 ≠ 0 → (m_ty [(0, (2, v0)), (1, (0, v1))] [(0, t_1), (2, t)] ε μ → G cd_X0_findSpans Q X 63 [(0, (2, v0)), (1, (0, v1))] [(0, 1), (0, t_1), (2, t)] ε μ))
  intro hty
  replace h := h hty.1 (hty.2.1 _ (List.mem_of_getElem? (i := 1) rfl)) (hty.2.2 _ (List.mem_of_getElem? (i := 1) rfl)) (hty.2.2 _ (List.mem_of_getElem? (i := 0) rfl))
  obtain ⟨ha, hb⟩ := h
  refine And.intro (fun c0 => ?_) (fun c0 => ?_)
  · replace h := ha c0
    clear ha hb
    exact h
  · replace h := hb c0
    clear ha hb
    intro _
    exact h
set_option maxRecDepth 20000 in
theorem g_X0_findSpans_29 {Q X : m_Po} {v0 v1 v2 t : Int} {ε : m_E} {μ : m_M} (h : TY ε μ → i32 v1 → ∀ v3 : Int, v3 = t → kd ε v0 = 0 ∧ (v2 = 0 → G cd_X0_findSpans Q X 62 [(0, (2, v0)), (1, (0, v1))] [(0, v1), (2, fn ε v0 9)] ε μ) ∧ (0 < v2 → (v3 = 0 → G cd_X0_findSpans Q X 62 [(0, (2, v0)), (1, (0, v1))] [(0, v1), (2, fn ε v0 9)] ε μ) ∧ (0 < v3 → o_X6_findSpan [(2, v2), (2, v3), (2, fn ε v0 8), (0, w32 (4 * v1))] ε μ (fun z ε_1 μ_1 => G cd_X0_findSpans Q X 55 [(0, (2, v0)), (1, (0, v1))] [(0, z), (0, v1), (2, fn ε v0 9)] ε_1 μ_1) m_F))) : G cd_X0_findSpans Q X 29 [(0, (2, v0)), (1, (0, v1)), (2, (2, v2))] [(2, t)] ε μ := by
  refine G_run (m_in [10, 23, 29, 55, 62, 63]) 15 _ _ _ _ ?_
  show m_ty [(0, (2, v0)), (1, (0, v1)), (2, (2, v2))] [(2, t)] ε μ → ∀ v3 : Int, v3 = t → (kd ε v0 = 0) ∧ (v2 = 0 → G cd_X0_findSpans Q X 62 [(0, (2, v0)), (1, (0, v1))] [(0, v1), (2, fn ε v0 9)] ε μ) ∧ (0 < v2 → (m_ty [(0, (2, v0)), (1, (0, v1)), (2, (2, v2)), (3, (2, v3))] [(0, v1), (2, fn ε v0 9)] ε μ → (v3 = 0 → G cd_X0_findSpans Q X 62 [(0, (2, v0)), (1, (0, v1))] [(0, v1), (2, fn ε v0 9)] ε μ) ∧ (0 < v3 → (m_ty [(0, (2, v0)), (1, (0, v1)), (2, (2, v2)), (3, (2, v3))] [(0, v1), (2, fn ε v0 9)] ε μ → (kd ε v0 = 0) ∧ o_X6_findSpan [(2, v2), (2, v3), (2, fn ε v0 8), (0, w32 (4 * v1))] ε μ (fun z ε_1 μ_1 => G cd_X0_findSpans Q X 55 [(0, (2, v0)), (1, (0, v1))] [(0, z), (0, v1), (2, fn ε v0 9)] ε_1 μ_1) m_F))))
  intro hty
  replace h := h hty.1 (hty.2.1 _ (List.mem_of_getElem? (i := 1) rfl))
  intro v3 e_v3
  replace h := h v3 e_v3
  obtain ⟨k1, h⟩ := h
  refine And.intro k1 ?_
  obtain ⟨ha, hb⟩ := h
  refine And.intro (fun c2 => ?_) (fun c2 => ?_)
  · replace h := ha c2
    clear ha hb
    exact h
  · replace h := hb c2
    clear ha hb
    intro _
    obtain ⟨ha, hb⟩ := h
    refine And.intro (fun c1 => ?_) (fun c1 => ?_)
    · replace h := ha c1
      clear ha hb
      exact h
    · replace h := hb c1
      clear ha hb
      intro _
      refine And.intro k1 ?_
      exact h
set_option maxRecDepth 20000 in
theorem g_X0_findSpans_23 {Q X : m_Po} {v0 v1 t : Int} {ε : m_E} {μ : m_M} (h : TY ε μ → i32 v1 → ∀ v2 : Int, v2 = t → kd ε v0 = 0 ∧ o_X0_pointsAfter [(2, v0), (0, v1)] ε μ (fun z ε_1 μ_1 => G cd_X0_findSpans Q X 29 [(0, (2, v0)), (1, (0, v1)), (2, (2, v2))] [(2, z)] ε_1 μ_1) m_F) : G cd_X0_findSpans Q X 23 [(0, (2, v0)), (1, (0, v1))] [(2, t)] ε μ := by
  refine G_run (m_in [10, 23, 29, 55, 62, 63]) 15 _ _ _ _ ?_
  show m_ty [(0, (2, v0)), (1, (0, v1))] [(2, t)] ε μ → ∀ v2 : Int, v2 = t → (kd ε v0 = 0) ∧ o_X0_pointsAfter [(2, v0), (0, v1)] ε μ (fun z ε_1 μ_1 => G cd_X0_findSpans Q X 29 [(0, (2, v0)), (1, (0, v1)), (2, (2, v2))] [(2, z)] ε_1 μ_1) m_F
  intro hty
  replace h := h hty.1 (hty.2.1 _ (List.mem_of_getElem? (i := 1) rfl))
  intro v2 e_v2
  replace h := h v2 e_v2
  obtain ⟨k1, h⟩ := h
  refine And.intro k1 ?_
  exact h
set_option maxRecDepth 20000 in
theorem g_X0_findSpans_10 {Q X : m_Po} {v0 v1 : Int} {ε : m_E} {μ : m_M} (h : TY ε μ → i32 v1 → kd ε v0 = 0 ∧ ((fn ε v0 0) < v1 → ∀ μ_1 : m_M, μ_1 = st μ v0 16 1 → Q 0 ε μ_1) ∧ (v1 ≤ (fn ε v0 0) → o_X0_pointsBefore [(2, v0), (0, v1)] ε μ (fun z ε_1 μ_2 => G cd_X0_findSpans Q X 23 [(0, (2, v0)), (1, (0, v1))] [(2, z)] ε_1 μ_2) m_F)) : G cd_X0_findSpans Q X 10 [(0, (2, v0)), (1, (0, v1))] [] ε μ := by
  refine G_run (m_in [10, 23, 29, 55, 62, 63]) 15 _ _ _ _ ?_
  show m_ty [(0, (2, v0)), (1, (0, v1))] [] ε μ → (kd ε v0 = 0) ∧ ((fn ε v0 0) < v1 → (m_ty [(0, (2, v0))] [] ε μ → (kd ε v0 = 0) ∧ (1 = 0 ∨ 1 = 1) ∧ ∀ μ_1 : m_M, μ_1 = st μ v0 16 1 → Q 0 ε μ_1)) ∧ (v1 ≤ (fn ε v0 0) → (m_ty [(0, (2, v0)), (1, (0, v1))] [] ε μ → (kd ε v0 = 0) ∧ o_X0_pointsBefore [(2, v0), (0, v1)] ε μ (fun z ε_1 μ_2 => G cd_X0_findSpans Q X 23 [(0, (2, v0)), (1, (0, v1))] [(2, z)] ε_1 μ_2) m_F))
  intro hty
  replace h := h hty.1 (hty.2.1 _ (List.mem_of_getElem? (i := 1) rfl))
  obtain ⟨k1, h⟩ := h
  refine And.intro k1 ?_
  obtain ⟨ha, hb⟩ := h
  refine And.intro (fun c1 => ?_) (fun c1 => ?_)
  · replace h := ha c1
    clear ha hb
    intro _
    refine And.intro k1 ?_
    refine And.intro (Or.inr rfl) ?_
    intro μ_1 e_μ_1
    replace h := h μ_1 e_μ_1
    exact h
  · replace h := hb c1
    clear ha hb
    intro _
    refine And.intro k1 ?_
    exact h
set_option maxRecDepth 20000 in
theorem g_X0_findSpans_0 {Q X : m_Po} {v0 : Int} {ε : m_E} {μ : m_M} (h : TY ε μ → kd ε v0 = 0 ∧ ((μ v0 16) = 0 → ∀ v1 : Int, v1 = 0 → G cd_X0_findSpans Q X 10 [(0, (2, v0)), (1, (0, v1))] [] ε μ) ∧ ((μ v0 16) ≠ 0 → Q 0 ε μ)) : G cd_X0_findSpans Q X 0 [(0, (2, v0))] [] ε μ := by
  refine G_run (m_in [10, 23, 29, 55, 62, 63]) 15 _ _ _ _ ?_
  show m_ty [(0, (2, v0))] [] ε μ → (kd ε v0 = 0) ∧ ((μ v0 16) = 0 → (m_ty [(0, (2, v0))] [] ε μ → ∀ v1 : Int, v1 = 0 → G cd_X0_findSpans Q X 10 [(0, (2, v0)), (1, (0, v1))] [] ε μ)) ∧ ((μ v0 16) ≠ 0 → (m_ty [] [] ε μ → Q 0 ε μ))
  intro hty
  replace h := h hty.1 
  obtain ⟨k1, h⟩ := h
  refine And.intro k1 ?_
  obtain ⟨ha, hb⟩ := h
  refine And.intro (fun c1 => ?_) (fun c1 => ?_)
  · replace h := ha c1
    clear ha hb
    intro _
    intro v1 e_v1
    replace h := h v1 e_v1
    exact h
  · replace h := hb c1
    clear ha hb
    intro _
    exact h
theorem e_X0_findSpans {Q X : m_Po} {v0 : Int} {ε : m_E} {μ : m_M} (h : TY ε μ → kd ε v0 = 0 ∧ ((μ v0 16) = 0 → ∀ v1 : Int, v1 = 0 → G cd_X0_findSpans Q X 10 [(0, (2, v0)), (1, (0, v1))] [] ε μ) ∧ ((μ v0 16) ≠ 0 → Q 0 ε μ)) : o_X0_findSpans [(2, v0)] ε μ Q X := And.intro rfl (g_X0_findSpans_0 h)
/-! ArchYard$Arch.fault()I -/
set_option maxRecDepth 20000 in
theorem g_X0_fault_52 {Q X : m_Po} {v0 v1 : Int} {ε : m_E} {μ : m_M} (h : TY ε μ → i32 v1 → kd ε v0 = 0 ∧ ((fn ε v0 0) < v1 → Q (-1) ε μ) ∧ (v1 ≤ (fn ε v0 0) → kd ε (fn ε v0 9) = 103 ∧ (0 : Int) ≤ v1 ∧ v1 < ln ε (fn ε v0 9) ∧ ((μ (fn ε v0 9) v1) ≠ 0 → ∀ v1_1 : Int, v1_1 = w32 (v1 + 1) → G cd_X0_fault Q X 52 [(0, (2, v0)), (1, (0, v1_1))] [] ε μ) ∧ ((μ (fn ε v0 9) v1) = 0 → Q (w32 (200 + v1)) ε μ))) : G cd_X0_fault Q X 52 [(0, (2, v0)), (1, (0, v1))] [] ε μ := by
  refine G_run (m_in [2, 15, 50, 52]) 18 _ _ _ _ ?_
  show m_ty [(0, (2, v0)), (1, (0, v1))] [] ε μ → (kd ε v0 = 0) ∧ ((fn ε v0 0) < v1 → (m_ty [] [] ε μ → Q (-1) ε μ)) ∧ (v1 ≤ (fn ε v0 0) → (m_ty [(0, (2, v0)), (1, (0, v1))] [] ε μ → (kd ε v0 = 0) ∧ (kd ε (fn ε v0 9) = 103) ∧ ((0 : Int) ≤ v1 ∧ v1 < ln ε (fn ε v0 9)) ∧ ((μ (fn ε v0 9) v1) ≠ 0 → (m_ty [(0, (2, v0)), (1, (0, v1))] [] ε μ → ∀ v1_1 : Int, v1_1 = w32 (v1 + 1) → G cd_X0_fault Q X 52 [(0, (2, v0)), (1, (0, v1_1))] [] ε μ)) ∧ ((μ (fn ε v0 9) v1) = 0 → (m_ty [(1, (0, v1))] [] ε μ → Q (w32 (200 + v1)) ε μ))))
  intro hty
  replace h := h hty.1 (hty.2.1 _ (List.mem_of_getElem? (i := 1) rfl))
  obtain ⟨k1, h⟩ := h
  refine And.intro k1 ?_
  obtain ⟨ha, hb⟩ := h
  refine And.intro (fun c5 => ?_) (fun c5 => ?_)
  · replace h := ha c5
    clear ha hb
    intro _
    exact h
  · replace h := hb c5
    clear ha hb
    intro _
    refine And.intro k1 ?_
    obtain ⟨k2, h⟩ := h
    refine And.intro k2 ?_
    obtain ⟨k3, h⟩ := h
    obtain ⟨k4, h⟩ := h
    refine And.intro (And.intro k3 k4) ?_
    obtain ⟨ha, hb⟩ := h
    refine And.intro (fun c4 => ?_) (fun c4 => ?_)
    · replace h := ha c4
      clear ha hb
      intro _
      intro v1_1 e_v1_1
      replace h := h v1_1 e_v1_1
      exact h
    · replace h := hb c4
      clear ha hb
      intro _
      exact h
set_option maxRecDepth 20000 in
theorem g_X0_fault_50 {Q X : m_Po} {v0 : Int} {ε : m_E} {μ : m_M} (h : TY ε μ → ∀ v1 : Int, v1 = 0 → G cd_X0_fault Q X 52 [(0, (2, v0)), (1, (0, v1))] [] ε μ) : G cd_X0_fault Q X 50 [(0, (2, v0))] [] ε μ := by
  refine G_run (m_in [2, 15, 50, 52]) 18 _ _ _ _ ?_
  show m_ty [(0, (2, v0))] [] ε μ → ∀ v1 : Int, v1 = 0 → G cd_X0_fault Q X 52 [(0, (2, v0)), (1, (0, v1))] [] ε μ
  intro hty
  replace h := h hty.1 
  intro v1 e_v1
  replace h := h v1 e_v1
  exact h
set_option maxRecDepth 20000 in
theorem g_X0_fault_15 {Q X : m_Po} {v0 v1 t : Int} {ε : m_E} {μ : m_M} (h : TY ε μ → i32 v1 → i32 t → (t ≠ 0 → ∀ v1_1 : Int, v1_1 = w32 (v1 + 1) → G cd_X0_fault Q X 2 [(0, (2, v0)), (1, (0, v1_1))] [] ε μ) ∧ (t = 0 → Q v1 ε μ)) : G cd_X0_fault Q X 15 [(0, (2, v0)), (1, (0, v1))] [(0, t)] ε μ := by
  refine G_run (m_in [2, 15, 50, 52]) 18 _ _ _ _ ?_
  show m_ty [(0, (2, v0)), (1, (0, v1))] [(0, t)] ε μ → (t ≠ 0 → (m_ty [(0, (2, v0)), (1, (0, v1))] [] ε μ → ∀ v1_1 : Int, v1_1 = w32 (v1 + 1) → G cd_X0_fault Q X 2 [(0, (2, v0)), (1, (0, v1_1))] [] ε μ)) ∧ (t = 0 → (m_ty [(1, (0, v1))] [] ε μ → Q v1 ε μ))
  intro hty
  replace h := h hty.1 (hty.2.1 _ (List.mem_of_getElem? (i := 1) rfl)) (hty.2.2 _ (List.mem_of_getElem? (i := 0) rfl))
  obtain ⟨ha, hb⟩ := h
  refine And.intro (fun c0 => ?_) (fun c0 => ?_)
  · replace h := ha c0
    clear ha hb
    intro _
    intro v1_1 e_v1_1
    replace h := h v1_1 e_v1_1
    exact h
  · replace h := hb c0
    clear ha hb
    intro _
    exact h
set_option maxRecDepth 20000 in
theorem g_X0_fault_2 {Q X : m_Po} {v0 v1 : Int} {ε : m_E} {μ : m_M} (h : TY ε μ → i32 v1 → kd ε v0 = 0 ∧ ((fn ε v0 0) ≤ v1 → ((μ v0 11) ≠ 0 → ((μ v0 12) ≠ 0 → o_X0_findSpans [(2, v0)] ε μ (fun z ε_1 μ_1 => G cd_X0_fault Q X 50 [(0, (2, v0))] [] ε_1 μ_1) m_F) ∧ ((μ v0 12) = 0 → Q 101 ε μ)) ∧ ((μ v0 11) = 0 → Q 100 ε μ)) ∧ (v1 < (fn ε v0 0) → o_X0_mayStand [(2, v0), (0, v1)] ε μ (fun z_1 ε_2 μ_2 => G cd_X0_fault Q X 15 [(0, (2, v0)), (1, (0, v1))] [(0, z_1)] ε_2 μ_2) m_F)) : G cd_X0_fault Q X 2 [(0, (2, v0)), (1, (0, v1))] [] ε μ := by
  refine G_run (m_in [2, 15, 50, 52]) 18 _ _ _ _ ?_
  show m_ty [(0, (2, v0)), (1, (0, v1))] [] ε μ → (kd ε v0 = 0) ∧ ((fn ε v0 0) ≤ v1 → (m_ty [(0, (2, v0))] [] ε μ → (kd ε v0 = 0) ∧ ((μ v0 11) ≠ 0 → (m_ty [(0, (2, v0))] [] ε μ → (kd ε v0 = 0) ∧ ((μ v0 12) ≠ 0 → (m_ty [(0, (2, v0))] [] ε μ → (kd ε v0 = 0) ∧ o_X0_findSpans [(2, v0)] ε μ (fun z ε_1 μ_1 => G cd_X0_fault Q X 50 [(0, (2, v0))] [] ε_1 μ_1) m_F)) ∧ ((μ v0 12) = 0 → (m_ty [] [] ε μ → Q 101 ε μ)))) ∧ ((μ v0 11) = 0 → (m_ty [] [] ε μ → Q 100 ε μ)))) ∧ (v1 < (fn ε v0 0) → (m_ty [(0, (2, v0)), (1, (0, v1))] [] ε μ → (kd ε v0 = 0) ∧ o_X0_mayStand [(2, v0), (0, v1)] ε μ (fun z_1 ε_2 μ_2 => G cd_X0_fault Q X 15 [(0, (2, v0)), (1, (0, v1))] [(0, z_1)] ε_2 μ_2) m_F))
  intro hty
  replace h := h hty.1 (hty.2.1 _ (List.mem_of_getElem? (i := 1) rfl))
  obtain ⟨k1, h⟩ := h
  refine And.intro k1 ?_
  obtain ⟨ha, hb⟩ := h
  refine And.intro (fun c3 => ?_) (fun c3 => ?_)
  · replace h := ha c3
    clear ha hb
    intro _
    refine And.intro k1 ?_
    obtain ⟨ha, hb⟩ := h
    refine And.intro (fun c2 => ?_) (fun c2 => ?_)
    · replace h := ha c2
      clear ha hb
      intro _
      refine And.intro k1 ?_
      obtain ⟨ha, hb⟩ := h
      refine And.intro (fun c1 => ?_) (fun c1 => ?_)
      · replace h := ha c1
        clear ha hb
        intro _
        refine And.intro k1 ?_
        exact h
      · replace h := hb c1
        clear ha hb
        intro _
        exact h
    · replace h := hb c2
      clear ha hb
      intro _
      exact h
  · replace h := hb c3
    clear ha hb
    intro _
    refine And.intro k1 ?_
    exact h
set_option maxRecDepth 20000 in
theorem g_X0_fault_0 {Q X : m_Po} {v0 : Int} {ε : m_E} {μ : m_M} (h : TY ε μ → ∀ v1 : Int, v1 = 0 → G cd_X0_fault Q X 2 [(0, (2, v0)), (1, (0, v1))] [] ε μ) : G cd_X0_fault Q X 0 [(0, (2, v0))] [] ε μ := by
  refine G_run (m_in [2, 15, 50, 52]) 18 _ _ _ _ ?_
  show m_ty [(0, (2, v0))] [] ε μ → ∀ v1 : Int, v1 = 0 → G cd_X0_fault Q X 2 [(0, (2, v0)), (1, (0, v1))] [] ε μ
  intro hty
  replace h := h hty.1 
  intro v1 e_v1
  replace h := h v1 e_v1
  exact h
theorem e_X0_fault {Q X : m_Po} {v0 : Int} {ε : m_E} {μ : m_M} (h : TY ε μ → ∀ v1 : Int, v1 = 0 → G cd_X0_fault Q X 2 [(0, (2, v0)), (1, (0, v1))] [] ε μ) : o_X0_fault [(2, v0)] ε μ Q X := And.intro rfl (g_X0_fault_0 h)
/-! ArchYard$Arch.hasSpan(I)Z -/
set_option maxRecDepth 20000 in
theorem g_X0_hasSpan_31 {Q X : m_Po} {t : Int} {ε : m_E} {μ : m_M} (h : TY ε μ → i32 t → (t = 0 ∨ t = 1) ∧ Q t ε μ) : G cd_X0_hasSpan Q X 31 [] [(0, t)] ε μ := by
  refine G_run (m_in [4, 31]) 8 _ _ _ _ ?_
  show m_ty [] [(0, t)] ε μ → (t = 0 ∨ t = 1) ∧ Q t ε μ
  intro hty
  replace h := h hty.1 (hty.2.2 _ (List.mem_of_getElem? (i := 0) rfl))
  obtain ⟨k1, h⟩ := h
  refine And.intro k1 ?_
  exact h
set_option maxRecDepth 20000 in
theorem g_X0_hasSpan_4 {Q X : m_Po} {v0 v1 : Int} {ε : m_E} {μ : m_M} (h : TY ε μ → i32 v1 → ((0 ≤ v1 → kd ε v0 = 0 ∧ kd ε (fn ε v0 9) = 103 ∧ (v1 < (ln ε (fn ε v0 9)) → (0 : Int) ≤ v1 ∧ v1 < ln ε (fn ε v0 9)))) ∧ ∀ t : Int, t = (if v1 < 0 then 0 else if (ln ε (fn ε v0 9)) ≤ v1 then 0 else if (μ (fn ε v0 9) v1) = 0 then 0 else 1) → Q t ε μ) : G cd_X0_hasSpan Q X 4 [(0, (2, v0)), (1, (0, v1))] [] ε μ := by
  refine G_run (m_in [4, 31]) 8 _ _ _ _ ?_
  show m_ty [(0, (2, v0)), (1, (0, v1))] [] ε μ → (v1 < 0 → (m_ty [] [] ε μ → G cd_X0_hasSpan Q X 31 [] [(0, 0)] ε μ)) ∧ (0 ≤ v1 → (m_ty [(0, (2, v0)), (1, (0, v1))] [] ε μ → (kd ε v0 = 0) ∧ (kd ε (fn ε v0 9) = 103) ∧ ((ln ε (fn ε v0 9)) ≤ v1 → (m_ty [] [] ε μ → G cd_X0_hasSpan Q X 31 [] [(0, 0)] ε μ)) ∧ (v1 < (ln ε (fn ε v0 9)) → (m_ty [(0, (2, v0)), (1, (0, v1))] [] ε μ → (kd ε v0 = 0) ∧ (kd ε (fn ε v0 9) = 103) ∧ ((0 : Int) ≤ v1 ∧ v1 < ln ε (fn ε v0 9)) ∧ ((μ (fn ε v0 9) v1) = 0 → (m_ty [] [] ε μ → G cd_X0_hasSpan Q X 31 [] [(0, 0)] ε μ)) ∧ ((μ (fn ε v0 9) v1) ≠ 0 → (m_ty [] [] ε μ → G cd_X0_hasSpan Q X 31 [] [(0, 1)] ε μ))))))
  intro hty
  replace h := h hty.1 (hty.2.1 _ (List.mem_of_getElem? (i := 1) rfl))
  obtain ⟨hc, hj⟩ := h
  refine And.intro (fun c0 => ?_) (fun c0 => ?_)
  · intro _
    exact g_X0_hasSpan_31 (fun _ _ => (And.intro (Or.inl rfl) (hj _ (((if_pos c0).trans rfl)).symm)))
  · replace hc := hc c0
    intro _
    obtain ⟨k2, k3, k9⟩ := hc
    refine And.intro k2 ?_
    refine And.intro k3 ?_
    refine And.intro (fun c3 => ?_) (fun c3 => ?_)
    · intro _
      exact g_X0_hasSpan_31 (fun _ _ => (And.intro (Or.inl rfl) (hj _ (((if_neg (Int.not_lt.mpr c0)).trans ((if_pos c3).trans rfl))).symm)))
    · replace k9 := k9 c3
      intro _
      obtain ⟨k5, k6⟩ := k9
      refine And.intro k2 ?_
      refine And.intro k3 ?_
      refine And.intro (And.intro k5 k6) ?_
      refine And.intro (fun c6 => ?_) (fun c6 => ?_)
      · intro _
        exact g_X0_hasSpan_31 (fun _ _ => (And.intro (Or.inl rfl) (hj _ (((if_neg (Int.not_lt.mpr c0)).trans ((if_neg (Int.not_le.mpr c3)).trans ((if_pos c6).trans rfl)))).symm)))
      · intro _
        exact g_X0_hasSpan_31 (fun _ _ => (And.intro (Or.inr rfl) (hj _ (((if_neg (Int.not_lt.mpr c0)).trans ((if_neg (Int.not_le.mpr c3)).trans ((if_neg (c6)).trans rfl)))).symm)))
set_option maxRecDepth 20000 in
theorem g_X0_hasSpan_0 {Q X : m_Po} {v0 v1 : Int} {ε : m_E} {μ : m_M} (h : TY ε μ → i32 v1 → kd ε v0 = 0 ∧ o_X0_findSpans [(2, v0)] ε μ (fun z ε_1 μ_1 => G cd_X0_hasSpan Q X 4 [(0, (2, v0)), (1, (0, v1))] [] ε_1 μ_1) m_F) : G cd_X0_hasSpan Q X 0 [(0, (2, v0)), (1, (0, v1))] [] ε μ := by
  refine G_run (m_in [4, 31]) 8 _ _ _ _ ?_
  show m_ty [(0, (2, v0)), (1, (0, v1))] [] ε μ → (kd ε v0 = 0) ∧ o_X0_findSpans [(2, v0)] ε μ (fun z ε_1 μ_1 => G cd_X0_hasSpan Q X 4 [(0, (2, v0)), (1, (0, v1))] [] ε_1 μ_1) m_F
  intro hty
  replace h := h hty.1 (hty.2.1 _ (List.mem_of_getElem? (i := 1) rfl))
  obtain ⟨k1, h⟩ := h
  refine And.intro k1 ?_
  exact h
theorem e_X0_hasSpan {Q X : m_Po} {v0 v1 : Int} {ε : m_E} {μ : m_M} (h : TY ε μ → i32 v1 → kd ε v0 = 0 ∧ o_X0_findSpans [(2, v0)] ε μ (fun z ε_1 μ_1 => G cd_X0_hasSpan Q X 4 [(0, (2, v0)), (1, (0, v1))] [] ε_1 μ_1) m_F) : o_X0_hasSpan [(2, v0), (0, v1)] ε μ Q X := And.intro rfl (g_X0_hasSpan_0 h)
/-! ArchYard$Arch.span(II)I -/
set_option maxRecDepth 20000 in
theorem g_X0_span_29 {Q X : m_Po} {t : Int} {ε : m_E} {μ : m_M} (h : TY ε μ → i32 t → Q t ε μ) : G cd_X0_span Q X 29 [] [(0, t)] ε μ := by
  refine G_run (m_in [29]) 6 _ _ _ _ ?_
  show m_ty [] [(0, t)] ε μ → Q t ε μ
  intro hty
  replace h := h hty.1 (hty.2.2 _ (List.mem_of_getElem? (i := 0) rfl))
  exact h
set_option maxRecDepth 20000 in
theorem g_X0_span_0 {Q X : m_Po} {v0 v1 v2 : Int} {ε : m_E} {μ : m_M} (h : TY ε μ → i32 v1 → i32 v2 → ∀ v3 : Int, v3 = w32 ((w32 (4 * v1)) + v2) → ((0 ≤ v3 → kd ε v0 = 0 ∧ kd ε (fn ε v0 8) = 100 ∧ (v3 < (ln ε (fn ε v0 8)) → (0 : Int) ≤ v3 ∧ v3 < ln ε (fn ε v0 8)))) ∧ ∀ t : Int, t = (if v3 < 0 then 0 else if (ln ε (fn ε v0 8)) ≤ v3 then 0 else μ (fn ε v0 8) v3) → Q t ε μ) : G cd_X0_span Q X 0 [(0, (2, v0)), (1, (0, v1)), (2, (0, v2))] [] ε μ := by
  refine G_run (m_in [29]) 6 _ _ _ _ ?_
  show m_ty [(0, (2, v0)), (1, (0, v1)), (2, (0, v2))] [] ε μ → ∀ v3 : Int, v3 = w32 ((w32 (4 * v1)) + v2) → (v3 < 0 → (m_ty [] [] ε μ → G cd_X0_span Q X 29 [] [(0, 0)] ε μ)) ∧ (0 ≤ v3 → (m_ty [(0, (2, v0)), (3, (0, v3))] [] ε μ → (kd ε v0 = 0) ∧ (kd ε (fn ε v0 8) = 100) ∧ ((ln ε (fn ε v0 8)) ≤ v3 → (m_ty [] [] ε μ → G cd_X0_span Q X 29 [] [(0, 0)] ε μ)) ∧ (v3 < (ln ε (fn ε v0 8)) → (m_ty [(0, (2, v0)), (3, (0, v3))] [] ε μ → (kd ε v0 = 0) ∧ (kd ε (fn ε v0 8) = 100) ∧ ((0 : Int) ≤ v3 ∧ v3 < ln ε (fn ε v0 8)) ∧ G cd_X0_span Q X 29 [] [(0, μ (fn ε v0 8) v3)] ε μ))))
  intro hty
  replace h := h hty.1 (hty.2.1 _ (List.mem_of_getElem? (i := 1) rfl)) (hty.2.1 _ (List.mem_of_getElem? (i := 2) rfl))
  intro v3 e_v3
  replace h := h v3 e_v3
  obtain ⟨hc, hj⟩ := h
  refine And.intro (fun c0 => ?_) (fun c0 => ?_)
  · intro _
    exact g_X0_span_29 (fun _ _ => (hj _ (((if_pos c0).trans rfl)).symm))
  · replace hc := hc c0
    intro _
    obtain ⟨k2, k3, k7⟩ := hc
    refine And.intro k2 ?_
    refine And.intro k3 ?_
    refine And.intro (fun c3 => ?_) (fun c3 => ?_)
    · intro _
      exact g_X0_span_29 (fun _ _ => (hj _ (((if_neg (Int.not_lt.mpr c0)).trans ((if_pos c3).trans rfl))).symm))
    · replace k7 := k7 c3
      intro _
      obtain ⟨k5, k6⟩ := k7
      refine And.intro k2 ?_
      refine And.intro k3 ?_
      refine And.intro (And.intro k5 k6) ?_
      exact g_X0_span_29 (fun _ _ => (hj _ (((if_neg (Int.not_lt.mpr c0)).trans ((if_neg (Int.not_le.mpr c3)).trans rfl))).symm))
theorem e_X0_span {Q X : m_Po} {v0 v1 v2 : Int} {ε : m_E} {μ : m_M} (h : TY ε μ → i32 v1 → i32 v2 → ∀ v3 : Int, v3 = w32 ((w32 (4 * v1)) + v2) → ((0 ≤ v3 → kd ε v0 = 0 ∧ kd ε (fn ε v0 8) = 100 ∧ (v3 < (ln ε (fn ε v0 8)) → (0 : Int) ≤ v3 ∧ v3 < ln ε (fn ε v0 8)))) ∧ ∀ t : Int, t = (if v3 < 0 then 0 else if (ln ε (fn ε v0 8)) ≤ v3 then 0 else μ (fn ε v0 8) v3) → Q t ε μ) : o_X0_span [(2, v0), (0, v1), (0, v2)] ε μ Q X := And.intro rfl (g_X0_span_0 h)
/-! ArchYard$Stone.isFilled()Z -/
set_option maxRecDepth 20000 in
theorem g_X7_isFilled_21 {Q X : m_Po} {t : Int} {ε : m_E} {μ : m_M} (h : TY ε μ → i32 t → (t = 0 ∨ t = 1) ∧ Q t ε μ) : G cd_X7_isFilled Q X 21 [] [(0, t)] ε μ := by
  refine G_run (m_in [21]) 6 _ _ _ _ ?_
  show m_ty [] [(0, t)] ε μ → (t = 0 ∨ t = 1) ∧ Q t ε μ
  intro hty
  replace h := h hty.1 (hty.2.2 _ (List.mem_of_getElem? (i := 0) rfl))
  obtain ⟨k1, h⟩ := h
  refine And.intro k1 ?_
  exact h
set_option maxRecDepth 20000 in
theorem g_X7_isFilled_0 {Q X : m_Po} {v0 : Int} {ε : m_E} {μ : m_M} (h : TY ε μ → kd ε v0 = 6 ∧ ∀ t : Int, t = (if (fn ε v0 0) = (3 : Int) then 1 else if (fn ε v0 0) = (4 : Int) then 1 else 0) → Q t ε μ) : G cd_X7_isFilled Q X 0 [(0, (2, v0))] [] ε μ := by
  refine G_run (m_in [21]) 6 _ _ _ _ ?_
  show m_ty [(0, (2, v0))] [] ε μ → (kd ε v0 = 6) ∧ ((fn ε v0 0) = (3 : Int) → (m_ty [] [] ε μ → G cd_X7_isFilled Q X 21 [] [(0, 1)] ε μ)) ∧ ((fn ε v0 0) ≠ (3 : Int) → (m_ty [(0, (2, v0))] [] ε μ → (kd ε v0 = 6) ∧ ((fn ε v0 0) ≠ (4 : Int) → (m_ty [] [] ε μ → G cd_X7_isFilled Q X 21 [] [(0, 0)] ε μ)) ∧ ((fn ε v0 0) = (4 : Int) → (m_ty [] [] ε μ → G cd_X7_isFilled Q X 21 [] [(0, 1)] ε μ))))
  intro hty
  replace h := h hty.1 
  obtain ⟨k1, h⟩ := h
  refine And.intro k1 ?_
  have hj := h
  refine And.intro (fun c1 => ?_) (fun c1 => ?_)
  · intro _
    exact g_X7_isFilled_21 (fun _ _ => (And.intro (Or.inr rfl) (hj _ (((if_pos c1).trans rfl)).symm)))
  · intro _
    refine And.intro k1 ?_
    refine And.intro (fun c2 => ?_) (fun c2 => ?_)
    · intro _
      exact g_X7_isFilled_21 (fun _ _ => (And.intro (Or.inl rfl) (hj _ (((if_neg (c1)).trans ((if_neg (c2)).trans rfl))).symm)))
    · intro _
      exact g_X7_isFilled_21 (fun _ _ => (And.intro (Or.inr rfl) (hj _ (((if_neg (c1)).trans ((if_pos c2).trans rfl))).symm)))
theorem e_X7_isFilled {Q X : m_Po} {v0 : Int} {ε : m_E} {μ : m_M} (h : TY ε μ → kd ε v0 = 6 ∧ ∀ t : Int, t = (if (fn ε v0 0) = (3 : Int) then 1 else if (fn ε v0 0) = (4 : Int) then 1 else 0) → Q t ε μ) : o_X7_isFilled [(2, v0)] ε μ Q X := And.intro rfl (g_X7_isFilled_0 h)
/-! ArchYard$Arch.isAtFilled(I)Z -/
set_option maxRecDepth 20000 in
theorem g_X0_isAtFilled_40 {Q X : m_Po} {ε : m_E} {μ : m_M} (h : TY ε μ → Q 0 ε μ) : G cd_X0_isAtFilled Q X 40 [] [] ε μ := by
  refine G_run (m_in [7, 13, 22, 25, 33, 36, 40]) 12 _ _ _ _ ?_
  show m_ty [] [] ε μ → (m_ty [] [(0, 0)] ε μ → (0 = 0 ∨ 0 = 1) ∧ Q 0 ε μ)
  intro hty
  replace h := h hty.1 
  intro _
  refine And.intro (Or.inl rfl) ?_
  exact h
set_option maxRecDepth 20000 in
theorem g_X0_isAtFilled_36 {Q X : m_Po} {ε : m_E} {μ : m_M} (h : TY ε μ → Q 1 ε μ) : G cd_X0_isAtFilled Q X 36 [] [] ε μ := by
  refine G_run (m_in [7, 13, 22, 25, 33, 36, 40]) 12 _ _ _ _ ?_
  show m_ty [] [] ε μ → (m_ty [] [(0, 1)] ε μ → (1 = 0 ∨ 1 = 1) ∧ Q 1 ε μ)
  intro hty
  replace h := h hty.1 
  intro _
  refine And.intro (Or.inr rfl) ?_
  exact h
set_option maxRecDepth 20000 in
theorem g_X0_isAtFilled_33 {Q X : m_Po} {t : Int} {ε : m_E} {μ : m_M} (h : TY ε μ → i32 t → (t = 0 → G cd_X0_isAtFilled Q X 40 [] [] ε μ) ∧ (t ≠ 0 → G cd_X0_isAtFilled Q X 36 [] [] ε μ)) : G cd_X0_isAtFilled Q X 33 [] [(0, t)] ε μ := by
  refine G_run (m_in [7, 13, 22, 25, 33, 36, 40]) 12 _ _ _ _ ?_
  show m_ty [] [(0, t)] ε μ → (t = 0 → G cd_X0_isAtFilled Q X 40 [] [] ε μ) ∧ (t ≠ 0 → G cd_X0_isAtFilled Q X 36 [] [] ε μ)
  intro hty
  replace h := h hty.1 (hty.2.2 _ (List.mem_of_getElem? (i := 0) rfl))
  obtain ⟨ha, hb⟩ := h
  refine And.intro (fun c0 => ?_) (fun c0 => ?_)
  · replace h := ha c0
    clear ha hb
    exact h
  · replace h := hb c0
    clear ha hb
    exact h
set_option maxRecDepth 20000 in
theorem g_X0_isAtFilled_25 {Q X : m_Po} {v3 : Int} {ε : m_E} {μ : m_M} (h : TY ε μ → (v3 = 0 → G cd_X0_isAtFilled Q X 40 [] [] ε μ) ∧ (0 < v3 → kd ε v3 = 6 ∧ o_X7_isFilled [(2, v3)] ε μ (fun z ε_1 μ_1 => G cd_X0_isAtFilled Q X 33 [] [(0, z)] ε_1 μ_1) m_F)) : G cd_X0_isAtFilled Q X 25 [(3, (2, v3))] [] ε μ := by
  refine G_run (m_in [7, 13, 22, 25, 33, 36, 40]) 12 _ _ _ _ ?_
  show m_ty [(3, (2, v3))] [] ε μ → (v3 = 0 → G cd_X0_isAtFilled Q X 40 [] [] ε μ) ∧ (0 < v3 → (m_ty [(3, (2, v3))] [] ε μ → (kd ε v3 = 6) ∧ o_X7_isFilled [(2, v3)] ε μ (fun z ε_1 μ_1 => G cd_X0_isAtFilled Q X 33 [] [(0, z)] ε_1 μ_1) m_F))
  intro hty
  replace h := h hty.1 
  obtain ⟨ha, hb⟩ := h
  refine And.intro (fun c1 => ?_) (fun c1 => ?_)
  · replace h := ha c1
    clear ha hb
    exact h
  · replace h := hb c1
    clear ha hb
    intro _
    obtain ⟨k1, h⟩ := h
    refine And.intro k1 ?_
    exact h
set_option maxRecDepth 20000 in
theorem g_X0_isAtFilled_22 {Q X : m_Po} {v3 t : Int} {ε : m_E} {μ : m_M} (h : TY ε μ → i32 t → (t ≠ 0 → G cd_X0_isAtFilled Q X 36 [] [] ε μ) ∧ (t = 0 → G cd_X0_isAtFilled Q X 25 [(3, (2, v3))] [] ε μ)) : G cd_X0_isAtFilled Q X 22 [(3, (2, v3))] [(0, t)] ε μ := by
  refine G_run (m_in [7, 13, 22, 25, 33, 36, 40]) 12 _ _ _ _ ?_
  show m_ty [(3, (2, v3))] [(0, t)] ε μ → (t ≠ 0 → G cd_X0_isAtFilled Q X 36 [] [] ε μ) ∧ (t = 0 → G cd_X0_isAtFilled Q X 25 [(3, (2, v3))] [] ε μ)
  intro hty
  replace h := h hty.1 (hty.2.2 _ (List.mem_of_getElem? (i := 0) rfl))
  obtain ⟨ha, hb⟩ := h
  refine And.intro (fun c0 => ?_) (fun c0 => ?_)
  · replace h := ha c0
    clear ha hb
    exact h
  · replace h := hb c0
    clear ha hb
    exact h
set_option maxRecDepth 20000 in
theorem g_X0_isAtFilled_13 {Q X : m_Po} {v2 t : Int} {ε : m_E} {μ : m_M} (h : TY ε μ → ∀ v3 : Int, v3 = t → (v2 = 0 → G cd_X0_isAtFilled Q X 25 [(3, (2, v3))] [] ε μ) ∧ (0 < v2 → kd ε v2 = 6 ∧ o_X7_isFilled [(2, v2)] ε μ (fun z ε_1 μ_1 => G cd_X0_isAtFilled Q X 22 [(3, (2, v3))] [(0, z)] ε_1 μ_1) m_F)) : G cd_X0_isAtFilled Q X 13 [(2, (2, v2))] [(2, t)] ε μ := by
  refine G_run (m_in [7, 13, 22, 25, 33, 36, 40]) 12 _ _ _ _ ?_
  show m_ty [(2, (2, v2))] [(2, t)] ε μ → ∀ v3 : Int, v3 = t → (v2 = 0 → G cd_X0_isAtFilled Q X 25 [(3, (2, v3))] [] ε μ) ∧ (0 < v2 → (m_ty [(2, (2, v2)), (3, (2, v3))] [] ε μ → (kd ε v2 = 6) ∧ o_X7_isFilled [(2, v2)] ε μ (fun z ε_1 μ_1 => G cd_X0_isAtFilled Q X 22 [(3, (2, v3))] [(0, z)] ε_1 μ_1) m_F))
  intro hty
  replace h := h hty.1 
  intro v3 e_v3
  replace h := h v3 e_v3
  obtain ⟨ha, hb⟩ := h
  refine And.intro (fun c1 => ?_) (fun c1 => ?_)
  · replace h := ha c1
    clear ha hb
    exact h
  · replace h := hb c1
    clear ha hb
    intro _
    obtain ⟨k1, h⟩ := h
    refine And.intro k1 ?_
    exact h
set_option maxRecDepth 20000 in
theorem g_X0_isAtFilled_7 {Q X : m_Po} {v0 v1 t : Int} {ε : m_E} {μ : m_M} (h : TY ε μ → i32 v1 → ∀ v2 : Int, v2 = t → kd ε v0 = 0 ∧ o_X0_blockAt [(2, v0), (0, v1)] ε μ (fun z ε_1 μ_1 => G cd_X0_isAtFilled Q X 13 [(2, (2, v2))] [(2, z)] ε_1 μ_1) m_F) : G cd_X0_isAtFilled Q X 7 [(0, (2, v0)), (1, (0, v1))] [(2, t)] ε μ := by
  refine G_run (m_in [7, 13, 22, 25, 33, 36, 40]) 12 _ _ _ _ ?_
  show m_ty [(0, (2, v0)), (1, (0, v1))] [(2, t)] ε μ → ∀ v2 : Int, v2 = t → (kd ε v0 = 0) ∧ o_X0_blockAt [(2, v0), (0, v1)] ε μ (fun z ε_1 μ_1 => G cd_X0_isAtFilled Q X 13 [(2, (2, v2))] [(2, z)] ε_1 μ_1) m_F
  intro hty
  replace h := h hty.1 (hty.2.1 _ (List.mem_of_getElem? (i := 1) rfl))
  intro v2 e_v2
  replace h := h v2 e_v2
  obtain ⟨k1, h⟩ := h
  refine And.intro k1 ?_
  exact h
set_option maxRecDepth 20000 in
theorem g_X0_isAtFilled_0 {Q X : m_Po} {v0 v1 : Int} {ε : m_E} {μ : m_M} (h : TY ε μ → i32 v1 → kd ε v0 = 0 ∧ o_X0_blockAt [(2, v0), (0, w32 (v1 - 1))] ε μ (fun z ε_1 μ_1 => G cd_X0_isAtFilled Q X 7 [(0, (2, v0)), (1, (0, v1))] [(2, z)] ε_1 μ_1) m_F) : G cd_X0_isAtFilled Q X 0 [(0, (2, v0)), (1, (0, v1))] [] ε μ := by
  refine G_run (m_in [7, 13, 22, 25, 33, 36, 40]) 12 _ _ _ _ ?_
  show m_ty [(0, (2, v0)), (1, (0, v1))] [] ε μ → (kd ε v0 = 0) ∧ o_X0_blockAt [(2, v0), (0, w32 (v1 - 1))] ε μ (fun z ε_1 μ_1 => G cd_X0_isAtFilled Q X 7 [(0, (2, v0)), (1, (0, v1))] [(2, z)] ε_1 μ_1) m_F
  intro hty
  replace h := h hty.1 (hty.2.1 _ (List.mem_of_getElem? (i := 1) rfl))
  obtain ⟨k1, h⟩ := h
  refine And.intro k1 ?_
  exact h
theorem e_X0_isAtFilled {Q X : m_Po} {v0 v1 : Int} {ε : m_E} {μ : m_M} (h : TY ε μ → i32 v1 → kd ε v0 = 0 ∧ o_X0_blockAt [(2, v0), (0, w32 (v1 - 1))] ε μ (fun z ε_1 μ_1 => G cd_X0_isAtFilled Q X 7 [(0, (2, v0)), (1, (0, v1))] [(2, z)] ε_1 μ_1) m_F) : o_X0_isAtFilled [(2, v0), (0, v1)] ε μ Q X := And.intro rfl (g_X0_isAtFilled_0 h)
/-! ArchYard$Arch.isSpringing(I)Z -/
set_option maxRecDepth 20000 in
theorem g_X0_isSpringing_47 {Q X : m_Po} {t : Int} {ε : m_E} {μ : m_M} (h : TY ε μ → i32 t → (t = 0 ∨ t = 1) ∧ Q t ε μ) : G cd_X0_isSpringing Q X 47 [] [(0, t)] ε μ := by
  refine G_run (m_in [14, 26, 29, 47]) 13 _ _ _ _ ?_
  show m_ty [] [(0, t)] ε μ → (t = 0 ∨ t = 1) ∧ Q t ε μ
  intro hty
  replace h := h hty.1 (hty.2.2 _ (List.mem_of_getElem? (i := 0) rfl))
  obtain ⟨k1, h⟩ := h
  refine And.intro k1 ?_
  exact h
set_option maxRecDepth 20000 in
theorem g_X0_isSpringing_29 {Q X : m_Po} {t : Int} {ε : m_E} {μ : m_M} (h : TY ε μ → ∀ v2 : Int, v2 = t → ((0 < v2 → kd ε v2 = 6)) ∧ ∀ t_1 : Int, t_1 = (if v2 = 0 then 0 else if (fn ε v2 0) = (2 : Int) then 1 else 0) → Q t_1 ε μ) : G cd_X0_isSpringing Q X 29 [] [(2, t)] ε μ := by
  refine G_run (m_in [14, 26, 29, 47]) 13 _ _ _ _ ?_
  show m_ty [] [(2, t)] ε μ → ∀ v2 : Int, v2 = t → (v2 = 0 → (m_ty [] [] ε μ → G cd_X0_isSpringing Q X 47 [] [(0, 0)] ε μ)) ∧ (0 < v2 → (m_ty [(2, (2, v2))] [] ε μ → (kd ε v2 = 6) ∧ ((fn ε v2 0) ≠ (2 : Int) → (m_ty [] [] ε μ → G cd_X0_isSpringing Q X 47 [] [(0, 0)] ε μ)) ∧ ((fn ε v2 0) = (2 : Int) → (m_ty [] [] ε μ → G cd_X0_isSpringing Q X 47 [] [(0, 1)] ε μ))))
  intro hty
  replace h := h hty.1 
  intro v2 e_v2
  replace h := h v2 e_v2
  obtain ⟨hc, hj⟩ := h
  refine And.intro (fun c0 => ?_) (fun c0 => ?_)
  · intro _
    exact g_X0_isSpringing_47 (fun _ _ => (And.intro (Or.inl rfl) (hj _ (((if_pos c0).trans rfl)).symm)))
  · replace hc := hc c0
    intro _
    have k2 := hc
    refine And.intro k2 ?_
    refine And.intro (fun c2 => ?_) (fun c2 => ?_)
    · intro _
      exact g_X0_isSpringing_47 (fun _ _ => (And.intro (Or.inl rfl) (hj _ (((if_neg (Int.ne_of_gt c0)).trans ((if_neg (c2)).trans rfl))).symm)))
    · intro _
      exact g_X0_isSpringing_47 (fun _ _ => (And.intro (Or.inr rfl) (hj _ (((if_neg (Int.ne_of_gt c0)).trans ((if_pos c2).trans rfl))).symm)))
set_option maxRecDepth 20000 in
theorem g_X0_isSpringing_26 {Q X : m_Po} {t t_1 : Int} {ε : m_E} {μ : m_M} (h : TY ε μ → i32 t_1 → kd ε t = 0 ∧ o_X0_blockAt [(2, t), (0, t_1)] ε μ (fun z ε_1 μ_1 => G cd_X0_isSpringing Q X 29 [] [(2, z)] ε_1 μ_1) m_F) : G cd_X0_isSpringing Q X 26 [] [(0, t_1), (2, t)] ε μ := by
  refine G_run (m_in [14, 26, 29, 47]) 13 _ _ _ _ ?_
  show m_ty [] [(0, t_1), (2, t)] ε μ → (kd ε t = 0) ∧ o_X0_blockAt [(2, t), (0, t_1)] ε μ (fun z ε_1 μ_1 => G cd_X0_isSpringing Q X 29 [] [(2, z)] ε_1 μ_1) m_F
  intro hty
  replace h := h hty.1 (hty.2.2 _ (List.mem_of_getElem? (i := 0) rfl))
  obtain ⟨k1, h⟩ := h
  refine And.intro k1 ?_
  exact h
set_option maxRecDepth 20000 in
theorem g_X0_isSpringing_14 {Q X : m_Po} {v0 v1 : Int} {ε : m_E} {μ : m_M} (h : TY ε μ → i32 v1 → ∀ t : Int, t = (if v1 = 0 then 0 else w32 (v1 - 1)) → kd ε v0 = 0 ∧ o_X0_blockAt [(2, v0), (0, t)] ε μ (fun z ε_1 μ_1 => G cd_X0_isSpringing Q X 29 [] [(2, z)] ε_1 μ_1) m_F) : G cd_X0_isSpringing Q X 14 [(0, (2, v0)), (1, (0, v1))] [] ε μ := by
  refine G_run (m_in [14, 26, 29, 47]) 13 _ _ _ _ ?_
  show m_ty [(0, (2, v0)), (1, (0, v1))] [] ε μ → (v1 ≠ 0 → (m_ty [(1, (0, v1))] [(2, v0)] ε μ → G cd_X0_isSpringing Q X 26 [] [(0, w32 (v1 - 1)), (2, v0)] ε μ)) ∧ (v1 = 0 → (m_ty [] [(2, v0)] ε μ → G cd_X0_isSpringing Q X 26 [] [(0, 0), (2, v0)] ε μ))
  intro hty
  replace h := h hty.1 (hty.2.1 _ (List.mem_of_getElem? (i := 1) rfl))
  have hj := h
  refine And.intro (fun c0 => ?_) (fun c0 => ?_)
  · intro _
    exact g_X0_isSpringing_26 (fun _ _ => (hj _ (((if_neg (c0)).trans rfl)).symm))
  · intro _
    exact g_X0_isSpringing_26 (fun _ _ => (hj _ (((if_pos c0).trans rfl)).symm))
set_option maxRecDepth 20000 in
theorem g_X0_isSpringing_0 {Q X : m_Po} {v0 v1 : Int} {ε : m_E} {μ : m_M} (h : TY ε μ → i32 v1 → (v1 = 0 → G cd_X0_isSpringing Q X 14 [(0, (2, v0)), (1, (0, v1))] [] ε μ) ∧ (v1 ≠ 0 → kd ε v0 = 0 ∧ (v1 = (fn ε v0 0) → G cd_X0_isSpringing Q X 14 [(0, (2, v0)), (1, (0, v1))] [] ε μ) ∧ (v1 ≠ (fn ε v0 0) → Q 0 ε μ))) : G cd_X0_isSpringing Q X 0 [(0, (2, v0)), (1, (0, v1))] [] ε μ := by
  refine G_run (m_in [14, 26, 29, 47]) 13 _ _ _ _ ?_
  show m_ty [(0, (2, v0)), (1, (0, v1))] [] ε μ → (v1 = 0 → G cd_X0_isSpringing Q X 14 [(0, (2, v0)), (1, (0, v1))] [] ε μ) ∧ (v1 ≠ 0 → (m_ty [(0, (2, v0)), (1, (0, v1))] [] ε μ → (kd ε v0 = 0) ∧ (v1 = (fn ε v0 0) → G cd_X0_isSpringing Q X 14 [(0, (2, v0)), (1, (0, v1))] [] ε μ) ∧ (v1 ≠ (fn ε v0 0) → (m_ty [] [] ε μ → (0 = 0 ∨ 0 = 1) ∧ Q 0 ε μ))))
  intro hty
  replace h := h hty.1 (hty.2.1 _ (List.mem_of_getElem? (i := 1) rfl))
  obtain ⟨ha, hb⟩ := h
  refine And.intro (fun c2 => ?_) (fun c2 => ?_)
  · replace h := ha c2
    clear ha hb
    exact h
  · replace h := hb c2
    clear ha hb
    intro _
    obtain ⟨k1, h⟩ := h
    refine And.intro k1 ?_
    obtain ⟨ha, hb⟩ := h
    refine And.intro (fun c1 => ?_) (fun c1 => ?_)
    · replace h := ha c1
      clear ha hb
      exact h
    · replace h := hb c1
      clear ha hb
      intro _
      refine And.intro (Or.inl rfl) ?_
      exact h
theorem e_X0_isSpringing {Q X : m_Po} {v0 v1 : Int} {ε : m_E} {μ : m_M} (h : TY ε μ → i32 v1 → (v1 = 0 → G cd_X0_isSpringing Q X 14 [(0, (2, v0)), (1, (0, v1))] [] ε μ) ∧ (v1 ≠ 0 → kd ε v0 = 0 ∧ (v1 = (fn ε v0 0) → G cd_X0_isSpringing Q X 14 [(0, (2, v0)), (1, (0, v1))] [] ε μ) ∧ (v1 ≠ (fn ε v0 0) → Q 0 ε μ))) : o_X0_isSpringing [(2, v0), (0, v1)] ε μ Q X := And.intro rfl (g_X0_isSpringing_0 h)
/-! ArchYard$Arch.isOrderKnown()Z -/
set_option maxRecDepth 20000 in
theorem g_X0_isOrderKnown_0 {Q X : m_Po} {v0 : Int} {ε : m_E} {μ : m_M} (h : TY ε μ → kd ε v0 = 0 ∧ (μ v0 17 = 0 ∨ μ v0 17 = 1) ∧ Q (μ v0 17) ε μ) : G cd_X0_isOrderKnown Q X 0 [(0, (2, v0))] [] ε μ := by
  refine G_run (m_in []) 2 _ _ _ _ ?_
  show m_ty [(0, (2, v0))] [] ε μ → (kd ε v0 = 0) ∧ (μ v0 17 = 0 ∨ μ v0 17 = 1) ∧ Q (μ v0 17) ε μ
  intro hty
  replace h := h hty.1 
  obtain ⟨k1, h⟩ := h
  refine And.intro k1 ?_
  obtain ⟨k2, h⟩ := h
  refine And.intro k2 ?_
  exact h
theorem e_X0_isOrderKnown {Q X : m_Po} {v0 : Int} {ε : m_E} {μ : m_M} (h : TY ε μ → kd ε v0 = 0 ∧ (μ v0 17 = 0 ∨ μ v0 17 = 1) ∧ Q (μ v0 17) ε μ) : o_X0_isOrderKnown [(2, v0)] ε μ Q X := And.intro rfl (g_X0_isOrderKnown_0 h)
/-! ArchYard$Arch.clearOrder()V -/
set_option maxRecDepth 20000 in
theorem g_X0_clearOrder_0 {Q X : m_Po} {v0 : Int} {ε : m_E} {μ : m_M} (h : TY ε μ → kd ε v0 = 0 ∧ ∀ μ_1 : m_M, μ_1 = st μ v0 17 1 → ∀ μ_2 : m_M, μ_2 = st μ_1 v0 18 0 → Q 0 ε μ_2) : G cd_X0_clearOrder Q X 0 [(0, (2, v0))] [] ε μ := by
  refine G_run (m_in []) 2 _ _ _ _ ?_
  show m_ty [(0, (2, v0))] [] ε μ → (kd ε v0 = 0) ∧ (1 = 0 ∨ 1 = 1) ∧ ∀ μ_1 : m_M, μ_1 = st μ v0 17 1 → (kd ε v0 = 0) ∧ ∀ μ_2 : m_M, μ_2 = st μ_1 v0 18 0 → Q 0 ε μ_2
  intro hty
  replace h := h hty.1 
  obtain ⟨k1, h⟩ := h
  refine And.intro k1 ?_
  refine And.intro (Or.inr rfl) ?_
  intro μ_1 e_μ_1
  replace h := h μ_1 e_μ_1
  refine And.intro k1 ?_
  intro μ_2 e_μ_2
  replace h := h μ_2 e_μ_2
  exact h
theorem e_X0_clearOrder {Q X : m_Po} {v0 : Int} {ε : m_E} {μ : m_M} (h : TY ε μ → kd ε v0 = 0 ∧ ∀ μ_1 : m_M, μ_1 = st μ v0 17 1 → ∀ μ_2 : m_M, μ_2 = st μ_1 v0 18 0 → Q 0 ε μ_2) : o_X0_clearOrder [(2, v0)] ε μ Q X := And.intro rfl (g_X0_clearOrder_0 h)
/-! ArchYard$Arch.addToOrder(I)V -/
set_option maxRecDepth 20000 in
theorem g_X0_addToOrder_0 {Q X : m_Po} {v0 v1 : Int} {ε : m_E} {μ : m_M} (h : TY ε μ → i32 v1 → kd ε v0 = 0 ∧ kd ε (fn ε v0 10) = 100 ∧ ((ln ε (fn ε v0 10)) ≤ (μ v0 18) → Q 0 ε μ) ∧ ((μ v0 18) < (ln ε (fn ε v0 10)) → (0 : Int) ≤ μ v0 18 ∧ μ v0 18 < ln ε (fn ε v0 10) ∧ ∀ μ_1 : m_M, μ_1 = st μ (fn ε v0 10) (μ v0 18) v1 → ∀ μ_2 : m_M, μ_2 = st μ_1 v0 18 (w32 ((μ_1 v0 18) + 1)) → Q 0 ε μ_2)) : G cd_X0_addToOrder Q X 0 [(0, (2, v0)), (1, (0, v1))] [] ε μ := by
  refine G_run (m_in []) 4 _ _ _ _ ?_
  show m_ty [(0, (2, v0)), (1, (0, v1))] [] ε μ → (kd ε v0 = 0) ∧ (kd ε v0 = 0) ∧ (kd ε (fn ε v0 10) = 100) ∧ ((ln ε (fn ε v0 10)) ≤ (μ v0 18) → (m_ty [] [] ε μ → Q 0 ε μ)) ∧ ((μ v0 18) < (ln ε (fn ε v0 10)) → (m_ty [(0, (2, v0)), (1, (0, v1))] [] ε μ → (kd ε v0 = 0) ∧ (kd ε v0 = 0) ∧ (kd ε (fn ε v0 10) = 100) ∧ ((0 : Int) ≤ μ v0 18 ∧ μ v0 18 < ln ε (fn ε v0 10)) ∧ ∀ μ_1 : m_M, μ_1 = st μ (fn ε v0 10) (μ v0 18) v1 → (kd ε v0 = 0) ∧ (kd ε v0 = 0) ∧ ∀ μ_2 : m_M, μ_2 = st μ_1 v0 18 (w32 ((μ_1 v0 18) + 1)) → (m_ty [] [] ε μ_2 → Q 0 ε μ_2)))
  intro hty
  replace h := h hty.1 (hty.2.1 _ (List.mem_of_getElem? (i := 1) rfl))
  obtain ⟨k1, h⟩ := h
  refine And.intro k1 ?_
  refine And.intro k1 ?_
  obtain ⟨k2, h⟩ := h
  refine And.intro k2 ?_
  obtain ⟨ha, hb⟩ := h
  refine And.intro (fun c4 => ?_) (fun c4 => ?_)
  · replace h := ha c4
    clear ha hb
    intro _
    exact h
  · replace h := hb c4
    clear ha hb
    intro _
    refine And.intro k1 ?_
    refine And.intro k1 ?_
    refine And.intro k2 ?_
    obtain ⟨k3, h⟩ := h
    obtain ⟨k4, h⟩ := h
    refine And.intro (And.intro k3 k4) ?_
    intro μ_1 e_μ_1
    replace h := h μ_1 e_μ_1
    refine And.intro k1 ?_
    refine And.intro k1 ?_
    intro μ_2 e_μ_2
    replace h := h μ_2 e_μ_2
    intro _
    exact h
theorem e_X0_addToOrder {Q X : m_Po} {v0 v1 : Int} {ε : m_E} {μ : m_M} (h : TY ε μ → i32 v1 → kd ε v0 = 0 ∧ kd ε (fn ε v0 10) = 100 ∧ ((ln ε (fn ε v0 10)) ≤ (μ v0 18) → Q 0 ε μ) ∧ ((μ v0 18) < (ln ε (fn ε v0 10)) → (0 : Int) ≤ μ v0 18 ∧ μ v0 18 < ln ε (fn ε v0 10) ∧ ∀ μ_1 : m_M, μ_1 = st μ (fn ε v0 10) (μ v0 18) v1 → ∀ μ_2 : m_M, μ_2 = st μ_1 v0 18 (w32 ((μ_1 v0 18) + 1)) → Q 0 ε μ_2)) : o_X0_addToOrder [(2, v0), (0, v1)] ε μ Q X := And.intro rfl (g_X0_addToOrder_0 h)
/-! ArchYard$Arch.ordered(I)I -/
set_option maxRecDepth 20000 in
theorem g_X0_ordered_31 {Q X : m_Po} {t : Int} {ε : m_E} {μ : m_M} (h : TY ε μ → i32 t → Q t ε μ) : G cd_X0_ordered Q X 31 [] [(0, t)] ε μ := by
  refine G_run (m_in [31]) 7 _ _ _ _ ?_
  show m_ty [] [(0, t)] ε μ → Q t ε μ
  intro hty
  replace h := h hty.1 (hty.2.2 _ (List.mem_of_getElem? (i := 0) rfl))
  exact h
set_option maxRecDepth 20000 in
theorem g_X0_ordered_0 {Q X : m_Po} {v0 v1 : Int} {ε : m_E} {μ : m_M} (h : TY ε μ → i32 v1 → ((0 ≤ v1 → kd ε v0 = 0 ∧ (v1 < (μ v0 18) → kd ε (fn ε v0 10) = 100 ∧ (v1 < (ln ε (fn ε v0 10)) → (0 : Int) ≤ v1 ∧ v1 < ln ε (fn ε v0 10))))) ∧ ∀ t : Int, t = (if v1 < 0 then (-1) else if (μ v0 18) ≤ v1 then (-1) else if (ln ε (fn ε v0 10)) ≤ v1 then (-1) else μ (fn ε v0 10) v1) → Q t ε μ) : G cd_X0_ordered Q X 0 [(0, (2, v0)), (1, (0, v1))] [] ε μ := by
  refine G_run (m_in [31]) 7 _ _ _ _ ?_
  show m_ty [(0, (2, v0)), (1, (0, v1))] [] ε μ → (v1 < 0 → (m_ty [] [] ε μ → G cd_X0_ordered Q X 31 [] [(0, (-1))] ε μ)) ∧ (0 ≤ v1 → (m_ty [(0, (2, v0)), (1, (0, v1))] [] ε μ → (kd ε v0 = 0) ∧ ((μ v0 18) ≤ v1 → (m_ty [] [] ε μ → G cd_X0_ordered Q X 31 [] [(0, (-1))] ε μ)) ∧ (v1 < (μ v0 18) → (m_ty [(0, (2, v0)), (1, (0, v1))] [] ε μ → (kd ε v0 = 0) ∧ (kd ε (fn ε v0 10) = 100) ∧ ((ln ε (fn ε v0 10)) ≤ v1 → (m_ty [] [] ε μ → G cd_X0_ordered Q X 31 [] [(0, (-1))] ε μ)) ∧ (v1 < (ln ε (fn ε v0 10)) → (m_ty [(0, (2, v0)), (1, (0, v1))] [] ε μ → (kd ε v0 = 0) ∧ (kd ε (fn ε v0 10) = 100) ∧ ((0 : Int) ≤ v1 ∧ v1 < ln ε (fn ε v0 10)) ∧ G cd_X0_ordered Q X 31 [] [(0, μ (fn ε v0 10) v1)] ε μ))))))
  intro hty
  replace h := h hty.1 (hty.2.1 _ (List.mem_of_getElem? (i := 1) rfl))
  obtain ⟨hc, hj⟩ := h
  refine And.intro (fun c0 => ?_) (fun c0 => ?_)
  · intro _
    exact g_X0_ordered_31 (fun _ _ => (hj _ (((if_pos c0).trans rfl)).symm))
  · replace hc := hc c0
    intro _
    obtain ⟨k2, k8⟩ := hc
    refine And.intro k2 ?_
    refine And.intro (fun c2 => ?_) (fun c2 => ?_)
    · intro _
      exact g_X0_ordered_31 (fun _ _ => (hj _ (((if_neg (Int.not_lt.mpr c0)).trans ((if_pos c2).trans rfl))).symm))
    · replace k8 := k8 c2
      intro _
      obtain ⟨k4, k9⟩ := k8
      refine And.intro k2 ?_
      refine And.intro k4 ?_
      refine And.intro (fun c4 => ?_) (fun c4 => ?_)
      · intro _
        exact g_X0_ordered_31 (fun _ _ => (hj _ (((if_neg (Int.not_lt.mpr c0)).trans ((if_neg (Int.not_le.mpr c2)).trans ((if_pos c4).trans rfl)))).symm))
      · replace k9 := k9 c4
        intro _
        obtain ⟨k6, k7⟩ := k9
        refine And.intro k2 ?_
        refine And.intro k4 ?_
        refine And.intro (And.intro k6 k7) ?_
        exact g_X0_ordered_31 (fun _ _ => (hj _ (((if_neg (Int.not_lt.mpr c0)).trans ((if_neg (Int.not_le.mpr c2)).trans ((if_neg (Int.not_le.mpr c4)).trans rfl)))).symm))
theorem e_X0_ordered {Q X : m_Po} {v0 v1 : Int} {ε : m_E} {μ : m_M} (h : TY ε μ → i32 v1 → ((0 ≤ v1 → kd ε v0 = 0 ∧ (v1 < (μ v0 18) → kd ε (fn ε v0 10) = 100 ∧ (v1 < (ln ε (fn ε v0 10)) → (0 : Int) ≤ v1 ∧ v1 < ln ε (fn ε v0 10))))) ∧ ∀ t : Int, t = (if v1 < 0 then (-1) else if (μ v0 18) ≤ v1 then (-1) else if (ln ε (fn ε v0 10)) ≤ v1 then (-1) else μ (fn ε v0 10) v1) → Q t ε μ) : o_X0_ordered [(2, v0), (0, v1)] ε μ Q X := And.intro rfl (g_X0_ordered_0 h)
/-! ArchYard$Bounds.<init>()V -/
set_option maxRecDepth 20000 in
theorem g_X1_init_0 {Q X : m_Po} {v0 : Int} {ε : m_E} {μ : m_M} (h : TY ε μ → 0 < v0 ∧ ∀ (a : Int) (ε_1 : m_E) (μ_1 : m_M), a = nx ε → ε_1 = ealloc ε 101 48 → μ_1 = mnew μ a → kd ε_1 v0 = 1 ∧ ∀ ε_2 : m_E, ε_2 = efin ε_1 v0 0 a → ∀ (a_1 : Int) (ε_3 : m_E) (μ_2 : m_M), a_1 = nx ε_2 → ε_3 = ealloc ε_2 101 48 → μ_2 = mnew μ_1 a_1 → kd ε_3 v0 = 1 ∧ ∀ ε_4 : m_E, ε_4 = efin ε_3 v0 1 a_1 → ∀ (a_2 : Int) (ε_5 : m_E) (μ_3 : m_M), a_2 = nx ε_4 → ε_5 = ealloc ε_4 101 48 → μ_3 = mnew μ_2 a_2 → kd ε_5 v0 = 1 ∧ ∀ ε_6 : m_E, ε_6 = efin ε_5 v0 2 a_2 → ∀ (a_3 : Int) (ε_7 : m_E) (μ_4 : m_M), a_3 = nx ε_6 → ε_7 = ealloc ε_6 101 48 → μ_4 = mnew μ_3 a_3 → kd ε_7 v0 = 1 ∧ ∀ ε_8 : m_E, ε_8 = efin ε_7 v0 3 a_3 → ∀ (a_4 : Int) (ε_9 : m_E) (μ_5 : m_M), a_4 = nx ε_8 → ε_9 = ealloc ε_8 100 48 → μ_5 = mnew μ_4 a_4 → kd ε_9 v0 = 1 ∧ ∀ ε_10 : m_E, ε_10 = efin ε_9 v0 4 a_4 → Q 0 ε_10 μ_5) : G cd_X1_init Q X 0 [(0, (2, v0))] [] ε μ := by
  refine G_run (m_in []) 2 _ _ _ _ ?_
  show m_ty [(0, (2, v0))] [] ε μ → (0 < v0) ∧ m_cs [] ≤ 8 ∧ ((0 : Int) ≤ 48 ∧ (48 : Int) ≤ 48) ∧ ∀ (a : Int) (ε_1 : m_E) (μ_1 : m_M), a = nx ε → ε_1 = ealloc ε 101 48 → μ_1 = mnew μ a → (kd ε_1 v0 = 1) ∧ ∀ ε_2 : m_E, ε_2 = efin ε_1 v0 0 a → ((0 : Int) ≤ 48 ∧ (48 : Int) ≤ 48) ∧ ∀ (a_1 : Int) (ε_3 : m_E) (μ_2 : m_M), a_1 = nx ε_2 → ε_3 = ealloc ε_2 101 48 → μ_2 = mnew μ_1 a_1 → (kd ε_3 v0 = 1) ∧ ∀ ε_4 : m_E, ε_4 = efin ε_3 v0 1 a_1 → ((0 : Int) ≤ 48 ∧ (48 : Int) ≤ 48) ∧ ∀ (a_2 : Int) (ε_5 : m_E) (μ_3 : m_M), a_2 = nx ε_4 → ε_5 = ealloc ε_4 101 48 → μ_3 = mnew μ_2 a_2 → (kd ε_5 v0 = 1) ∧ ∀ ε_6 : m_E, ε_6 = efin ε_5 v0 2 a_2 → ((0 : Int) ≤ 48 ∧ (48 : Int) ≤ 48) ∧ ∀ (a_3 : Int) (ε_7 : m_E) (μ_4 : m_M), a_3 = nx ε_6 → ε_7 = ealloc ε_6 101 48 → μ_4 = mnew μ_3 a_3 → (kd ε_7 v0 = 1) ∧ ∀ ε_8 : m_E, ε_8 = efin ε_7 v0 3 a_3 → ((0 : Int) ≤ 48 ∧ (48 : Int) ≤ 48) ∧ ∀ (a_4 : Int) (ε_9 : m_E) (μ_5 : m_M), a_4 = nx ε_8 → ε_9 = ealloc ε_8 100 48 → μ_5 = mnew μ_4 a_4 → (kd ε_9 v0 = 1) ∧ ∀ ε_10 : m_E, ε_10 = efin ε_9 v0 4 a_4 → Q 0 ε_10 μ_5
  intro hty
  replace h := h hty.1 
  obtain ⟨k1, h⟩ := h
  refine And.intro k1 ?_
  refine And.intro (Nat.le_of_ble_eq_true rfl) ?_
  refine And.intro (And.intro (by decide) (by decide)) ?_
  intro a ε_1 μ_1 e_a e_ε_1 e_μ_1
  replace h := h a ε_1 μ_1 e_a e_ε_1 e_μ_1
  obtain ⟨k2, h⟩ := h
  refine And.intro k2 ?_
  intro ε_2 e_ε_2
  replace h := h ε_2 e_ε_2
  refine And.intro (And.intro (by decide) (by decide)) ?_
  intro a_1 ε_3 μ_2 e_a_1 e_ε_3 e_μ_2
  replace h := h a_1 ε_3 μ_2 e_a_1 e_ε_3 e_μ_2
  obtain ⟨k3, h⟩ := h
  refine And.intro k3 ?_
  intro ε_4 e_ε_4
  replace h := h ε_4 e_ε_4
  refine And.intro (And.intro (by decide) (by decide)) ?_
  intro a_2 ε_5 μ_3 e_a_2 e_ε_5 e_μ_3
  replace h := h a_2 ε_5 μ_3 e_a_2 e_ε_5 e_μ_3
  obtain ⟨k4, h⟩ := h
  refine And.intro k4 ?_
  intro ε_6 e_ε_6
  replace h := h ε_6 e_ε_6
  refine And.intro (And.intro (by decide) (by decide)) ?_
  intro a_3 ε_7 μ_4 e_a_3 e_ε_7 e_μ_4
  replace h := h a_3 ε_7 μ_4 e_a_3 e_ε_7 e_μ_4
  obtain ⟨k5, h⟩ := h
  refine And.intro k5 ?_
  intro ε_8 e_ε_8
  replace h := h ε_8 e_ε_8
  refine And.intro (And.intro (by decide) (by decide)) ?_
  intro a_4 ε_9 μ_5 e_a_4 e_ε_9 e_μ_5
  replace h := h a_4 ε_9 μ_5 e_a_4 e_ε_9 e_μ_5
  obtain ⟨k6, h⟩ := h
  refine And.intro k6 ?_
  intro ε_10 e_ε_10
  replace h := h ε_10 e_ε_10
  exact h
theorem e_X1_init {Q X : m_Po} {v0 : Int} {ε : m_E} {μ : m_M} (h : TY ε μ → 0 < v0 ∧ ∀ (a : Int) (ε_1 : m_E) (μ_1 : m_M), a = nx ε → ε_1 = ealloc ε 101 48 → μ_1 = mnew μ a → kd ε_1 v0 = 1 ∧ ∀ ε_2 : m_E, ε_2 = efin ε_1 v0 0 a → ∀ (a_1 : Int) (ε_3 : m_E) (μ_2 : m_M), a_1 = nx ε_2 → ε_3 = ealloc ε_2 101 48 → μ_2 = mnew μ_1 a_1 → kd ε_3 v0 = 1 ∧ ∀ ε_4 : m_E, ε_4 = efin ε_3 v0 1 a_1 → ∀ (a_2 : Int) (ε_5 : m_E) (μ_3 : m_M), a_2 = nx ε_4 → ε_5 = ealloc ε_4 101 48 → μ_3 = mnew μ_2 a_2 → kd ε_5 v0 = 1 ∧ ∀ ε_6 : m_E, ε_6 = efin ε_5 v0 2 a_2 → ∀ (a_3 : Int) (ε_7 : m_E) (μ_4 : m_M), a_3 = nx ε_6 → ε_7 = ealloc ε_6 101 48 → μ_4 = mnew μ_3 a_3 → kd ε_7 v0 = 1 ∧ ∀ ε_8 : m_E, ε_8 = efin ε_7 v0 3 a_3 → ∀ (a_4 : Int) (ε_9 : m_E) (μ_5 : m_M), a_4 = nx ε_8 → ε_9 = ealloc ε_8 100 48 → μ_5 = mnew μ_4 a_4 → kd ε_9 v0 = 1 ∧ ∀ ε_10 : m_E, ε_10 = efin ε_9 v0 4 a_4 → Q 0 ε_10 μ_5) : o_X1_init [(2, v0)] ε μ Q X := And.intro rfl (g_X1_init_0 h)
/-! ArchYard$Bounds.begin()V -/
set_option maxRecDepth 20000 in
theorem g_X1_begin_0 {Q X : m_Po} {v0 : Int} {ε : m_E} {μ : m_M} (h : TY ε μ → kd ε v0 = 1 ∧ ∀ μ_1 : m_M, μ_1 = st μ v0 5 0 → ∀ μ_2 : m_M, μ_2 = st μ_1 v0 6 0 → ∀ μ_3 : m_M, μ_3 = st μ_2 v0 7 0 → Q 0 ε μ_3) : G cd_X1_begin Q X 0 [(0, (2, v0))] [] ε μ := by
  refine G_run (m_in []) 2 _ _ _ _ ?_
  show m_ty [(0, (2, v0))] [] ε μ → (kd ε v0 = 1) ∧ ∀ μ_1 : m_M, μ_1 = st μ v0 5 0 → (kd ε v0 = 1) ∧ ∀ μ_2 : m_M, μ_2 = st μ_1 v0 6 0 → (kd ε v0 = 1) ∧ ∀ μ_3 : m_M, μ_3 = st μ_2 v0 7 0 → Q 0 ε μ_3
  intro hty
  replace h := h hty.1 
  obtain ⟨k1, h⟩ := h
  refine And.intro k1 ?_
  intro μ_1 e_μ_1
  replace h := h μ_1 e_μ_1
  refine And.intro k1 ?_
  intro μ_2 e_μ_2
  replace h := h μ_2 e_μ_2
  refine And.intro k1 ?_
  intro μ_3 e_μ_3
  replace h := h μ_3 e_μ_3
  exact h
theorem e_X1_begin {Q X : m_Po} {v0 : Int} {ε : m_E} {μ : m_M} (h : TY ε μ → kd ε v0 = 1 ∧ ∀ μ_1 : m_M, μ_1 = st μ v0 5 0 → ∀ μ_2 : m_M, μ_2 = st μ_1 v0 6 0 → ∀ μ_3 : m_M, μ_3 = st μ_2 v0 7 0 → Q 0 ε μ_3) : o_X1_begin [(2, v0)] ε μ Q X := And.intro rfl (g_X1_begin_0 h)
/-! ArchYard$Bounds.add(IJJJJ)V -/
set_option maxRecDepth 20000 in
theorem g_X1_add_63 {Q X : m_Po} {v0 : Int} {ε : m_E} {μ : m_M} (h : TY ε μ → kd ε v0 = 1 ∧ ∀ μ_1 : m_M, μ_1 = st μ v0 5 (w32 ((μ v0 5) + 1)) → Q 0 ε μ_1) : G cd_X1_add Q X 63 [(0, (2, v0))] [] ε μ := by
  refine G_run (m_in [63]) 5 _ _ _ _ ?_
  show m_ty [(0, (2, v0))] [] ε μ → (kd ε v0 = 1) ∧ (kd ε v0 = 1) ∧ ∀ μ_1 : m_M, μ_1 = st μ v0 5 (w32 ((μ v0 5) + 1)) → Q 0 ε μ_1
  intro hty
  replace h := h hty.1 
  obtain ⟨k1, h⟩ := h
  refine And.intro k1 ?_
  refine And.intro k1 ?_
  intro μ_1 e_μ_1
  replace h := h μ_1 e_μ_1
  exact h
set_option maxRecDepth 20000 in
theorem g_X1_add_0 {Q X : m_Po} {v0 v1 v2 v4 v6 v8 : Int} {ε : m_E} {μ : m_M} (h : TY ε μ → i32 v1 → i64 v2 → i64 v4 → i64 v6 → i64 v8 → kd ε v0 = 1 ∧ ((μ v0 5) < (48 : Int) → kd ε (fn ε v0 4) = 100 ∧ (0 : Int) ≤ μ v0 5 ∧ μ v0 5 < ln ε (fn ε v0 4) ∧ ∀ μ_1 : m_M, μ_1 = st μ (fn ε v0 4) (μ v0 5) v1 → kd ε (fn ε v0 0) = 101 ∧ (0 : Int) ≤ μ_1 v0 5 ∧ μ_1 v0 5 < ln ε (fn ε v0 0) ∧ ∀ μ_2 : m_M, μ_2 = st μ_1 (fn ε v0 0) (μ_1 v0 5) v2 → kd ε (fn ε v0 1) = 101 ∧ (0 : Int) ≤ μ_2 v0 5 ∧ μ_2 v0 5 < ln ε (fn ε v0 1) ∧ ∀ μ_3 : m_M, μ_3 = st μ_2 (fn ε v0 1) (μ_2 v0 5) v4 → kd ε (fn ε v0 2) = 101 ∧ (0 : Int) ≤ μ_3 v0 5 ∧ μ_3 v0 5 < ln ε (fn ε v0 2) ∧ ∀ μ_4 : m_M, μ_4 = st μ_3 (fn ε v0 2) (μ_3 v0 5) v6 → kd ε (fn ε v0 3) = 101 ∧ (0 : Int) ≤ μ_4 v0 5 ∧ μ_4 v0 5 < ln ε (fn ε v0 3) ∧ ∀ μ_5 : m_M, μ_5 = st μ_4 (fn ε v0 3) (μ_4 v0 5) v8 → kd ε v0 = 1 ∧ ∀ μ_6 : m_M, μ_6 = st μ_5 v0 5 (w32 ((μ_5 v0 5) + 1)) → Q 0 ε μ_6) ∧ ((48 : Int) ≤ (μ v0 5) → Q 0 ε μ)) : G cd_X1_add Q X 0 [(0, (2, v0)), (1, (0, v1)), (2, (1, v2)), (4, (1, v4)), (6, (1, v6)), (8, (1, v8))] [] ε μ := by
  refine G_run (m_in [63]) 5 _ _ _ _ ?_
  show m_ty [(0, (2, v0)), (1, (0, v1)), (2, (1, v2)), (4, (1, v4)), (6, (1, v6)), (8, (1, v8))] [] ε μ → (kd ε v0 = 1) ∧ ((μ v0 5) < (48 : Int) → (m_ty [(0, (2, v0)), (1, (0, v1)), (2, (1, v2)), (4, (1, v4)), (6, (1, v6)), (8, (1, v8))] [] ε μ → (kd ε v0 = 1) ∧ (kd ε v0 = 1) ∧ (kd ε (fn ε v0 4) = 100) ∧ ((0 : Int) ≤ μ v0 5 ∧ μ v0 5 < ln ε (fn ε v0 4)) ∧ ∀ μ_1 : m_M, μ_1 = st μ (fn ε v0 4) (μ v0 5) v1 → (kd ε v0 = 1) ∧ (kd ε v0 = 1) ∧ (kd ε (fn ε v0 0) = 101) ∧ ((0 : Int) ≤ μ_1 v0 5 ∧ μ_1 v0 5 < ln ε (fn ε v0 0)) ∧ ∀ μ_2 : m_M, μ_2 = st μ_1 (fn ε v0 0) (μ_1 v0 5) v2 → (kd ε v0 = 1) ∧ (kd ε v0 = 1) ∧ (kd ε (fn ε v0 1) = 101) ∧ ((0 : Int) ≤ μ_2 v0 5 ∧ μ_2 v0 5 < ln ε (fn ε v0 1)) ∧ ∀ μ_3 : m_M, μ_3 = st μ_2 (fn ε v0 1) (μ_2 v0 5) v4 → (kd ε v0 = 1) ∧ (kd ε v0 = 1) ∧ (kd ε (fn ε v0 2) = 101) ∧ ((0 : Int) ≤ μ_3 v0 5 ∧ μ_3 v0 5 < ln ε (fn ε v0 2)) ∧ ∀ μ_4 : m_M, μ_4 = st μ_3 (fn ε v0 2) (μ_3 v0 5) v6 → (kd ε v0 = 1) ∧ (kd ε v0 = 1) ∧ (kd ε (fn ε v0 3) = 101) ∧ ((0 : Int) ≤ μ_4 v0 5 ∧ μ_4 v0 5 < ln ε (fn ε v0 3)) ∧ ∀ μ_5 : m_M, μ_5 = st μ_4 (fn ε v0 3) (μ_4 v0 5) v8 → G cd_X1_add Q X 63 [(0, (2, v0))] [] ε μ_5)) ∧ ((48 : Int) ≤ (μ v0 5) → (m_ty [] [] ε μ → Q 0 ε μ))
  intro hty
  replace h := h hty.1 (hty.2.1 _ (List.mem_of_getElem? (i := 1) rfl)) (hty.2.1 _ (List.mem_of_getElem? (i := 2) rfl)) (hty.2.1 _ (List.mem_of_getElem? (i := 3) rfl)) (hty.2.1 _ (List.mem_of_getElem? (i := 4) rfl)) (hty.2.1 _ (List.mem_of_getElem? (i := 5) rfl))
  obtain ⟨k1, h⟩ := h
  refine And.intro k1 ?_
  obtain ⟨ha, hb⟩ := h
  refine And.intro (fun c17 => ?_) (fun c17 => ?_)
  · replace h := ha c17
    clear ha hb
    intro _
    refine And.intro k1 ?_
    refine And.intro k1 ?_
    obtain ⟨k2, h⟩ := h
    refine And.intro k2 ?_
    obtain ⟨k3, h⟩ := h
    obtain ⟨k4, h⟩ := h
    refine And.intro (And.intro k3 k4) ?_
    intro μ_1 e_μ_1
    replace h := h μ_1 e_μ_1
    refine And.intro k1 ?_
    refine And.intro k1 ?_
    obtain ⟨k5, h⟩ := h
    refine And.intro k5 ?_
    obtain ⟨k6, h⟩ := h
    obtain ⟨k7, h⟩ := h
    refine And.intro (And.intro k6 k7) ?_
    intro μ_2 e_μ_2
    replace h := h μ_2 e_μ_2
    refine And.intro k1 ?_
    refine And.intro k1 ?_
    obtain ⟨k8, h⟩ := h
    refine And.intro k8 ?_
    obtain ⟨k9, h⟩ := h
    obtain ⟨k10, h⟩ := h
    refine And.intro (And.intro k9 k10) ?_
    intro μ_3 e_μ_3
    replace h := h μ_3 e_μ_3
    refine And.intro k1 ?_
    refine And.intro k1 ?_
    obtain ⟨k11, h⟩ := h
    refine And.intro k11 ?_
    obtain ⟨k12, h⟩ := h
    obtain ⟨k13, h⟩ := h
    refine And.intro (And.intro k12 k13) ?_
    intro μ_4 e_μ_4
    replace h := h μ_4 e_μ_4
    refine And.intro k1 ?_
    refine And.intro k1 ?_
    obtain ⟨k14, h⟩ := h
    refine And.intro k14 ?_
    obtain ⟨k15, h⟩ := h
    obtain ⟨k16, h⟩ := h
    refine And.intro (And.intro k15 k16) ?_
    intro μ_5 e_μ_5
    replace h := h μ_5 e_μ_5
    exact g_X1_add_63 (fun _ => h)
  · replace h := hb c17
    clear ha hb
    intro _
    exact h
theorem e_X1_add {Q X : m_Po} {v0 v1 v2 v4 v6 v8 : Int} {ε : m_E} {μ : m_M} (h : TY ε μ → i32 v1 → i64 v2 → i64 v4 → i64 v6 → i64 v8 → kd ε v0 = 1 ∧ ((μ v0 5) < (48 : Int) → kd ε (fn ε v0 4) = 100 ∧ (0 : Int) ≤ μ v0 5 ∧ μ v0 5 < ln ε (fn ε v0 4) ∧ ∀ μ_1 : m_M, μ_1 = st μ (fn ε v0 4) (μ v0 5) v1 → kd ε (fn ε v0 0) = 101 ∧ (0 : Int) ≤ μ_1 v0 5 ∧ μ_1 v0 5 < ln ε (fn ε v0 0) ∧ ∀ μ_2 : m_M, μ_2 = st μ_1 (fn ε v0 0) (μ_1 v0 5) v2 → kd ε (fn ε v0 1) = 101 ∧ (0 : Int) ≤ μ_2 v0 5 ∧ μ_2 v0 5 < ln ε (fn ε v0 1) ∧ ∀ μ_3 : m_M, μ_3 = st μ_2 (fn ε v0 1) (μ_2 v0 5) v4 → kd ε (fn ε v0 2) = 101 ∧ (0 : Int) ≤ μ_3 v0 5 ∧ μ_3 v0 5 < ln ε (fn ε v0 2) ∧ ∀ μ_4 : m_M, μ_4 = st μ_3 (fn ε v0 2) (μ_3 v0 5) v6 → kd ε (fn ε v0 3) = 101 ∧ (0 : Int) ≤ μ_4 v0 5 ∧ μ_4 v0 5 < ln ε (fn ε v0 3) ∧ ∀ μ_5 : m_M, μ_5 = st μ_4 (fn ε v0 3) (μ_4 v0 5) v8 → kd ε v0 = 1 ∧ ∀ μ_6 : m_M, μ_6 = st μ_5 v0 5 (w32 ((μ_5 v0 5) + 1)) → Q 0 ε μ_6) ∧ ((48 : Int) ≤ (μ v0 5) → Q 0 ε μ)) : o_X1_add [(2, v0), (0, v1), (1, v2), (1, v4), (1, v6), (1, v8)] ε μ Q X := And.intro rfl (g_X1_add_0 h)
/-! ArchYard$Bounds.addMomentsAt(LArchYard$Arch;IJJ)V -/
set_option maxRecDepth 20000 in
theorem g_X1_addMomentsAt_177 {Q X : m_Po} {ε : m_E} {μ : m_M} (h : TY ε μ → Q 0 ε μ) : G cd_X1_addMomentsAt Q X 177 [] [] ε μ := by
  refine G_run (m_in [13, 23, 35, 45, 91, 99, 108, 121, 130, 177]) 12 _ _ _ _ ?_
  show m_ty [] [] ε μ → Q 0 ε μ
  intro hty
  replace h := h hty.1 
  exact h
set_option maxRecDepth 20000 in
theorem g_X1_addMomentsAt_130 {Q X : m_Po} {v0 v2 v7 v9 t t_1 t_2 : Int} {ε : m_E} {μ : m_M} (h : TY ε μ → i32 v2 → i64 v7 → i64 v9 → i64 t → i64 t_1 → i32 t_2 → ∀ v11 : Int, v11 = w64 (t + (w64 (t_1 * t_2))) → kd ε v0 = 1 ∧ o_X1_add [(2, v0), (0, w32 ((w32 (4 * v2)) + 1)), (1, w64 (10 * v11)), (1, w64 ((-10) * v9)), (1, v7), (1, w64 ((w64 ((w64 (10 * v9)) * (μ v0 6))) - (w64 (v7 * (μ v0 7)))))] ε μ (fun z ε_1 μ_1 => G cd_X1_addMomentsAt Q X 177 [] [] ε_1 μ_1) m_F) : G cd_X1_addMomentsAt Q X 130 [(0, (2, v0)), (2, (0, v2)), (7, (1, v7)), (9, (1, v9))] [(0, t_2), (1, t_1), (1, t)] ε μ := by
  refine G_run (m_in [13, 23, 35, 45, 91, 99, 108, 121, 130, 177]) 12 _ _ _ _ ?_
  show m_ty [(0, (2, v0)), (2, (0, v2)), (7, (1, v7)), (9, (1, v9))] [(0, t_2), (1, t_1), (1, t)] ε μ → ∀ v11 : Int, v11 = w64 (t + (w64 (t_1 * t_2))) → (kd ε v0 = 1) ∧ (kd ε v0 = 1) ∧ (kd ε v0 = 1) ∧ o_X1_add [(2, v0), (0, w32 ((w32 (4 * v2)) + 1)), (1, w64 (10 * v11)), (1, w64 ((-10) * v9)), (1, v7), (1, w64 ((w64 ((w64 (10 * v9)) * (μ v0 6))) - (w64 (v7 * (μ v0 7)))))] ε μ (fun z ε_1 μ_1 => G cd_X1_addMomentsAt Q X 177 [] [] ε_1 μ_1) m_F
  intro hty
  replace h := h hty.1 (hty.2.1 _ (List.mem_of_getElem? (i := 1) rfl)) (hty.2.1 _ (List.mem_of_getElem? (i := 2) rfl)) (hty.2.1 _ (List.mem_of_getElem? (i := 3) rfl)) (hty.2.2 _ (List.mem_of_getElem? (i := 2) rfl)) (hty.2.2 _ (List.mem_of_getElem? (i := 1) rfl)) (hty.2.2 _ (List.mem_of_getElem? (i := 0) rfl))
  intro v11 e_v11
  replace h := h v11 e_v11
  obtain ⟨k1, h⟩ := h
  refine And.intro k1 ?_
  refine And.intro k1 ?_
  refine And.intro k1 ?_
  exact h
set_option maxRecDepth 20000 in
theorem g_X1_addMomentsAt_121 {Q X : m_Po} {v0 v1 v2 v3 v7 v9 t t_1 : Int} {ε : m_E} {μ : m_M} (h : TY ε μ → i32 v2 → i64 v3 → i64 v7 → i64 v9 → i64 t → i32 t_1 → kd ε v1 = 0 ∧ o_X0_span [(2, v1), (0, v2), (0, 3)] ε μ (fun z ε_1 μ_1 => G cd_X1_addMomentsAt Q X 130 [(0, (2, v0)), (2, (0, v2)), (7, (1, v7)), (9, (1, v9))] [(0, z), (1, v3), (1, w64 (t * t_1))] ε_1 μ_1) m_F) : G cd_X1_addMomentsAt Q X 121 [(0, (2, v0)), (1, (2, v1)), (2, (0, v2)), (3, (1, v3)), (7, (1, v7)), (9, (1, v9))] [(0, t_1), (1, t)] ε μ := by
  refine G_run (m_in [13, 23, 35, 45, 91, 99, 108, 121, 130, 177]) 12 _ _ _ _ ?_
  show m_ty [(0, (2, v0)), (1, (2, v1)), (2, (0, v2)), (3, (1, v3)), (7, (1, v7)), (9, (1, v9))] [(0, t_1), (1, t)] ε μ → (kd ε v1 = 0) ∧ o_X0_span [(2, v1), (0, v2), (0, 3)] ε μ (fun z ε_1 μ_1 => G cd_X1_addMomentsAt Q X 130 [(0, (2, v0)), (2, (0, v2)), (7, (1, v7)), (9, (1, v9))] [(0, z), (1, v3), (1, w64 (t * t_1))] ε_1 μ_1) m_F
  intro hty
  replace h := h hty.1 (hty.2.1 _ (List.mem_of_getElem? (i := 2) rfl)) (hty.2.1 _ (List.mem_of_getElem? (i := 3) rfl)) (hty.2.1 _ (List.mem_of_getElem? (i := 4) rfl)) (hty.2.1 _ (List.mem_of_getElem? (i := 5) rfl)) (hty.2.2 _ (List.mem_of_getElem? (i := 1) rfl)) (hty.2.2 _ (List.mem_of_getElem? (i := 0) rfl))
  obtain ⟨k1, h⟩ := h
  refine And.intro k1 ?_
  exact h
set_option maxRecDepth 20000 in
theorem g_X1_addMomentsAt_108 {Q X : m_Po} {v0 v1 v2 v3 v5 v7 t t_1 t_2 : Int} {ε : m_E} {μ : m_M} (h : TY ε μ → i32 v2 → i64 v3 → i64 v5 → i64 v7 → i64 t → i64 t_1 → i32 t_2 → ∀ v9 : Int, v9 = w64 (t + (w64 (t_1 * t_2))) → kd ε v1 = 0 ∧ o_X0_span [(2, v1), (0, v2), (0, 1)] ε μ (fun z ε_1 μ_1 => G cd_X1_addMomentsAt Q X 121 [(0, (2, v0)), (1, (2, v1)), (2, (0, v2)), (3, (1, v3)), (7, (1, v7)), (9, (1, v9))] [(0, z), (1, v5)] ε_1 μ_1) m_F) : G cd_X1_addMomentsAt Q X 108 [(0, (2, v0)), (1, (2, v1)), (2, (0, v2)), (3, (1, v3)), (5, (1, v5)), (7, (1, v7))] [(0, t_2), (1, t_1), (1, t)] ε μ := by
  refine G_run (m_in [13, 23, 35, 45, 91, 99, 108, 121, 130, 177]) 12 _ _ _ _ ?_
  show m_ty [(0, (2, v0)), (1, (2, v1)), (2, (0, v2)), (3, (1, v3)), (5, (1, v5)), (7, (1, v7))] [(0, t_2), (1, t_1), (1, t)] ε μ → ∀ v9 : Int, v9 = w64 (t + (w64 (t_1 * t_2))) → (kd ε v1 = 0) ∧ o_X0_span [(2, v1), (0, v2), (0, 1)] ε μ (fun z ε_1 μ_1 => G cd_X1_addMomentsAt Q X 121 [(0, (2, v0)), (1, (2, v1)), (2, (0, v2)), (3, (1, v3)), (7, (1, v7)), (9, (1, v9))] [(0, z), (1, v5)] ε_1 μ_1) m_F
  intro hty
  replace h := h hty.1 (hty.2.1 _ (List.mem_of_getElem? (i := 2) rfl)) (hty.2.1 _ (List.mem_of_getElem? (i := 3) rfl)) (hty.2.1 _ (List.mem_of_getElem? (i := 4) rfl)) (hty.2.1 _ (List.mem_of_getElem? (i := 5) rfl)) (hty.2.2 _ (List.mem_of_getElem? (i := 2) rfl)) (hty.2.2 _ (List.mem_of_getElem? (i := 1) rfl)) (hty.2.2 _ (List.mem_of_getElem? (i := 0) rfl))
  intro v9 e_v9
  replace h := h v9 e_v9
  obtain ⟨k1, h⟩ := h
  refine And.intro k1 ?_
  exact h
set_option maxRecDepth 20000 in
theorem g_X1_addMomentsAt_99 {Q X : m_Po} {v0 v1 v2 v3 v5 v7 t t_1 : Int} {ε : m_E} {μ : m_M} (h : TY ε μ → i32 v2 → i64 v3 → i64 v5 → i64 v7 → i64 t → i32 t_1 → kd ε v1 = 0 ∧ o_X0_span [(2, v1), (0, v2), (0, 2)] ε μ (fun z ε_1 μ_1 => G cd_X1_addMomentsAt Q X 108 [(0, (2, v0)), (1, (2, v1)), (2, (0, v2)), (3, (1, v3)), (5, (1, v5)), (7, (1, v7))] [(0, z), (1, v3), (1, w64 (t * t_1))] ε_1 μ_1) m_F) : G cd_X1_addMomentsAt Q X 99 [(0, (2, v0)), (1, (2, v1)), (2, (0, v2)), (3, (1, v3)), (5, (1, v5)), (7, (1, v7))] [(0, t_1), (1, t)] ε μ := by
  refine G_run (m_in [13, 23, 35, 45, 91, 99, 108, 121, 130, 177]) 12 _ _ _ _ ?_
  show m_ty [(0, (2, v0)), (1, (2, v1)), (2, (0, v2)), (3, (1, v3)), (5, (1, v5)), (7, (1, v7))] [(0, t_1), (1, t)] ε μ → (kd ε v1 = 0) ∧ o_X0_span [(2, v1), (0, v2), (0, 2)] ε μ (fun z ε_1 μ_1 => G cd_X1_addMomentsAt Q X 108 [(0, (2, v0)), (1, (2, v1)), (2, (0, v2)), (3, (1, v3)), (5, (1, v5)), (7, (1, v7))] [(0, z), (1, v3), (1, w64 (t * t_1))] ε_1 μ_1) m_F
  intro hty
  replace h := h hty.1 (hty.2.1 _ (List.mem_of_getElem? (i := 2) rfl)) (hty.2.1 _ (List.mem_of_getElem? (i := 3) rfl)) (hty.2.1 _ (List.mem_of_getElem? (i := 4) rfl)) (hty.2.1 _ (List.mem_of_getElem? (i := 5) rfl)) (hty.2.2 _ (List.mem_of_getElem? (i := 1) rfl)) (hty.2.2 _ (List.mem_of_getElem? (i := 0) rfl))
  obtain ⟨k1, h⟩ := h
  refine And.intro k1 ?_
  exact h
set_option maxRecDepth 20000 in
theorem g_X1_addMomentsAt_91 {Q X : m_Po} {v0 v1 v2 v3 v5 v7 : Int} {ε : m_E} {μ : m_M} (h : TY ε μ → i32 v2 → i64 v3 → i64 v5 → i64 v7 → kd ε v1 = 0 ∧ o_X0_span [(2, v1), (0, v2), (0, 0)] ε μ (fun z ε_1 μ_1 => G cd_X1_addMomentsAt Q X 99 [(0, (2, v0)), (1, (2, v1)), (2, (0, v2)), (3, (1, v3)), (5, (1, v5)), (7, (1, v7))] [(0, z), (1, v5)] ε_1 μ_1) m_F) : G cd_X1_addMomentsAt Q X 91 [(0, (2, v0)), (1, (2, v1)), (2, (0, v2)), (3, (1, v3)), (5, (1, v5)), (7, (1, v7))] [] ε μ := by
  refine G_run (m_in [13, 23, 35, 45, 91, 99, 108, 121, 130, 177]) 12 _ _ _ _ ?_
  show m_ty [(0, (2, v0)), (1, (2, v1)), (2, (0, v2)), (3, (1, v3)), (5, (1, v5)), (7, (1, v7))] [] ε μ → (kd ε v1 = 0) ∧ o_X0_span [(2, v1), (0, v2), (0, 0)] ε μ (fun z ε_1 μ_1 => G cd_X1_addMomentsAt Q X 99 [(0, (2, v0)), (1, (2, v1)), (2, (0, v2)), (3, (1, v3)), (5, (1, v5)), (7, (1, v7))] [(0, z), (1, v5)] ε_1 μ_1) m_F
  intro hty
  replace h := h hty.1 (hty.2.1 _ (List.mem_of_getElem? (i := 2) rfl)) (hty.2.1 _ (List.mem_of_getElem? (i := 3) rfl)) (hty.2.1 _ (List.mem_of_getElem? (i := 4) rfl)) (hty.2.1 _ (List.mem_of_getElem? (i := 5) rfl))
  obtain ⟨k1, h⟩ := h
  refine And.intro k1 ?_
  exact h
set_option maxRecDepth 20000 in
theorem g_X1_addMomentsAt_45 {Q X : m_Po} {v0 v1 v2 v3 v5 v7 v9 t t_1 t_2 : Int} {ε : m_E} {μ : m_M} (h : TY ε μ → i32 v2 → i64 v3 → i64 v5 → i64 v7 → i64 v9 → i64 t → i64 t_1 → i32 t_2 → ∀ v11 : Int, v11 = w64 (t + (w64 (t_1 * t_2))) → kd ε v0 = 1 ∧ o_X1_add [(2, v0), (0, w32 (4 * v2)), (1, w64 ((-10) * v11)), (1, w64 (10 * v9)), (1, w64 (-v7)), (1, w64 ((w64 (v7 * (μ v0 7))) - (w64 ((w64 (10 * v9)) * (μ v0 6)))))] ε μ (fun z ε_1 μ_1 => G cd_X1_addMomentsAt Q X 91 [(0, (2, v0)), (1, (2, v1)), (2, (0, v2)), (3, (1, v3)), (5, (1, v5)), (7, (1, v7))] [] ε_1 μ_1) m_F) : G cd_X1_addMomentsAt Q X 45 [(0, (2, v0)), (1, (2, v1)), (2, (0, v2)), (3, (1, v3)), (5, (1, v5)), (7, (1, v7)), (9, (1, v9))] [(0, t_2), (1, t_1), (1, t)] ε μ := by
  refine G_run (m_in [13, 23, 35, 45, 91, 99, 108, 121, 130, 177]) 12 _ _ _ _ ?_
  show m_ty [(0, (2, v0)), (1, (2, v1)), (2, (0, v2)), (3, (1, v3)), (5, (1, v5)), (7, (1, v7)), (9, (1, v9))] [(0, t_2), (1, t_1), (1, t)] ε μ → ∀ v11 : Int, v11 = w64 (t + (w64 (t_1 * t_2))) → (kd ε v0 = 1) ∧ (kd ε v0 = 1) ∧ (kd ε v0 = 1) ∧ o_X1_add [(2, v0), (0, w32 (4 * v2)), (1, w64 ((-10) * v11)), (1, w64 (10 * v9)), (1, w64 (-v7)), (1, w64 ((w64 (v7 * (μ v0 7))) - (w64 ((w64 (10 * v9)) * (μ v0 6)))))] ε μ (fun z ε_1 μ_1 => G cd_X1_addMomentsAt Q X 91 [(0, (2, v0)), (1, (2, v1)), (2, (0, v2)), (3, (1, v3)), (5, (1, v5)), (7, (1, v7))] [] ε_1 μ_1) m_F
  intro hty
  replace h := h hty.1 (hty.2.1 _ (List.mem_of_getElem? (i := 2) rfl)) (hty.2.1 _ (List.mem_of_getElem? (i := 3) rfl)) (hty.2.1 _ (List.mem_of_getElem? (i := 4) rfl)) (hty.2.1 _ (List.mem_of_getElem? (i := 5) rfl)) (hty.2.1 _ (List.mem_of_getElem? (i := 6) rfl)) (hty.2.2 _ (List.mem_of_getElem? (i := 2) rfl)) (hty.2.2 _ (List.mem_of_getElem? (i := 1) rfl)) (hty.2.2 _ (List.mem_of_getElem? (i := 0) rfl))
  intro v11 e_v11
  replace h := h v11 e_v11
  obtain ⟨k1, h⟩ := h
  refine And.intro k1 ?_
  refine And.intro k1 ?_
  refine And.intro k1 ?_
  exact h
set_option maxRecDepth 20000 in
theorem g_X1_addMomentsAt_35 {Q X : m_Po} {v0 v1 v2 v3 v5 v7 v9 t t_1 : Int} {ε : m_E} {μ : m_M} (h : TY ε μ → i32 v2 → i64 v3 → i64 v5 → i64 v7 → i64 v9 → i64 t → i32 t_1 → kd ε v1 = 0 ∧ o_X0_span [(2, v1), (0, v2), (0, 3)] ε μ (fun z ε_1 μ_1 => G cd_X1_addMomentsAt Q X 45 [(0, (2, v0)), (1, (2, v1)), (2, (0, v2)), (3, (1, v3)), (5, (1, v5)), (7, (1, v7)), (9, (1, v9))] [(0, z), (1, v5), (1, w64 (t * t_1))] ε_1 μ_1) m_F) : G cd_X1_addMomentsAt Q X 35 [(0, (2, v0)), (1, (2, v1)), (2, (0, v2)), (3, (1, v3)), (5, (1, v5)), (7, (1, v7)), (9, (1, v9))] [(0, t_1), (1, t)] ε μ := by
  refine G_run (m_in [13, 23, 35, 45, 91, 99, 108, 121, 130, 177]) 12 _ _ _ _ ?_
  show m_ty [(0, (2, v0)), (1, (2, v1)), (2, (0, v2)), (3, (1, v3)), (5, (1, v5)), (7, (1, v7)), (9, (1, v9))] [(0, t_1), (1, t)] ε μ → (kd ε v1 = 0) ∧ o_X0_span [(2, v1), (0, v2), (0, 3)] ε μ (fun z ε_1 μ_1 => G cd_X1_addMomentsAt Q X 45 [(0, (2, v0)), (1, (2, v1)), (2, (0, v2)), (3, (1, v3)), (5, (1, v5)), (7, (1, v7)), (9, (1, v9))] [(0, z), (1, v5), (1, w64 (t * t_1))] ε_1 μ_1) m_F
  intro hty
  replace h := h hty.1 (hty.2.1 _ (List.mem_of_getElem? (i := 2) rfl)) (hty.2.1 _ (List.mem_of_getElem? (i := 3) rfl)) (hty.2.1 _ (List.mem_of_getElem? (i := 4) rfl)) (hty.2.1 _ (List.mem_of_getElem? (i := 5) rfl)) (hty.2.1 _ (List.mem_of_getElem? (i := 6) rfl)) (hty.2.2 _ (List.mem_of_getElem? (i := 1) rfl)) (hty.2.2 _ (List.mem_of_getElem? (i := 0) rfl))
  obtain ⟨k1, h⟩ := h
  refine And.intro k1 ?_
  exact h
set_option maxRecDepth 20000 in
theorem g_X1_addMomentsAt_23 {Q X : m_Po} {v0 v1 v2 v3 v5 v7 t t_1 t_2 : Int} {ε : m_E} {μ : m_M} (h : TY ε μ → i32 v2 → i64 v3 → i64 v5 → i64 v7 → i64 t → i64 t_1 → i32 t_2 → ∀ v9 : Int, v9 = w64 (t + (w64 (t_1 * t_2))) → kd ε v1 = 0 ∧ o_X0_span [(2, v1), (0, v2), (0, 1)] ε μ (fun z ε_1 μ_1 => G cd_X1_addMomentsAt Q X 35 [(0, (2, v0)), (1, (2, v1)), (2, (0, v2)), (3, (1, v3)), (5, (1, v5)), (7, (1, v7)), (9, (1, v9))] [(0, z), (1, v3)] ε_1 μ_1) m_F) : G cd_X1_addMomentsAt Q X 23 [(0, (2, v0)), (1, (2, v1)), (2, (0, v2)), (3, (1, v3)), (5, (1, v5)), (7, (1, v7))] [(0, t_2), (1, t_1), (1, t)] ε μ := by
  refine G_run (m_in [13, 23, 35, 45, 91, 99, 108, 121, 130, 177]) 12 _ _ _ _ ?_
  show m_ty [(0, (2, v0)), (1, (2, v1)), (2, (0, v2)), (3, (1, v3)), (5, (1, v5)), (7, (1, v7))] [(0, t_2), (1, t_1), (1, t)] ε μ → ∀ v9 : Int, v9 = w64 (t + (w64 (t_1 * t_2))) → (kd ε v1 = 0) ∧ o_X0_span [(2, v1), (0, v2), (0, 1)] ε μ (fun z ε_1 μ_1 => G cd_X1_addMomentsAt Q X 35 [(0, (2, v0)), (1, (2, v1)), (2, (0, v2)), (3, (1, v3)), (5, (1, v5)), (7, (1, v7)), (9, (1, v9))] [(0, z), (1, v3)] ε_1 μ_1) m_F
  intro hty
  replace h := h hty.1 (hty.2.1 _ (List.mem_of_getElem? (i := 2) rfl)) (hty.2.1 _ (List.mem_of_getElem? (i := 3) rfl)) (hty.2.1 _ (List.mem_of_getElem? (i := 4) rfl)) (hty.2.1 _ (List.mem_of_getElem? (i := 5) rfl)) (hty.2.2 _ (List.mem_of_getElem? (i := 2) rfl)) (hty.2.2 _ (List.mem_of_getElem? (i := 1) rfl)) (hty.2.2 _ (List.mem_of_getElem? (i := 0) rfl))
  intro v9 e_v9
  replace h := h v9 e_v9
  obtain ⟨k1, h⟩ := h
  refine And.intro k1 ?_
  exact h
set_option maxRecDepth 20000 in
theorem g_X1_addMomentsAt_13 {Q X : m_Po} {v0 v1 v2 v3 v5 v7 t t_1 : Int} {ε : m_E} {μ : m_M} (h : TY ε μ → i32 v2 → i64 v3 → i64 v5 → i64 v7 → i64 t → i32 t_1 → kd ε v1 = 0 ∧ o_X0_span [(2, v1), (0, v2), (0, 2)] ε μ (fun z ε_1 μ_1 => G cd_X1_addMomentsAt Q X 23 [(0, (2, v0)), (1, (2, v1)), (2, (0, v2)), (3, (1, v3)), (5, (1, v5)), (7, (1, v7))] [(0, z), (1, v5), (1, w64 (t * t_1))] ε_1 μ_1) m_F) : G cd_X1_addMomentsAt Q X 13 [(0, (2, v0)), (1, (2, v1)), (2, (0, v2)), (3, (1, v3)), (5, (1, v5)), (7, (1, v7))] [(0, t_1), (1, t)] ε μ := by
  refine G_run (m_in [13, 23, 35, 45, 91, 99, 108, 121, 130, 177]) 12 _ _ _ _ ?_
  show m_ty [(0, (2, v0)), (1, (2, v1)), (2, (0, v2)), (3, (1, v3)), (5, (1, v5)), (7, (1, v7))] [(0, t_1), (1, t)] ε μ → (kd ε v1 = 0) ∧ o_X0_span [(2, v1), (0, v2), (0, 2)] ε μ (fun z ε_1 μ_1 => G cd_X1_addMomentsAt Q X 23 [(0, (2, v0)), (1, (2, v1)), (2, (0, v2)), (3, (1, v3)), (5, (1, v5)), (7, (1, v7))] [(0, z), (1, v5), (1, w64 (t * t_1))] ε_1 μ_1) m_F
  intro hty
  replace h := h hty.1 (hty.2.1 _ (List.mem_of_getElem? (i := 2) rfl)) (hty.2.1 _ (List.mem_of_getElem? (i := 3) rfl)) (hty.2.1 _ (List.mem_of_getElem? (i := 4) rfl)) (hty.2.1 _ (List.mem_of_getElem? (i := 5) rfl)) (hty.2.2 _ (List.mem_of_getElem? (i := 1) rfl)) (hty.2.2 _ (List.mem_of_getElem? (i := 0) rfl))
  obtain ⟨k1, h⟩ := h
  refine And.intro k1 ?_
  exact h
set_option maxRecDepth 20000 in
theorem g_X1_addMomentsAt_0 {Q X : m_Po} {v0 v1 v2 v3 v5 : Int} {ε : m_E} {μ : m_M} (h : TY ε μ → i32 v2 → i64 v3 → i64 v5 → ∀ v7 : Int, v7 = w64 (v3 + v5) → kd ε v1 = 0 ∧ o_X0_span [(2, v1), (0, v2), (0, 0)] ε μ (fun z ε_1 μ_1 => G cd_X1_addMomentsAt Q X 13 [(0, (2, v0)), (1, (2, v1)), (2, (0, v2)), (3, (1, v3)), (5, (1, v5)), (7, (1, v7))] [(0, z), (1, v3)] ε_1 μ_1) m_F) : G cd_X1_addMomentsAt Q X 0 [(0, (2, v0)), (1, (2, v1)), (2, (0, v2)), (3, (1, v3)), (5, (1, v5))] [] ε μ := by
  refine G_run (m_in [13, 23, 35, 45, 91, 99, 108, 121, 130, 177]) 12 _ _ _ _ ?_
  show m_ty [(0, (2, v0)), (1, (2, v1)), (2, (0, v2)), (3, (1, v3)), (5, (1, v5))] [] ε μ → ∀ v7 : Int, v7 = w64 (v3 + v5) → (kd ε v1 = 0) ∧ o_X0_span [(2, v1), (0, v2), (0, 0)] ε μ (fun z ε_1 μ_1 => G cd_X1_addMomentsAt Q X 13 [(0, (2, v0)), (1, (2, v1)), (2, (0, v2)), (3, (1, v3)), (5, (1, v5)), (7, (1, v7))] [(0, z), (1, v3)] ε_1 μ_1) m_F
  intro hty
  replace h := h hty.1 (hty.2.1 _ (List.mem_of_getElem? (i := 2) rfl)) (hty.2.1 _ (List.mem_of_getElem? (i := 3) rfl)) (hty.2.1 _ (List.mem_of_getElem? (i := 4) rfl))
  intro v7 e_v7
  replace h := h v7 e_v7
  obtain ⟨k1, h⟩ := h
  refine And.intro k1 ?_
  exact h
theorem e_X1_addMomentsAt {Q X : m_Po} {v0 v1 v2 v3 v5 : Int} {ε : m_E} {μ : m_M} (h : TY ε μ → i32 v2 → i64 v3 → i64 v5 → ∀ v7 : Int, v7 = w64 (v3 + v5) → kd ε v1 = 0 ∧ o_X0_span [(2, v1), (0, v2), (0, 0)] ε μ (fun z ε_1 μ_1 => G cd_X1_addMomentsAt Q X 13 [(0, (2, v0)), (1, (2, v1)), (2, (0, v2)), (3, (1, v3)), (5, (1, v5)), (7, (1, v7))] [(0, z), (1, v3)] ε_1 μ_1) m_F) : o_X1_addMomentsAt [(2, v0), (2, v1), (0, v2), (1, v3), (1, v5)] ε μ Q X := And.intro rfl (g_X1_addMomentsAt_0 h)
/-! ArchYard$Bounds.addMoments(LArchYard$Arch;I)V -/
set_option maxRecDepth 20000 in
theorem g_X1_addMoments_29 {Q X : m_Po} {ε : m_E} {μ : m_M} (h : TY ε μ → Q 0 ε μ) : G cd_X1_addMoments Q X 29 [] [] ε μ := by
  refine G_run (m_in [5, 18, 29]) 7 _ _ _ _ ?_
  show m_ty [] [] ε μ → Q 0 ε μ
  intro hty
  replace h := h hty.1 
  exact h
set_option maxRecDepth 20000 in
theorem g_X1_addMoments_18 {Q X : m_Po} {ε : m_E} {μ : m_M} (h : TY ε μ → G cd_X1_addMoments Q X 29 [] [] ε μ) : G cd_X1_addMoments Q X 18 [] [] ε μ := by
  refine G_run (m_in [5, 18, 29]) 7 _ _ _ _ ?_
  show m_ty [] [] ε μ → G cd_X1_addMoments Q X 29 [] [] ε μ
  intro hty
  replace h := h hty.1 
  exact h
set_option maxRecDepth 20000 in
theorem g_X1_addMoments_5 {Q X : m_Po} {v0 v1 v2 t : Int} {ε : m_E} {μ : m_M} (h : TY ε μ → i32 v2 → i32 t → (t = 0 → kd ε v0 = 1 ∧ o_X1_addMomentsAt [(2, v0), (2, v1), (0, v2), (1, 1), (1, 0)] ε μ (fun z ε_1 μ_1 => G cd_X1_addMoments Q X 29 [] [] ε_1 μ_1) m_F) ∧ (t ≠ 0 → kd ε v0 = 1 ∧ o_X1_addMomentsAt [(2, v0), (2, v1), (0, v2), (1, 3), (1, 1)] ε μ (fun z_1 ε_2 μ_2 => G cd_X1_addMoments Q X 18 [] [] ε_2 μ_2) m_F)) : G cd_X1_addMoments Q X 5 [(0, (2, v0)), (1, (2, v1)), (2, (0, v2))] [(0, t)] ε μ := by
  refine G_run (m_in [5, 18, 29]) 7 _ _ _ _ ?_
  show m_ty [(0, (2, v0)), (1, (2, v1)), (2, (0, v2))] [(0, t)] ε μ → (t = 0 → (m_ty [(0, (2, v0)), (1, (2, v1)), (2, (0, v2))] [] ε μ → (kd ε v0 = 1) ∧ o_X1_addMomentsAt [(2, v0), (2, v1), (0, v2), (1, 1), (1, 0)] ε μ (fun z ε_1 μ_1 => G cd_X1_addMoments Q X 29 [] [] ε_1 μ_1) m_F)) ∧ (t ≠ 0 → (m_ty [(0, (2, v0)), (1, (2, v1)), (2, (0, v2))] [] ε μ → (kd ε v0 = 1) ∧ o_X1_addMomentsAt [(2, v0), (2, v1), (0, v2), (1, 3), (1, 1)] ε μ (fun z_1 ε_2 μ_2 => G cd_X1_addMoments Q X 18 [] [] ε_2 μ_2) m_F))
  intro hty
  replace h := h hty.1 (hty.2.1 _ (List.mem_of_getElem? (i := 2) rfl)) (hty.2.2 _ (List.mem_of_getElem? (i := 0) rfl))
  obtain ⟨ha, hb⟩ := h
  refine And.intro (fun c2 => ?_) (fun c2 => ?_)
  · replace h := ha c2
    clear ha hb
    intro _
    obtain ⟨k1, h⟩ := h
    refine And.intro k1 ?_
    exact h
  · replace h := hb c2
    clear ha hb
    intro _
    obtain ⟨k2, h⟩ := h
    refine And.intro k2 ?_
    exact h
set_option maxRecDepth 20000 in
theorem g_X1_addMoments_0 {Q X : m_Po} {v0 v1 v2 : Int} {ε : m_E} {μ : m_M} (h : TY ε μ → i32 v2 → kd ε v1 = 0 ∧ o_X0_isAtFilled [(2, v1), (0, v2)] ε μ (fun z ε_1 μ_1 => G cd_X1_addMoments Q X 5 [(0, (2, v0)), (1, (2, v1)), (2, (0, v2))] [(0, z)] ε_1 μ_1) m_F) : G cd_X1_addMoments Q X 0 [(0, (2, v0)), (1, (2, v1)), (2, (0, v2))] [] ε μ := by
  refine G_run (m_in [5, 18, 29]) 7 _ _ _ _ ?_
  show m_ty [(0, (2, v0)), (1, (2, v1)), (2, (0, v2))] [] ε μ → (kd ε v1 = 0) ∧ o_X0_isAtFilled [(2, v1), (0, v2)] ε μ (fun z ε_1 μ_1 => G cd_X1_addMoments Q X 5 [(0, (2, v0)), (1, (2, v1)), (2, (0, v2))] [(0, z)] ε_1 μ_1) m_F
  intro hty
  replace h := h hty.1 (hty.2.1 _ (List.mem_of_getElem? (i := 2) rfl))
  obtain ⟨k1, h⟩ := h
  refine And.intro k1 ?_
  exact h
theorem e_X1_addMoments {Q X : m_Po} {v0 v1 v2 : Int} {ε : m_E} {μ : m_M} (h : TY ε μ → i32 v2 → kd ε v1 = 0 ∧ o_X0_isAtFilled [(2, v1), (0, v2)] ε μ (fun z ε_1 μ_1 => G cd_X1_addMoments Q X 5 [(0, (2, v0)), (1, (2, v1)), (2, (0, v2))] [(0, z)] ε_1 μ_1) m_F) : o_X1_addMoments [(2, v0), (2, v1), (0, v2)] ε μ Q X := And.intro rfl (g_X1_addMoments_0 h)
/-! ArchYard$Bounds.addSlopes(LArchYard$Arch;I)V -/
set_option maxRecDepth 20000 in
theorem g_X1_addSlopes_140 {Q X : m_Po} {ε : m_E} {μ : m_M} (h : TY ε μ → Q 0 ε μ) : G cd_X1_addSlopes Q X 140 [] [] ε μ := by
  refine G_run (m_in [5, 15, 21, 30, 36, 47, 67, 97, 140]) 13 _ _ _ _ ?_
  show m_ty [] [] ε μ → Q 0 ε μ
  intro hty
  replace h := h hty.1 
  exact h
set_option maxRecDepth 20000 in
theorem g_X1_addSlopes_97 {Q X : m_Po} {v0 v2 v3 v5 v7 v9 : Int} {ε : m_E} {μ : m_M} (h : TY ε μ → i32 v2 → i64 v3 → i64 v5 → i64 v7 → i64 v9 → ∀ v11 : Int, v11 = w64 ((w64 ((w64 (-v7)) * v3)) + (w64 (v9 * v5))) → kd ε v0 = 1 ∧ o_X1_add [(2, v0), (0, w32 ((w32 (4 * v2)) + 3)), (1, w64 ((w64 (v7 * v5)) + (w64 (v9 * v3)))), (1, v11), (1, 0), (1, w64 ((w64 (-v11)) * (μ v0 6)))] ε μ (fun z ε_1 μ_1 => G cd_X1_addSlopes Q X 140 [] [] ε_1 μ_1) m_F) : G cd_X1_addSlopes Q X 97 [(0, (2, v0)), (2, (0, v2)), (3, (1, v3)), (5, (1, v5)), (7, (1, v7)), (9, (1, v9))] [] ε μ := by
  refine G_run (m_in [5, 15, 21, 30, 36, 47, 67, 97, 140]) 13 _ _ _ _ ?_
  show m_ty [(0, (2, v0)), (2, (0, v2)), (3, (1, v3)), (5, (1, v5)), (7, (1, v7)), (9, (1, v9))] [] ε μ → ∀ v11 : Int, v11 = w64 ((w64 ((w64 (-v7)) * v3)) + (w64 (v9 * v5))) → (kd ε v0 = 1) ∧ (kd ε v0 = 1) ∧ o_X1_add [(2, v0), (0, w32 ((w32 (4 * v2)) + 3)), (1, w64 ((w64 (v7 * v5)) + (w64 (v9 * v3)))), (1, v11), (1, 0), (1, w64 ((w64 (-v11)) * (μ v0 6)))] ε μ (fun z ε_1 μ_1 => G cd_X1_addSlopes Q X 140 [] [] ε_1 μ_1) m_F
  intro hty
  replace h := h hty.1 (hty.2.1 _ (List.mem_of_getElem? (i := 1) rfl)) (hty.2.1 _ (List.mem_of_getElem? (i := 2) rfl)) (hty.2.1 _ (List.mem_of_getElem? (i := 3) rfl)) (hty.2.1 _ (List.mem_of_getElem? (i := 4) rfl)) (hty.2.1 _ (List.mem_of_getElem? (i := 5) rfl))
  intro v11 e_v11
  replace h := h v11 e_v11
  obtain ⟨k1, h⟩ := h
  refine And.intro k1 ?_
  refine And.intro k1 ?_
  exact h
set_option maxRecDepth 20000 in
theorem g_X1_addSlopes_67 {Q X : m_Po} {v0 v2 v3 v5 v7 v9 v11 : Int} {ε : m_E} {μ : m_M} (h : TY ε μ → i32 v2 → i64 v3 → i64 v5 → i64 v7 → i64 v9 → i64 v11 → kd ε v0 = 1 ∧ o_X1_add [(2, v0), (0, w32 ((w32 (4 * v2)) + 2)), (1, w64 ((w64 (v7 * v5)) - (w64 (v9 * v3)))), (1, v11), (1, 0), (1, w64 ((w64 (-v11)) * (μ v0 6)))] ε μ (fun z ε_1 μ_1 => G cd_X1_addSlopes Q X 97 [(0, (2, v0)), (2, (0, v2)), (3, (1, v3)), (5, (1, v5)), (7, (1, v7)), (9, (1, v9))] [] ε_1 μ_1) m_F) : G cd_X1_addSlopes Q X 67 [(0, (2, v0)), (2, (0, v2)), (3, (1, v3)), (5, (1, v5)), (7, (1, v7)), (9, (1, v9)), (11, (1, v11))] [] ε μ := by
  refine G_run (m_in [5, 15, 21, 30, 36, 47, 67, 97, 140]) 13 _ _ _ _ ?_
  show m_ty [(0, (2, v0)), (2, (0, v2)), (3, (1, v3)), (5, (1, v5)), (7, (1, v7)), (9, (1, v9)), (11, (1, v11))] [] ε μ → (kd ε v0 = 1) ∧ (kd ε v0 = 1) ∧ o_X1_add [(2, v0), (0, w32 ((w32 (4 * v2)) + 2)), (1, w64 ((w64 (v7 * v5)) - (w64 (v9 * v3)))), (1, v11), (1, 0), (1, w64 ((w64 (-v11)) * (μ v0 6)))] ε μ (fun z ε_1 μ_1 => G cd_X1_addSlopes Q X 97 [(0, (2, v0)), (2, (0, v2)), (3, (1, v3)), (5, (1, v5)), (7, (1, v7)), (9, (1, v9))] [] ε_1 μ_1) m_F
  intro hty
  replace h := h hty.1 (hty.2.1 _ (List.mem_of_getElem? (i := 1) rfl)) (hty.2.1 _ (List.mem_of_getElem? (i := 2) rfl)) (hty.2.1 _ (List.mem_of_getElem? (i := 3) rfl)) (hty.2.1 _ (List.mem_of_getElem? (i := 4) rfl)) (hty.2.1 _ (List.mem_of_getElem? (i := 5) rfl)) (hty.2.1 _ (List.mem_of_getElem? (i := 6) rfl))
  obtain ⟨k1, h⟩ := h
  refine And.intro k1 ?_
  refine And.intro k1 ?_
  exact h
set_option maxRecDepth 20000 in
theorem g_X1_addSlopes_47 {Q X : m_Po} {v0 v1 v2 v3 v5 v7 : Int} {ε : m_E} {μ : m_M} (h : TY ε μ → i32 v2 → i64 v3 → i64 v5 → i64 v7 → kd ε v1 = 0 ∧ ∀ v9 : Int, v9 = μ v1 15 → ∀ v11 : Int, v11 = w64 ((w64 ((w64 (-v7)) * v3)) - (w64 (v9 * v5))) → kd ε v0 = 1 ∧ o_X1_add [(2, v0), (0, w32 ((w32 (4 * v2)) + 2)), (1, w64 ((w64 (v7 * v5)) - (w64 (v9 * v3)))), (1, v11), (1, 0), (1, w64 ((w64 (-v11)) * (μ v0 6)))] ε μ (fun z ε_1 μ_1 => G cd_X1_addSlopes Q X 97 [(0, (2, v0)), (2, (0, v2)), (3, (1, v3)), (5, (1, v5)), (7, (1, v7)), (9, (1, v9))] [] ε_1 μ_1) m_F) : G cd_X1_addSlopes Q X 47 [(0, (2, v0)), (1, (2, v1)), (2, (0, v2)), (3, (1, v3)), (5, (1, v5)), (7, (1, v7))] [] ε μ := by
  refine G_run (m_in [5, 15, 21, 30, 36, 47, 67, 97, 140]) 13 _ _ _ _ ?_
  show m_ty [(0, (2, v0)), (1, (2, v1)), (2, (0, v2)), (3, (1, v3)), (5, (1, v5)), (7, (1, v7))] [] ε μ → (kd ε v1 = 0) ∧ ∀ v9 : Int, v9 = μ v1 15 → ∀ v11 : Int, v11 = w64 ((w64 ((w64 (-v7)) * v3)) - (w64 (v9 * v5))) → G cd_X1_addSlopes Q X 67 [(0, (2, v0)), (2, (0, v2)), (3, (1, v3)), (5, (1, v5)), (7, (1, v7)), (9, (1, v9)), (11, (1, v11))] [] ε μ
  intro hty
  replace h := h hty.1 (hty.2.1 _ (List.mem_of_getElem? (i := 2) rfl)) (hty.2.1 _ (List.mem_of_getElem? (i := 3) rfl)) (hty.2.1 _ (List.mem_of_getElem? (i := 4) rfl)) (hty.2.1 _ (List.mem_of_getElem? (i := 5) rfl))
  obtain ⟨k1, h⟩ := h
  refine And.intro k1 ?_
  intro v9 e_v9
  replace h := h v9 e_v9
  intro v11 e_v11
  replace h := h v11 e_v11
  exact g_X1_addSlopes_67 (fun _ _ _ _ _ _ _ => h)
set_option maxRecDepth 20000 in
theorem g_X1_addSlopes_36 {Q X : m_Po} {v0 v1 v2 v3 t t_1 : Int} {ε : m_E} {μ : m_M} (h : TY ε μ → i32 v2 → i64 v3 → i32 t → i32 t_1 → ∀ v5 : Int, v5 = w32 (t - t_1) → kd ε v1 = 0 ∧ ∀ v7 : Int, v7 = μ v1 14 → kd ε v1 = 0 ∧ ∀ v9 : Int, v9 = μ v1 15 → ∀ v11 : Int, v11 = w64 ((w64 ((w64 (-v7)) * v3)) - (w64 (v9 * v5))) → kd ε v0 = 1 ∧ o_X1_add [(2, v0), (0, w32 ((w32 (4 * v2)) + 2)), (1, w64 ((w64 (v7 * v5)) - (w64 (v9 * v3)))), (1, v11), (1, 0), (1, w64 ((w64 (-v11)) * (μ v0 6)))] ε μ (fun z ε_1 μ_1 => G cd_X1_addSlopes Q X 97 [(0, (2, v0)), (2, (0, v2)), (3, (1, v3)), (5, (1, v5)), (7, (1, v7)), (9, (1, v9))] [] ε_1 μ_1) m_F) : G cd_X1_addSlopes Q X 36 [(0, (2, v0)), (1, (2, v1)), (2, (0, v2)), (3, (1, v3))] [(0, t_1), (0, t)] ε μ := by
  refine G_run (m_in [5, 15, 21, 30, 36, 47, 67, 97, 140]) 13 _ _ _ _ ?_
  show m_ty [(0, (2, v0)), (1, (2, v1)), (2, (0, v2)), (3, (1, v3))] [(0, t_1), (0, t)] ε μ → ∀ v5 : Int, v5 = w32 (t - t_1) → (kd ε v1 = 0) ∧ ∀ v7 : Int, v7 = μ v1 14 → G cd_X1_addSlopes Q X 47 [(0, (2, v0)), (1, (2, v1)), (2, (0, v2)), (3, (1, v3)), (5, (1, v5)), (7, (1, v7))] [] ε μ
  intro hty
  replace h := h hty.1 (hty.2.1 _ (List.mem_of_getElem? (i := 2) rfl)) (hty.2.1 _ (List.mem_of_getElem? (i := 3) rfl)) (hty.2.2 _ (List.mem_of_getElem? (i := 1) rfl)) (hty.2.2 _ (List.mem_of_getElem? (i := 0) rfl))
  intro v5 e_v5
  replace h := h v5 e_v5
  obtain ⟨k1, h⟩ := h
  refine And.intro k1 ?_
  intro v7 e_v7
  replace h := h v7 e_v7
  exact g_X1_addSlopes_47 (fun _ _ _ _ _ => h)
set_option maxRecDepth 20000 in
theorem g_X1_addSlopes_30 {Q X : m_Po} {v0 v1 v2 v3 t : Int} {ε : m_E} {μ : m_M} (h : TY ε μ → i32 v2 → i64 v3 → i32 t → kd ε v1 = 0 ∧ o_X0_span [(2, v1), (0, v2), (0, 1)] ε μ (fun z ε_1 μ_1 => G cd_X1_addSlopes Q X 36 [(0, (2, v0)), (1, (2, v1)), (2, (0, v2)), (3, (1, v3))] [(0, z), (0, t)] ε_1 μ_1) m_F) : G cd_X1_addSlopes Q X 30 [(0, (2, v0)), (1, (2, v1)), (2, (0, v2)), (3, (1, v3))] [(0, t)] ε μ := by
  refine G_run (m_in [5, 15, 21, 30, 36, 47, 67, 97, 140]) 13 _ _ _ _ ?_
  show m_ty [(0, (2, v0)), (1, (2, v1)), (2, (0, v2)), (3, (1, v3))] [(0, t)] ε μ → (kd ε v1 = 0) ∧ o_X0_span [(2, v1), (0, v2), (0, 1)] ε μ (fun z ε_1 μ_1 => G cd_X1_addSlopes Q X 36 [(0, (2, v0)), (1, (2, v1)), (2, (0, v2)), (3, (1, v3))] [(0, z), (0, t)] ε_1 μ_1) m_F
  intro hty
  replace h := h hty.1 (hty.2.1 _ (List.mem_of_getElem? (i := 2) rfl)) (hty.2.1 _ (List.mem_of_getElem? (i := 3) rfl)) (hty.2.2 _ (List.mem_of_getElem? (i := 0) rfl))
  obtain ⟨k1, h⟩ := h
  refine And.intro k1 ?_
  exact h
set_option maxRecDepth 20000 in
theorem g_X1_addSlopes_21 {Q X : m_Po} {v0 v1 v2 t t_1 : Int} {ε : m_E} {μ : m_M} (h : TY ε μ → i32 v2 → i32 t → i32 t_1 → ∀ v3 : Int, v3 = w32 (t - t_1) → kd ε v1 = 0 ∧ o_X0_span [(2, v1), (0, v2), (0, 3)] ε μ (fun z ε_1 μ_1 => G cd_X1_addSlopes Q X 30 [(0, (2, v0)), (1, (2, v1)), (2, (0, v2)), (3, (1, v3))] [(0, z)] ε_1 μ_1) m_F) : G cd_X1_addSlopes Q X 21 [(0, (2, v0)), (1, (2, v1)), (2, (0, v2))] [(0, t_1), (0, t)] ε μ := by
  refine G_run (m_in [5, 15, 21, 30, 36, 47, 67, 97, 140]) 13 _ _ _ _ ?_
  show m_ty [(0, (2, v0)), (1, (2, v1)), (2, (0, v2))] [(0, t_1), (0, t)] ε μ → ∀ v3 : Int, v3 = w32 (t - t_1) → (kd ε v1 = 0) ∧ o_X0_span [(2, v1), (0, v2), (0, 3)] ε μ (fun z ε_1 μ_1 => G cd_X1_addSlopes Q X 30 [(0, (2, v0)), (1, (2, v1)), (2, (0, v2)), (3, (1, v3))] [(0, z)] ε_1 μ_1) m_F
  intro hty
  replace h := h hty.1 (hty.2.1 _ (List.mem_of_getElem? (i := 2) rfl)) (hty.2.2 _ (List.mem_of_getElem? (i := 1) rfl)) (hty.2.2 _ (List.mem_of_getElem? (i := 0) rfl))
  intro v3 e_v3
  replace h := h v3 e_v3
  obtain ⟨k1, h⟩ := h
  refine And.intro k1 ?_
  exact h
set_option maxRecDepth 20000 in
theorem g_X1_addSlopes_15 {Q X : m_Po} {v0 v1 v2 t : Int} {ε : m_E} {μ : m_M} (h : TY ε μ → i32 v2 → i32 t → kd ε v1 = 0 ∧ o_X0_span [(2, v1), (0, v2), (0, 0)] ε μ (fun z ε_1 μ_1 => G cd_X1_addSlopes Q X 21 [(0, (2, v0)), (1, (2, v1)), (2, (0, v2))] [(0, z), (0, t)] ε_1 μ_1) m_F) : G cd_X1_addSlopes Q X 15 [(0, (2, v0)), (1, (2, v1)), (2, (0, v2))] [(0, t)] ε μ := by
  refine G_run (m_in [5, 15, 21, 30, 36, 47, 67, 97, 140]) 13 _ _ _ _ ?_
  show m_ty [(0, (2, v0)), (1, (2, v1)), (2, (0, v2))] [(0, t)] ε μ → (kd ε v1 = 0) ∧ o_X0_span [(2, v1), (0, v2), (0, 0)] ε μ (fun z ε_1 μ_1 => G cd_X1_addSlopes Q X 21 [(0, (2, v0)), (1, (2, v1)), (2, (0, v2))] [(0, z), (0, t)] ε_1 μ_1) m_F
  intro hty
  replace h := h hty.1 (hty.2.1 _ (List.mem_of_getElem? (i := 2) rfl)) (hty.2.2 _ (List.mem_of_getElem? (i := 0) rfl))
  obtain ⟨k1, h⟩ := h
  refine And.intro k1 ?_
  exact h
set_option maxRecDepth 20000 in
theorem g_X1_addSlopes_5 {Q X : m_Po} {v0 v1 v2 t : Int} {ε : m_E} {μ : m_M} (h : TY ε μ → i32 v2 → i32 t → (t = 0 → kd ε v1 = 0 ∧ o_X0_span [(2, v1), (0, v2), (0, 2)] ε μ (fun z ε_1 μ_1 => G cd_X1_addSlopes Q X 15 [(0, (2, v0)), (1, (2, v1)), (2, (0, v2))] [(0, z)] ε_1 μ_1) m_F) ∧ (t ≠ 0 → Q 0 ε μ)) : G cd_X1_addSlopes Q X 5 [(0, (2, v0)), (1, (2, v1)), (2, (0, v2))] [(0, t)] ε μ := by
  refine G_run (m_in [5, 15, 21, 30, 36, 47, 67, 97, 140]) 13 _ _ _ _ ?_
  show m_ty [(0, (2, v0)), (1, (2, v1)), (2, (0, v2))] [(0, t)] ε μ → (t = 0 → (m_ty [(0, (2, v0)), (1, (2, v1)), (2, (0, v2))] [] ε μ → (kd ε v1 = 0) ∧ o_X0_span [(2, v1), (0, v2), (0, 2)] ε μ (fun z ε_1 μ_1 => G cd_X1_addSlopes Q X 15 [(0, (2, v0)), (1, (2, v1)), (2, (0, v2))] [(0, z)] ε_1 μ_1) m_F)) ∧ (t ≠ 0 → (m_ty [] [] ε μ → Q 0 ε μ))
  intro hty
  replace h := h hty.1 (hty.2.1 _ (List.mem_of_getElem? (i := 2) rfl)) (hty.2.2 _ (List.mem_of_getElem? (i := 0) rfl))
  obtain ⟨ha, hb⟩ := h
  refine And.intro (fun c1 => ?_) (fun c1 => ?_)
  · replace h := ha c1
    clear ha hb
    intro _
    obtain ⟨k1, h⟩ := h
    refine And.intro k1 ?_
    exact h
  · replace h := hb c1
    clear ha hb
    intro _
    exact h
set_option maxRecDepth 20000 in
theorem g_X1_addSlopes_0 {Q X : m_Po} {v0 v1 v2 : Int} {ε : m_E} {μ : m_M} (h : TY ε μ → i32 v2 → kd ε v1 = 0 ∧ o_X0_isSpringing [(2, v1), (0, v2)] ε μ (fun z ε_1 μ_1 => G cd_X1_addSlopes Q X 5 [(0, (2, v0)), (1, (2, v1)), (2, (0, v2))] [(0, z)] ε_1 μ_1) m_F) : G cd_X1_addSlopes Q X 0 [(0, (2, v0)), (1, (2, v1)), (2, (0, v2))] [] ε μ := by
  refine G_run (m_in [5, 15, 21, 30, 36, 47, 67, 97, 140]) 13 _ _ _ _ ?_
  show m_ty [(0, (2, v0)), (1, (2, v1)), (2, (0, v2))] [] ε μ → (kd ε v1 = 0) ∧ o_X0_isSpringing [(2, v1), (0, v2)] ε μ (fun z ε_1 μ_1 => G cd_X1_addSlopes Q X 5 [(0, (2, v0)), (1, (2, v1)), (2, (0, v2))] [(0, z)] ε_1 μ_1) m_F
  intro hty
  replace h := h hty.1 (hty.2.1 _ (List.mem_of_getElem? (i := 2) rfl))
  obtain ⟨k1, h⟩ := h
  refine And.intro k1 ?_
  exact h
theorem e_X1_addSlopes {Q X : m_Po} {v0 v1 v2 : Int} {ε : m_E} {μ : m_M} (h : TY ε μ → i32 v2 → kd ε v1 = 0 ∧ o_X0_isSpringing [(2, v1), (0, v2)] ε μ (fun z ε_1 μ_1 => G cd_X1_addSlopes Q X 5 [(0, (2, v0)), (1, (2, v1)), (2, (0, v2))] [(0, z)] ε_1 μ_1) m_F) : o_X1_addSlopes [(2, v0), (2, v1), (0, v2)] ε μ Q X := And.intro rfl (g_X1_addSlopes_0 h)
