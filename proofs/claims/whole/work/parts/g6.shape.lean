set_option maxHeartbeats 1000000
/-! ===== shapes: the class's Shape.isSound ===== -/
/-- an array holds n points; u and v go round -/
def Pt (ε : m_E) (μ : m_M) (p n : Int) (u v : Int → Int) : Prop := kd ε p = 100 ∧ ln ε p = 2 * n ∧ 3 ≤ n ∧ n ≤ 12 ∧ ∀ i, 0 ≤ i → (μ p (2 * (i % n)) = u i ∧ μ p (2 * (i % n) + 1) = v i) ∧ ab (u i) 100 ∧ ab (v i) 100
theorem Pt.x {Q Y : m_Po} {ε : m_E} {μ : m_M} {p n i : Int} {u v : Int → Int} (H : Pt ε μ p n u v) (i0 : 0 ≤ i) (hh : Q (u i) ε μ) : o_X6_xOf [(2, p), (0, i)] ε μ Q Y := by
  obtain ⟨h1, h2, h3, h4, h5⟩ := H
  refine sp_X6_xOf h1 h2 (by omega) (by omega) i0 ?_
  rw [(h5 i i0).1.1]; exact hh
theorem Pt.y {Q Y : m_Po} {ε : m_E} {μ : m_M} {p n i : Int} {u v : Int → Int} (H : Pt ε μ p n u v) (i0 : 0 ≤ i) (hh : Q (v i) ε μ) : o_X6_yOf [(2, p), (0, i)] ε μ Q Y := by
  obtain ⟨h1, h2, h3, h4, h5⟩ := H
  refine sp_X6_yOf h1 h2 (by omega) (by omega) i0 ?_
  rw [(h5 i i0).1.2]; exact hh
theorem Pt.bu {ε : m_E} {μ : m_M} {p n : Int} {u v : Int → Int} (H : Pt ε μ p n u v) (i : Int) (i0 : 0 ≤ i) : ab (u i) 100 := (H.2.2.2.2 i i0).2.1
theorem Pt.bv {ε : m_E} {μ : m_M} {p n : Int} {u v : Int → Int} (H : Pt ε μ p n u v) (i : Int) (i0 : 0 ≤ i) : ab (v i) 100 := (H.2.2.2.2 i i0).2.2
theorem w1_id {i : Int} (i0 : 0 ≤ i) (i1 : i ≤ 100) : w32 (i + 1) = i + 1 := w32_id (by unfold i32; omega)
theorem w2_id {i : Int} (i0 : 0 ≤ i) (i1 : i ≤ 100) : w32 (i + 2) = i + 2 := w32_id (by unfold i32; omega)
def nol (u v : Int → Int) (i : Int) : Prop := u i = u (i + 1) ∧ v i = v (i + 1)
theorem sp_X6_hasNoLength {Q Y : m_Po} {ε : m_E} {μ : m_M} {p n i : Int} {u v : Int → Int} (H : Pt ε μ p n u v) (i0 : 0 ≤ i) (i1 : i ≤ 100) (h1 : nol u v i → Q 1 ε μ) (h0 : ¬ nol u v i → Q 0 ε μ) : o_X6_hasNoLength [(2, p), (0, i)] ε μ Q Y := by
  apply e_X6_hasNoLength
  refine fun _ _ => H.x i0 ?_
  apply g_X6_hasNoLength_5
  rw [w1_id i0 i1]
  refine fun _ _ _ => H.x (by omega) ?_
  apply g_X6_hasNoLength_12
  refine fun _ _ _ _ => ⟨fun q => ?_, fun q => H.y i0 ?_⟩
  · apply g_X6_hasNoLength_34; exact fun _ => h0 (fun z => q z.1)
  apply g_X6_hasNoLength_20
  rw [w1_id i0 i1]
  refine fun _ _ _ => H.y (by omega) ?_
  apply g_X6_hasNoLength_27
  refine fun _ _ _ => ⟨fun q' => ?_, fun q' => h1 ⟨q, q'⟩⟩
  apply g_X6_hasNoLength_34; exact fun _ => h0 (fun z => q' z.2)
def fob (u v : Int → Int) (i : Int) : Prop := (u (i + 1) - u i) * (v (i + 2) - v (i + 1)) - (v (i + 1) - v i) * (u (i + 2) - u (i + 1)) = 0 ∧ (u (i + 1) - u i) * (u (i + 2) - u (i + 1)) + (v (i + 1) - v i) * (v (i + 2) - v (i + 1)) < 0
theorem sp_X6_foldsBack {Q Y : m_Po} {ε : m_E} {μ : m_M} {p n i : Int} {u v : Int → Int} (H : Pt ε μ p n u v) (i0 : 0 ≤ i) (i1 : i ≤ 100) (h1 : fob u v i → Q 1 ε μ) (h0 : ¬ fob u v i → Q 0 ε μ) : o_X6_foldsBack [(2, p), (0, i)] ε μ Q Y := by
  have bu := H.bu
  have bv := H.bv
  have d1 := ab_sub (bu (i + 1) (by omega)) (bu i i0)
  have d2 := ab_sub (bv (i + 1) (by omega)) (bv i i0)
  have d3 := ab_sub (bu (i + 2) (by omega)) (bu (i + 1) (by omega))
  have d4 := ab_sub (bv (i + 2) (by omega)) (bv (i + 1) (by omega))
  apply e_X6_foldsBack
  rw [w1_id i0 i1]
  refine fun _ _ => H.x (by omega) ?_
  apply g_X6_foldsBack_7
  refine fun _ _ _ => H.x i0 ?_
  apply g_X6_foldsBack_12
  intro _ _ _ _ v2 e2
  rw [w1_id i0 i1]
  refine H.y (by omega) ?_
  apply g_X6_foldsBack_21
  refine fun _ _ _ _ => H.y i0 ?_
  apply g_X6_foldsBack_26
  intro _ _ _ _ _ v3 e3
  rw [w2_id i0 i1]
  refine H.x (by omega) ?_
  apply g_X6_foldsBack_35
  rw [w1_id i0 i1]
  refine fun _ _ _ _ _ => H.x (by omega) ?_
  apply g_X6_foldsBack_42
  intro _ _ _ _ _ _ v4 e4
  rw [w2_id i0 i1]
  refine H.y (by omega) ?_
  apply g_X6_foldsBack_52
  rw [w1_id i0 i1]
  refine fun _ _ _ _ _ _ => H.y (by omega) ?_
  apply g_X6_foldsBack_59
  intro _ _ _ _ _ _ v5 e5 t ht
  rw [w32_ab d1 (by decide)] at e2
  rw [w32_ab d2 (by decide)] at e3
  rw [w32_ab d3 (by decide)] at e4
  rw [w32_ab d4 (by decide)] at e5
  rw [e2, e3, e4, e5, w32_ab (abm d1 d4) (by decide), w32_ab (abm d2 d3) (by decide), w32_ab (abm d1 d3) (by decide), w32_ab (abm d2 d4) (by decide), w32_ab (ab_sub (abm d1 d4) (abm d2 d3)) (by decide), w32_ab (ab_ad (abm d1 d3) (abm d2 d4)) (by decide)] at ht
  unfold fob at h1 h0
  by_cases a : (u (i + 1) - u i) * (v (i + 2) - v (i + 1)) - (v (i + 1) - v i) * (u (i + 2) - u (i + 1)) = 0
  · rw [if_pos a] at ht
    by_cases b : 0 ≤ (u (i + 1) - u i) * (u (i + 2) - u (i + 1)) + (v (i + 1) - v i) * (v (i + 2) - v (i + 1))
    · rw [if_pos b] at ht; rw [ht]; exact h0 (fun z => Int.not_lt.mpr b z.2)
    · rw [if_neg b] at ht; rw [ht]; exact h1 ⟨a, Int.not_le.mp b⟩
  · rw [if_neg a] at ht; rw [ht]; exact h0 (fun z => a z.1)
def sg3 (z : Int) : Int := if 0 ≤ z then if z = 0 then 0 else 1 else -1
def crs (u v : Int → Int) (f p : Int) : Int := (u (f + 1) - u f) * (v p - v f) - (v (f + 1) - v f) * (u p - u f)
theorem sg3_ab (z : Int) : ab (sg3 z) 1 := by
  unfold sg3 ab
  split
  · split <;> omega
  · omega
theorem crs_ab {u v : Int → Int} (bu : ∀ i, 0 ≤ i → ab (u i) 100) (bv : ∀ i, 0 ≤ i → ab (v i) 100) {f p : Int} (f0 : 0 ≤ f) (p0 : 0 ≤ p) : ab (crs u v f p) 80000 := by
  have := ab_sub (abm (ab_sub (bu (f + 1) (by omega)) (bu f f0)) (ab_sub (bv p p0) (bv f f0))) (abm (ab_sub (bv (f + 1) (by omega)) (bv f f0)) (ab_sub (bu p p0) (bu f f0)))
  exact this
theorem sp_X6_sideOf {Q Y : m_Po} {ε : m_E} {μ : m_M} {p n f k : Int} {u v : Int → Int} (H : Pt ε μ p n u v) (f0 : 0 ≤ f) (f1 : f ≤ 100) (k0 : 0 ≤ k) (hh : Q (sg3 (crs u v f k)) ε μ) : o_X6_sideOf [(2, p), (0, f), (0, k)] ε μ Q Y := by
  have bu := H.bu
  have bv := H.bv
  have d1 := ab_sub (bu (f + 1) (by omega)) (bu f f0)
  have d2 := ab_sub (bv (f + 1) (by omega)) (bv f f0)
  have d3 := ab_sub (bu k k0) (bu f f0)
  have d4 := ab_sub (bv k k0) (bv f f0)
  apply e_X6_sideOf
  refine fun _ _ _ => H.x f0 ?_
  apply g_X6_sideOf_5
  intro _ _ _ _ v3 e3
  refine H.y f0 ?_
  apply g_X6_sideOf_11
  intro _ _ _ _ _ v4 e4
  rw [w1_id f0 f1]
  refine H.x (by omega) ?_
  apply g_X6_sideOf_20
  rw [e3, e4, w32_ab d1 (by decide)]
  refine fun _ _ _ _ _ _ => H.y k0 ?_
  apply g_X6_sideOf_27
  rw [w1_id f0 f1, w32_ab d4 (by decide), w32_ab (abm d1 d4) (by decide)]
  refine fun _ _ _ _ _ _ _ => H.y (by omega) ?_
  apply g_X6_sideOf_38
  rw [w32_ab d2 (by decide)]
  refine fun _ _ _ _ _ _ => H.x k0 ?_
  apply g_X6_sideOf_46
  intro _ _ _ _ _ v5 e5
  rw [w32_ab d3 (by decide), w32_ab (abm d2 d3) (by decide), w32_ab (ab_sub (abm d1 d4) (abm d2 d3)) (by decide)] at e5
  apply e_J_compare
  intro _ _ _ t ht
  apply g_X6_sideOf_58
  intro _ _
  have : t = sg3 (crs u v f k) := by rw [ht, e5]; rfl
  rw [this]; exact hh
def bt (w a b : Int) : Prop := (a ≤ w ∧ w ≤ b) ∨ (b ≤ w ∧ w ≤ a)
theorem sp_X6_isBetween {Q Y : m_Po} {ε : m_E} {μ : m_M} {w a b : Int} (h1 : bt w a b → Q 1 ε μ) (h0 : ¬ bt w a b → Q 0 ε μ) : o_X6_isBetween [(0, w), (0, a), (0, b)] ε μ Q Y := by
  apply e_X6_isBetween
  intro _ _ _ _ t ht
  unfold bt at h1 h0
  have : (t = 1 ∧ ((a ≤ w ∧ w ≤ b) ∨ (b ≤ w ∧ w ≤ a))) ∨ (t = 0 ∧ ¬ ((a ≤ w ∧ w ≤ b) ∨ (b ≤ w ∧ w ≤ a))) := by
    clear h1 h0
    by_cases c : b < a
    · rw [if_pos c, if_neg (show ¬ a < b by omega)] at ht
      by_cases d : w < b
      · rw [if_pos d] at ht; exact Or.inr ⟨ht, by omega⟩
      · rw [if_neg d] at ht
        by_cases e : a < w
        · rw [if_pos e] at ht; exact Or.inr ⟨ht, by omega⟩
        · rw [if_neg e] at ht; exact Or.inl ⟨ht, by omega⟩
    · have eb : (if a < b then b else a) = b := by split <;> omega
      rw [if_neg c, eb] at ht
      by_cases d : w < a
      · rw [if_pos d] at ht; exact Or.inr ⟨ht, by omega⟩
      · rw [if_neg d] at ht
        by_cases e : b < w
        · rw [if_pos e] at ht; exact Or.inr ⟨ht, by omega⟩
        · rw [if_neg e] at ht; exact Or.inl ⟨ht, by omega⟩
  rcases this with ⟨e, z⟩ | ⟨e, z⟩
  · rw [e]; exact h1 z
  · rw [e]; exact h0 z
def bes (u v : Int → Int) (f k : Int) : Prop := bt (u k) (u f) (u (f + 1)) ∧ bt (v k) (v f) (v (f + 1))
theorem sp_X6_isBeside {Q Y : m_Po} {ε : m_E} {μ : m_M} {p n f k : Int} {u v : Int → Int} (H : Pt ε μ p n u v) (f0 : 0 ≤ f) (f1 : f ≤ 100) (k0 : 0 ≤ k) (h1 : bes u v f k → Q 1 ε μ) (h0 : ¬ bes u v f k → Q 0 ε μ) : o_X6_isBeside [(2, p), (0, f), (0, k)] ε μ Q Y := by
  have z50 : ¬ bes u v f k → G cd_X6_isBeside Q Y 50 [] [] ε μ := fun q => by
    apply g_X6_isBeside_50; exact fun _ => h0 q
  apply e_X6_isBeside
  refine fun _ _ _ => H.x k0 ?_
  apply g_X6_isBeside_5
  refine fun _ _ _ _ => H.x f0 ?_
  apply g_X6_isBeside_10
  rw [w1_id f0 f1]
  refine fun _ _ _ _ _ => H.x (by omega) ?_
  apply g_X6_isBeside_17
  refine fun _ _ _ _ _ _ => sp_X6_isBetween (fun q => ?_) (fun q => ?_)
  · apply g_X6_isBeside_20
    refine fun _ _ _ _ => ⟨fun y => absurd y (by decide), fun _ => H.y k0 ?_⟩
    apply g_X6_isBeside_28
    refine fun _ _ _ => H.y f0 ?_
    apply g_X6_isBeside_33
    rw [w1_id f0 f1]
    refine fun _ _ _ _ => H.y (by omega) ?_
    apply g_X6_isBeside_40
    refine fun _ _ _ _ => sp_X6_isBetween (fun q' => ?_) (fun q' => ?_)
    · apply g_X6_isBeside_43
      exact fun _ _ => ⟨fun y => absurd y (by decide), fun _ => h1 ⟨q, q'⟩⟩
    · apply g_X6_isBeside_43
      exact fun _ _ => ⟨fun _ => z50 (fun z => q' z.2), fun y => absurd rfl y⟩
  · apply g_X6_isBeside_20
    exact fun _ _ _ _ => ⟨fun _ => z50 (fun z => q z.1), fun y => absurd rfl y⟩
def mee (u v : Int → Int) (i j : Int) : Prop := (sg3 (crs u v i j) * sg3 (crs u v i (j + 1)) < 0 ∧ sg3 (crs u v j i) * sg3 (crs u v j (i + 1)) < 0) ∨ (sg3 (crs u v i j) = 0 ∧ bes u v i j) ∨ (sg3 (crs u v i (j + 1)) = 0 ∧ bes u v i (j + 1)) ∨ (sg3 (crs u v j i) = 0 ∧ bes u v j i) ∨ (sg3 (crs u v j (i + 1)) = 0 ∧ bes u v j (i + 1))
theorem sp_X6_meet {Q Y : m_Po} {ε : m_E} {μ : m_M} {p n i j : Int} {u v : Int → Int} (H : Pt ε μ p n u v) (i0 : 0 ≤ i) (i1 : i ≤ 100) (j0 : 0 ≤ j) (j1 : j ≤ 100) (h1 : mee u v i j → Q 1 ε μ) (h0 : ¬ mee u v i j → Q 0 ε μ) : o_X6_meet [(2, p), (0, i), (0, j)] ε μ Q Y := by
  have z111 : mee u v i j → G cd_X6_meet Q Y 111 [] [] ε μ := fun q => by
    apply g_X6_meet_111; exact fun _ => h1 q
  have z115 : ¬ mee u v i j → G cd_X6_meet Q Y 115 [] [] ε μ := fun q => by
    apply g_X6_meet_115; exact fun _ => h0 q
  have wi := w1_id i0 i1
  have wj := w1_id j0 j1
  apply e_X6_meet
  refine fun _ _ _ => sp_X6_sideOf H i0 i1 j0 ?_
  apply g_X6_meet_6
  intro _ _ _ _ v3 e3
  rw [wj]
  refine sp_X6_sideOf H i0 i1 (by omega) ?_
  apply g_X6_meet_15
  intro _ _ _ _ _ v4 e4
  refine sp_X6_sideOf H j0 j1 i0 ?_
  apply g_X6_meet_23
  intro _ _ _ _ _ _ v5 e5
  rw [wi]
  refine sp_X6_sideOf H j0 j1 (by omega) ?_
  apply g_X6_meet_33
  intro _ _ _ _ _ _ _ v6 e6
  have b3 : ab v3 1 := by rw [e3]; exact sg3_ab _
  have b4 : ab v4 1 := by rw [e4]; exact sg3_ab _
  have b5 : ab v5 1 := by rw [e5]; exact sg3_ab _
  have b6 : ab v6 1 := by rw [e6]; exact sg3_ab _
  rw [w32_ab (abm b3 b4) (by decide), w32_ab (abm b5 b6) (by decide)]
  unfold mee at z111 z115 h1
  rw [← e3, ← e4, ← e5, ← e6] at z111 z115 h1
  have z95 : ¬ (v3 * v4 < 0 ∧ v5 * v6 < 0) → ¬ (v3 = 0 ∧ bes u v i j) → ¬ (v4 = 0 ∧ bes u v i (j + 1)) → ¬ (v5 = 0 ∧ bes u v j i) → G cd_X6_meet Q Y 95 [(0, (2, p)), (1, (0, i)), (2, (0, j)), (6, (0, v6))] [] ε μ := fun q1 q2 q3 q4 => by
    have no : ¬ (v6 = 0 ∧ bes u v j (i + 1)) → G cd_X6_meet Q Y 115 [] [] ε μ := fun q5 => z115 (fun z => z.elim q1 (fun z => z.elim q2 (fun z => z.elim q3 (fun z => z.elim q4 q5))))
    apply g_X6_meet_95
    rw [wi]
    refine fun _ _ _ _ => ⟨fun y => no (fun z => y z.1), fun y => sp_X6_isBeside H j0 j1 (by omega) (fun q => ?_) (fun q => ?_)⟩
    · apply g_X6_meet_108
      exact fun _ _ => ⟨fun x => absurd x (by decide), fun _ => z111 (Or.inr (Or.inr (Or.inr (Or.inr ⟨y, q⟩))))⟩
    · apply g_X6_meet_108
      exact fun _ _ => ⟨fun _ => no (fun z => q z.2), fun x => absurd rfl x⟩
  have z81 : ¬ (v3 * v4 < 0 ∧ v5 * v6 < 0) → ¬ (v3 = 0 ∧ bes u v i j) → ¬ (v4 = 0 ∧ bes u v i (j + 1)) → G cd_X6_meet Q Y 81 [(0, (2, p)), (1, (0, i)), (2, (0, j)), (5, (0, v5)), (6, (0, v6))] [] ε μ := fun q1 q2 q3 => by
    apply g_X6_meet_81
    refine fun _ _ _ _ _ => ⟨fun y => z95 q1 q2 q3 (fun z => y z.1), fun y => sp_X6_isBeside H j0 j1 i0 (fun q => ?_) (fun q => ?_)⟩
    · apply g_X6_meet_92
      exact fun _ _ _ _ _ => ⟨fun _ => z111 (Or.inr (Or.inr (Or.inr (Or.inl ⟨y, q⟩)))), fun x => absurd x (by decide)⟩
    · apply g_X6_meet_92
      exact fun _ _ _ _ _ => ⟨fun x => absurd rfl x, fun _ => z95 q1 q2 q3 (fun z => q z.2)⟩
  have z65 : ¬ (v3 * v4 < 0 ∧ v5 * v6 < 0) → ¬ (v3 = 0 ∧ bes u v i j) → G cd_X6_meet Q Y 65 [(0, (2, p)), (1, (0, i)), (2, (0, j)), (4, (0, v4)), (5, (0, v5)), (6, (0, v6))] [] ε μ := fun q1 q2 => by
    apply g_X6_meet_65
    rw [wj]
    refine fun _ _ _ _ _ _ => ⟨fun y => z81 q1 q2 (fun z => y z.1), fun y => sp_X6_isBeside H i0 i1 (by omega) (fun q => ?_) (fun q => ?_)⟩
    · apply g_X6_meet_78
      exact fun _ _ _ _ _ _ => ⟨fun _ => z111 (Or.inr (Or.inr (Or.inl ⟨y, q⟩))), fun x => absurd x (by decide)⟩
    · apply g_X6_meet_78
      exact fun _ _ _ _ _ _ => ⟨fun x => absurd rfl x, fun _ => z81 q1 q2 (fun z => q z.2)⟩
  have z52 : ¬ (v3 * v4 < 0 ∧ v5 * v6 < 0) → G cd_X6_meet Q Y 52 [(0, (2, p)), (1, (0, i)), (2, (0, j)), (3, (0, v3)), (4, (0, v4)), (5, (0, v5)), (6, (0, v6))] [] ε μ := fun q1 => by
    apply g_X6_meet_52
    refine fun _ _ _ _ _ _ _ => ⟨fun y => z65 q1 (fun z => y z.1), fun y => sp_X6_isBeside H i0 i1 j0 (fun q => ?_) (fun q => ?_)⟩
    · apply g_X6_meet_62
      exact fun _ _ _ _ _ _ _ => ⟨fun _ => z111 (Or.inr (Or.inl ⟨y, q⟩)), fun x => absurd x (by decide)⟩
    · apply g_X6_meet_62
      exact fun _ _ _ _ _ _ _ => ⟨fun x => absurd rfl x, fun _ => z65 q1 (fun z => q z.2)⟩
  exact ⟨fun y => z52 (fun z => Int.not_lt.mpr y z.1), fun y => ⟨fun y' => z52 (fun z => Int.not_lt.mpr y' z.2), fun y' => h1 (Or.inl ⟨y, y'⟩)⟩⟩
