set_option maxHeartbeats 2000000
/-! ===== pair of calls: place ===== -/
/-- a row from which some are taken out, up to i -/
def CP (g : Int → Bool) (code : Int → Int) (i n : Nat) (arr : Int → Int) (off : Int) : Prop := (∀ j : Nat, j < i → g j = true → arr (off + ct g j) = code j) ∧ ∀ j : Nat, i ≤ j → j < n → arr (off + j) = code j
theorem CP.skip {g : Int → Bool} {code arr : Int → Int} {i n : Nat} {off : Int} (H : CP g code i n arr off) (hg : g i = false) : CP g code (i + 1) n arr off := by
  refine ⟨fun j hj hgj => ?_, fun j hj hn => H.2 j (by omega) hn⟩
  by_cases z : j = i
  · subst z; rw [hg] at hgj; cases hgj
  · exact H.1 j (by omega) hgj
theorem CP.put {g : Int → Bool} {code arr arr' : Int → Int} {i n : Nat} {off : Int} (H : CP g code i n arr off) (hg : g i = true) (hi : i < n) (e : ∀ j, arr' j = if j = off + ct g i then code i else arr j) : CP g code (i + 1) n arr' off := by
  refine ⟨fun j hj hgj => ?_, fun j hj hn => ?_⟩
  · rw [e]
    by_cases z : j = i
    · subst z; rw [if_pos rfl]
    · have := ct_lt (g := g) (show j < i by omega) hgj
      rw [if_neg (by omega)]
      exact H.1 j (by omega) hgj
  · rw [e]
    have := ct_le g i
    rw [if_neg (by omega)]
    exact H.2 j (by omega) hn
theorem CP.tl {g : Int → Bool} {code arr : Int → Int} {n : Nat} {off : Int} (H : CP g code n n arr off) : TL g code n arr off := H.1
theorem em_12 {Q Y : m_Po} {ε : m_E} {A p m : Int} {n : Nat} {g : Int → Bool} {k3 k4 k5 : Int → Int} (L : LA ε A m) (n6 : n ≤ 6) (hg : ∀ j, g j = decide (k3 j ≠ p)) : ∀ d i : Nat, i + d = n → ∀ μ1 : m_M, μ1 A 13 = n → CP g k3 i n (μ1 (A + 3)) 0 → CP g k4 i n (μ1 (A + 4)) 0 → CP g k5 i n (μ1 (A + 5)) 0 → (∀ μ2 : m_M, (∀ b j, b ≠ A + 3 → b ≠ A + 4 → b ≠ A + 5 → ¬ (b = A ∧ j = 13) → μ2 b j = μ1 b j) → μ2 A 13 = ct g n → TL g k3 n (μ2 (A + 3)) 0 → TL g k4 n (μ2 (A + 4)) 0 → TL g k5 n (μ2 (A + 5)) 0 → Q 0 ε μ2) → G cd_X0_empty Q Y 12 [(0, (2, A)), (1, (0, p)), (3, (0, ct g i)), (4, (0, i))] [] ε μ1 := by
  intro d
  induction d with
  | zero =>
    intro i hi μ1 e13 c3 c4 c5 K
    have : i = n := by omega
    subst this
    have key : ∀ μ2, μ2 = st μ1 A 13 (ct g i) → Q 0 ε μ2 := fun μ2 m2 => by
      have e : ∀ d, d ≠ 0 → μ2 (A + d) = μ1 (A + d) := fun d hd => by funext j; rw [m2]; exact sx_oa (by omega)
      refine K μ2 (fun b j _ _ _ h => by rw [m2, st, if_neg h]) (by rw [m2, sx_same]) ?_ ?_ ?_
      · rw [e 3 (by decide)]; exact c3.tl
      · rw [e 4 (by decide)]; exact c4.tl
      · rw [e 5 (by decide)]; exact c5.tl
    apply g_X0_empty_12
    exact fun _ _ _ _ => ⟨L.k, fun _ μ2 m2 => key μ2 m2, fun q => absurd q (by omega)⟩
  | succ d ih =>
    intro i hi μ1 e13 c3 c4 c5 K
    have cl := ct_le g i
    have x3 := c3.2 i (Nat.le_refl i) (by omega)
    have x4 := c4.2 i (Nat.le_refl i) (by omega)
    have x5 := c5.2 i (Nat.le_refl i) (by omega)
    rw [Int.zero_add] at x3 x4 x5
    have nxt : ∀ (μ2 : m_M) (k : Int), k = ct g (i + 1) → (∀ b j, b ≠ A + 3 → b ≠ A + 4 → b ≠ A + 5 → ¬ (b = A ∧ j = 13) → μ2 b j = μ1 b j) → μ2 A 13 = n → CP g k3 (i + 1) n (μ2 (A + 3)) 0 → CP g k4 (i + 1) n (μ2 (A + 4)) 0 → CP g k5 (i + 1) n (μ2 (A + 5)) 0 → G cd_X0_empty Q Y 81 [(0, (2, A)), (1, (0, p)), (3, (0, k)), (4, (0, i))] [] ε μ2 := fun μ2 k hk f2 e2 y3 y4 y5 => by
      apply g_X0_empty_81
      intro _ _ _ _ v h
      rw [w32_id (show i32 ((i : Int) + 1) by unfold i32; omega)] at h
      rw [hk, show v = ((i + 1 : Nat) : Int) by omega]
      exact ih (i + 1) (by omega) μ2 e2 y3 y4 y5 (fun μ3 f3 => K μ3 (fun b j h1 h2 h3 h4 => (f3 b j h1 h2 h3 h4).trans (f2 b j h1 h2 h3 h4)))
    apply g_X0_empty_12
    rw [L.f5.1, L.f6.1, L.f7.1]
    refine fun _ _ _ _ => ⟨L.k, fun q => absurd q (by omega), fun _ => ⟨fun q => absurd q (by omega), fun _ => ⟨L.f5.2.1, by omega, by rw [L.f5.2.2]; omega, fun q => ?_, fun q => ⟨by omega, by rw [L.f5.2.2]; omega, fun μ2 m2 => ⟨L.f6.2.1, by rw [L.f6.2.2]; omega, by rw [L.f6.2.2]; omega, fun μ3 m3 => ⟨L.f7.2.1, by rw [L.f7.2.2]; omega, by rw [L.f7.2.2]; omega, fun μ4 m4 v3 h3 => ?_⟩⟩⟩⟩⟩⟩
    · have g0 : g i = false := by rw [hg, ← x3]; exact decide_eq_false (fun z => z q)
      exact nxt μ1 _ (by rw [ct_at, g0]; rfl) (fun _ _ _ _ _ _ => rfl) e13 (c3.skip g0) (c4.skip g0) (c5.skip g0)
    · have g1 : g i = true := by rw [hg, ← x3]; exact decide_eq_true q
      have y4 : μ2 (A + 4) (i : Int) = k4 i := by rw [m2, sx_oa (by omega)]; exact x4
      have y5 : μ3 (A + 5) (i : Int) = k5 i := by rw [m3, sx_oa (by omega), m2, sx_oa (by omega)]; exact x5
      rw [x3] at m2
      rw [y4] at m3
      rw [y5] at m4
      rw [w32_id (show i32 ((ct g i : Int) + 1) by unfold i32; omega)] at h3
      refine nxt μ4 v3 (by rw [h3, ct_at, g1, if_pos rfl]; omega) (fun b j h1 h2 h3 _ => ?_) ?_ (c3.put g1 (by omega) (fun j => ?_)) (c4.put g1 (by omega) (fun j => ?_)) (c5.put g1 (by omega) (fun j => ?_))
      · rw [m4, sx_oa h3, m3, sx_oa h2, m2, sx_oa h1]
      · rw [m4, sx_oa (by omega), m3, sx_oa (by omega), m2, sx_oa (by omega)]; exact e13
      · rw [m4, sx_oa (by omega), m3, sx_oa (by omega), m2, Int.zero_add]
        unfold st
        by_cases z : j = (ct g i : Int)
        · rw [if_pos ⟨rfl, z⟩, if_pos z]
        · rw [if_neg (fun y => z y.2), if_neg z]
      · rw [m4, sx_oa (by omega), m3, Int.zero_add]
        unfold st
        by_cases z : j = (ct g i : Int)
        · rw [if_pos ⟨rfl, z⟩, if_pos z]
        · rw [if_neg (fun y => z y.2), if_neg z, m2, sx_oa (by omega)]
      · rw [m4, Int.zero_add]
        unfold st
        by_cases z : j = (ct g i : Int)
        · rw [if_pos ⟨rfl, z⟩, if_pos z]
        · rw [if_neg (fun y => z y.2), if_neg z, m3, sx_oa (by omega), m2, sx_oa (by omega)]
theorem pl_72 {Q Y : m_Po} {ε : m_E} {M a p : Int} {n : Nat} {g : Int → Bool} {k3 k4 k5 : Int → Int} (L : LM ε M) (a0 : 0 ≤ a) (a1 : a < 12) (n6 : n ≤ 6) (hg : ∀ j, g j = decide (k3 j ≠ p)) : ∀ d i : Nat, i + d = n → ∀ μ1 : m_M, μ1 (M + 19) a = n → CP g k3 i n (μ1 (M + 20)) (6 * a) → CP g k4 i n (μ1 (M + 21)) (6 * a) → CP g k5 i n (μ1 (M + 22)) (6 * a) → (∀ μ2 : m_M, (∀ b j, ¬ ((b = M + 20 ∨ b = M + 21 ∨ b = M + 22) ∧ 6 * a ≤ j ∧ j < 6 * a + 6) → ¬ (b = M + 19 ∧ j = a) → μ2 b j = μ1 b j) → μ2 (M + 19) a = ct g n → TL g k3 n (μ2 (M + 20)) (6 * a) → TL g k4 n (μ2 (M + 21)) (6 * a) → TL g k5 n (μ2 (M + 22)) (6 * a) → Q 0 ε μ2) → G cd_X12_place Q Y 72 [(0, (2, M)), (1, (0, a)), (2, (0, p)), (4, (0, ct g i)), (5, (0, 6 * a + i))] [] ε μ1 := by
  intro d
  induction d with
  | zero =>
    intro i hi μ1 e13 c3 c4 c5 K
    have : i = n := by omega
    subst this
    have key : ∀ μ2, μ2 = st μ1 (M + 19) a (ct g i) → Q 0 ε μ2 := fun μ2 m2 => by
      have e : ∀ d, d ≠ 19 → μ2 (M + d) = μ1 (M + d) := fun d hd => by funext j; rw [m2]; exact sx_oa (by omega)
      refine K μ2 (fun b j _ h => by rw [m2, st, if_neg h]) (by rw [m2, sx_same]) ?_ ?_ ?_
      · rw [e 20 (by decide)]; exact c3.tl
      · rw [e 21 (by decide)]; exact c4.tl
      · rw [e 22 (by decide)]; exact c5.tl
    apply g_X12_place_72
    rw [L.f21.1, e13, w32_id (show i32 (6 * a) by unfold i32; omega), w32_id (show i32 (6 * a + i) by unfold i32; omega)]
    exact fun _ _ _ _ _ => ⟨L.k, L.f21.2.1, a0, by rw [L.f21.2.2]; exact a1, fun _ μ2 m2 => key μ2 m2, fun q => absurd q (by omega)⟩
  | succ d ih =>
    intro i hi μ1 e13 c3 c4 c5 K
    have cl := ct_le g i
    have x3 := c3.2 i (Nat.le_refl i) (by omega)
    have x4 := c4.2 i (Nat.le_refl i) (by omega)
    have x5 := c5.2 i (Nat.le_refl i) (by omega)
    have nxt : ∀ (μ2 : m_M) (k : Int), k = ct g (i + 1) → (∀ b j, ¬ ((b = M + 20 ∨ b = M + 21 ∨ b = M + 22) ∧ 6 * a ≤ j ∧ j < 6 * a + 6) → μ2 b j = μ1 b j) → CP g k3 (i + 1) n (μ2 (M + 20)) (6 * a) → CP g k4 (i + 1) n (μ2 (M + 21)) (6 * a) → CP g k5 (i + 1) n (μ2 (M + 22)) (6 * a) → G cd_X12_place Q Y 162 [(0, (2, M)), (1, (0, a)), (2, (0, p)), (4, (0, k)), (5, (0, 6 * a + i))] [] ε μ2 := fun μ2 k hk f2 y3 y4 y5 => by
      apply g_X12_place_162
      intro _ _ _ _ _ v h
      rw [w32_id (show i32 (6 * a + (i : Int) + 1) by unfold i32; omega)] at h
      rw [hk, show v = 6 * a + ((i + 1 : Nat) : Int) by omega]
      exact ih (i + 1) (by omega) μ2 (by rw [f2 _ _ (by omega)]; exact e13) y3 y4 y5 (fun μ3 f3 => K μ3 (fun b j h1 h2 => (f3 b j h1 h2).trans (f2 b j h1)))
    apply g_X12_place_72
    rw [L.f21.1, L.f22.1, L.f23.1, L.f24.1, e13, w32_id (show i32 (6 * a) by unfold i32; omega), w32_id (show i32 (6 * a + n) by unfold i32; omega), w32_id (show i32 (6 * a + (ct g i : Int)) by unfold i32; omega)]
    refine fun _ _ _ _ _ => ⟨L.k, L.f21.2.1, a0, by rw [L.f21.2.2]; exact a1, fun q => absurd q (by omega), fun _ => ⟨L.f22.2.1, by omega, by rw [L.f22.2.2]; omega, fun q => ⟨by omega, by rw [L.f22.2.2]; omega, fun μ2 m2 => ⟨L.f23.2.1, by rw [L.f23.2.2]; omega, by rw [L.f23.2.2]; omega, fun μ3 m3 => ⟨L.k, L.f24.2.1, by omega, by rw [L.f24.2.2]; omega, L.f24.2.1, by omega, by rw [L.f24.2.2]; omega, fun μ4 m4 v3 h3 => ?_⟩⟩⟩, fun q => ?_⟩⟩
    · have g1 : g i = true := by rw [hg, ← x3]; exact decide_eq_true q
      have y4 : μ2 (M + 21) (6 * a + (i : Int)) = k4 i := by rw [m2, sx_oa (by omega)]; exact x4
      have y5 : μ3 (M + 22) (6 * a + (i : Int)) = k5 i := by rw [m3, sx_oa (by omega), m2, sx_oa (by omega)]; exact x5
      rw [x3] at m2
      rw [y4] at m3
      rw [y5] at m4
      rw [w32_id (show i32 ((ct g i : Int) + 1) by unfold i32; omega)] at h3
      refine nxt μ4 v3 (by rw [h3, ct_at, g1, if_pos rfl]; omega) (fun b j h => ?_) (c3.put g1 (by omega) (fun j => ?_)) (c4.put g1 (by omega) (fun j => ?_)) (c5.put g1 (by omega) (fun j => ?_))
      · rw [m4, st, if_neg (fun z => h ⟨Or.inr (Or.inr z.1), by omega, by omega⟩), m3, st, if_neg (fun z => h ⟨Or.inr (Or.inl z.1), by omega, by omega⟩), m2, st, if_neg (fun z => h ⟨Or.inl z.1, by omega, by omega⟩)]
      · rw [m4, sx_oa (by omega), m3, sx_oa (by omega), m2]
        unfold st
        by_cases z : j = 6 * a + (ct g i : Int)
        · rw [if_pos ⟨rfl, z⟩, if_pos z]
        · rw [if_neg (fun y => z y.2), if_neg z]
      · rw [m4, sx_oa (by omega), m3]
        unfold st
        by_cases z : j = 6 * a + (ct g i : Int)
        · rw [if_pos ⟨rfl, z⟩, if_pos z]
        · rw [if_neg (fun y => z y.2), if_neg z, m2, sx_oa (by omega)]
      · rw [m4]
        unfold st
        by_cases z : j = 6 * a + (ct g i : Int)
        · rw [if_pos ⟨rfl, z⟩, if_pos z]
        · rw [if_neg (fun y => z y.2), if_neg z, m3, sx_oa (by omega), m2, sx_oa (by omega)]
    · have g0 : g i = false := by rw [hg, ← x3]; exact decide_eq_false (fun z => z q)
      exact nxt μ1 _ (by rw [ct_at, g0]; rfl) (fun _ _ _ => rfl) (c3.skip g0) (c4.skip g0) (c5.skip g0)
theorem sp_X0_set {Q Y : m_Po} {ε : m_E} {μ : m_M} {A n p s S : Int} (L : LA ε A n) (p0 : 0 ≤ p) (p1 : p < n) (hS : S = 0 ∨ kd ε S = 6) (hh : ∀ μ' : m_M, (∀ b j, ¬ ((b = A + 6 ∨ b = A + 7) ∧ j = p) → ¬ (b = A ∧ (j = 16 ∨ j = 17)) → μ' b j = μ b j) → μ' (A + 6) p = s → μ' (A + 7) p = S → μ' A 16 = 0 → μ' A 17 = 0 → Q 0 ε μ') : o_X0_set [(2, A), (0, p), (0, s), (2, S)] ε μ Q Y := by
  apply e_X0_set
  refine fun _ _ _ => ⟨L.k, sp_X0_hasPlace L (fun _ _ => ?_) (fun y => by omega)⟩
  apply g_X0_set_5
  rw [L.f1.1, L.f2.1]
  refine fun _ _ _ _ => ⟨fun z => absurd z (by decide), fun _ => ⟨L.k, L.f1.2.1, p0, by rw [L.f1.2.2]; exact p1, fun μ1 m1 => ⟨L.f2.2.1, by rw [L.f2.2.2]; exact p1, hS, fun μ2 m2 => ?_⟩⟩⟩
  apply e_X0_forgetFindings
  refine fun _ => ⟨L.k, fun μ3 m3 μ4 m4 => ?_⟩
  apply g_X0_set_26
  refine fun _ => hh μ4 (fun b j h h' => ?_) ?_ ?_ ?_ ?_
  · rw [m4, st, if_neg (fun z => h' ⟨z.1, Or.inr z.2⟩), m3, st, if_neg (fun z => h' ⟨z.1, Or.inl z.2⟩), m2, st, if_neg (fun z => h ⟨Or.inr z.1, z.2⟩), m1, st, if_neg (fun z => h ⟨Or.inl z.1, z.2⟩)]
  · rw [m4, sx_oa (by omega), m3, sx_oa (by omega), m2, sx_oa (by omega), m1, sx_same]
  · rw [m4, sx_oa (by omega), m3, sx_oa (by omega), m2, sx_same]
  · rw [m4, sx_oi (by decide), m3, sx_same]
  · rw [m4, sx_same]
theorem sp_X10_stoneAt {Q Y : m_Po} {ε : m_E} {μ σ : m_M} {X s : Int} {ow : Int → Int} (S : SL ε X) (C : CSt ε μ X ow σ) (h1 : s < 0 ∨ σ 0 14 ≤ s → ∀ z : Int, nx ε ≤ z → Y 1 (enx ε z) μ) (h0 : 0 ≤ s → s < σ 0 14 → Q (μ (X + 2) s) ε μ) : o_X10_stoneAt [(2, X), (0, s)] ε μ Q Y := by
  obtain ⟨c1, c2, c3, c4⟩ := C
  apply e_X10_stoneAt
  rw [S.1.f1.1, S.1.f1.2.2, c1]
  intro T _
  refine ⟨fun q => h1 (Or.inl q), fun q => ⟨S.1.k, fun r => h1 (Or.inr r), fun r => ⟨S.1.f1.2.1, fun _ => ⟨q, by omega, fun v2 h2 => ?_⟩, fun u => by omega⟩⟩⟩
  have pos := (c4 s q r).1
  exact ⟨fun u => by omega, fun _ => by rw [h2]; exact h0 q r⟩
