/-! ===== Verdict: what is kept of a line; Corner.report ===== -/
def FR (C V w : Int) (μ μ' : m_M) : Prop := ∀ b j, ¬ (C + 3 ≤ b ∧ b ≤ C + 4) → ¬ (b = V ∧ (j = 8 ∨ j = 9)) → ¬ ((b = V + 1 ∨ b = V + 2) ∧ 3 * w ≤ j ∧ j ≤ 3 * w + 2) → ¬ ((b = V + 3 ∨ b = V + 5) ∧ j = w) → ¬ (b = V + 4 ∧ 48 * w ≤ j ∧ j < 48 * w + 48) → μ' b j = μ b j
theorem FR.rf {C V w : Int} {μ : m_M} : FR C V w μ μ := fun _ _ _ _ _ _ _ => rfl
theorem FR.trans {C V w : Int} {μ μ' μ'' : m_M} (h : FR C V w μ μ') (k : FR C V w μ' μ'') : FR C V w μ μ'' := fun b j h1 h2 h3 h4 h5 => (k b j h1 h2 h3 h4 h5).trans (h b j h1 h2 h3 h4 h5)
theorem FR.of2 {C V w : Int} {μ μ' : m_M} (h : Ex2 (C + 3) (C + 4) μ μ') : FR C V w μ μ' := fun b j h1 _ _ _ _ => h b j (by omega) (by omega)
theorem FR.of1 {C V w : Int} {μ μ' : m_M} (h : Exc (C + 4) μ μ') : FR C V w μ μ' := fun b j h1 _ _ _ _ => h b j (by omega)
theorem sp_X8_beginLine {Q X : m_Po} {ε : m_E} {μ : m_M} {C V w x : Int} (L : LV ε V) (hw : w = 0 ∨ w = 1)
    (hh : ∀ μ', FR C V w μ μ' → μ' V 8 = 0 → μ' V 9 = 1 → μ' (V + 3) w = x → μ' (V + 5) w = 0 → Q 0 ε μ') : o_X8_beginLine [(2, V), (0, w), (1, x)] ε μ Q X := by
  have w0 : 0 ≤ w := by omega
  have w1 : w < 2 := by omega
  have go : G cd_X8_beginLine Q X 10 [(0, (2, V)), (1, (0, w)), (2, (1, x))] [] ε μ := by
    apply g_X8_beginLine_10
    simp only [L.k, L.f2.1, L.f2.2.1, L.f2.2.2, L.f4.1, L.f4.2.1, L.f4.2.2, forall_eq, eq_self, true_and, w0, w1]
    intro _ _ _
    refine hh _ (fun b j h1 h2 h3 h4 h5 => ?_) ?_ ?_ ?_ ?_
    · unfold st
      rw [if_neg (by omega), if_neg (by omega), if_neg (by omega), if_neg (by omega)]
    · rw [sx_oa (by omega), sx_oa (by omega), sx_same]
    · rw [sx_oa (by omega), sx_oa (by omega), sx_oi (by decide), sx_same]
    · rw [sx_oa (by omega), sx_same]
    · rw [sx_same]
  apply e_X8_beginLine
  exact fun _ _ _ => ⟨fun _ => go, fun _ => ⟨fun _ => go, fun z => by omega⟩⟩
theorem sp_X8_keepNumber {Q X : m_Po} {ε : m_E} {μ : m_M} {V a k : Int} (L : LV ε V) (hk : kd ε a = 8) (ha : a ≠ V + 1) (k0 : 0 ≤ k) (k6 : k < 6)
    (hh : ∀ μ', (∀ b j, ¬ ((b = V + 1 ∨ b = V + 2) ∧ j = k) → μ' b j = μ b j) → μ' (V + 1) k = μ a 0 → μ' (V + 2) k = μ a 1 → Q 0 ε μ') : o_X8_keepNumber [(2, V), (0, k), (2, a)] ε μ Q X := by
  have kn : ¬ k < 0 := by omega
  have k6' : ¬ 6 ≤ k := by omega
  apply e_X8_keepNumber
  simp only [L.k, L.f0.1, L.f0.2.1, L.f0.2.2, L.f1.1, L.f1.2.1, L.f1.2.2, hk, forall_eq, eq_self, true_and, k0, k6, kn, k6', false_implies, true_implies, st, ha, false_and, if_false]
  intro _ _
  refine hh _ (fun b j h1 => ?_) ?_ ?_
  · unfold st
    rw [if_neg (by omega), if_neg (by omega)]
  · rw [sx_oa (by omega), sx_same]
  · rw [sx_same]
theorem kt_w {w n : Int} (hw : w = 0 ∨ w = 1) (n0 : 0 ≤ n) (n1 : n < 48) : w32 (w32 (w * 48) + n) = 48 * w + n := by
  rcases hw with rfl | rfl
  · rw [show w32 (0 * 48) = 0 by decide, w32_id (by unfold i32; omega)]; omega
  · rw [show w32 (1 * 48) = 48 by decide, w32_id (by unfold i32; omega)]; omega
theorem sp_X8_keepTouched {Q X : m_Po} {ε : m_E} {μ : m_M} {C V w c n : Int} (L : LV ε V) (hw : w = 0 ∨ w = 1) (hn : μ (V + 5) w = n) (n0 : 0 ≤ n) (n1 : n < 48)
    (hh : ∀ μ', FR C V w μ μ' → (∀ b j, b ≠ V + 4 → b ≠ V + 5 → μ' b j = μ b j) → μ' (V + 5) w = n + 1 → (∀ j, μ' (V + 4) j = if j = 48 * w + n then c else μ (V + 4) j) → Q 0 ε μ') : o_X8_keepTouched [(2, V), (0, w), (0, c)] ε μ Q X := by
  have w0 : 0 ≤ w := by omega
  have w1 : w < 2 := by omega
  have i0 : 0 ≤ 48 * w + n := by omega
  have i1 : 48 * w + n < 96 := by omega
  have nn : ¬ n < 0 := by omega
  have nn2 : ¬ 48 ≤ n := by omega
  have e1 := kt_w hw n0 n1
  have e2 : w32 (n + 1) = n + 1 := w32_id (by unfold i32; omega)
  have go : G cd_X8_keepTouched Q X 10 [(0, (2, V)), (1, (0, w)), (2, (0, c))] [] ε μ := by
    apply g_X8_keepTouched_10
    simp only [L.k, L.f3.1, L.f3.2.1, L.f3.2.2, L.f4.1, L.f4.2.1, L.f4.2.2, forall_eq, eq_self, true_and, w0, w1, hn, n0, n1, nn, nn2, false_implies, true_implies, e1, e2, i0, i1]
    clear e1 e2
    intro _ _ _
    refine hh _ (fun b j h1 h2 h3 h4 h5 => ?_) (fun b j h1 h2 => by rw [sx_oa h2, sx_oa h1]) ?_ (fun j => ?_)
    · unfold st
      rw [if_neg (by omega), if_neg (by omega)]
    · rw [sx_same]
    · rw [sx_oa (by omega)]
      unfold st
      by_cases q : j = 48 * w + n
      · rw [if_pos ⟨rfl, q⟩, if_pos q]
      · rw [if_neg (fun z => q z.2), if_neg q]
  apply e_X8_keepTouched
  clear e1 e2
  exact fun _ _ _ => ⟨fun _ => go, fun _ => ⟨fun _ => go, fun z => by omega⟩⟩
theorem sp_X1_codeAt {Q X : m_Po} {ε : m_E} {μ : m_M} {B i n c : Int} (L : LB ε B) (hn : μ B 5 = n) (i0 : 0 ≤ i) (i1 : i < n) (n48 : n ≤ 48) (hc : μ (B + 5) i = c) (h : Q c ε μ) : o_X1_codeAt [(2, B), (0, i)] ε μ Q X := by
  have a1 : ¬ i < 0 := by omega
  have a2 : ¬ n ≤ i := by omega
  have a3 : ¬ 48 ≤ i := by omega
  have a4 : i < 48 := by omega
  apply e_X1_codeAt
  simp only [L.k, L.f4.1, L.f4.2.1, L.f4.2.2, forall_eq, eq_self, true_and, hn, i0, i1, a1, a2, a3, a4, if_false, hc, implies_true]
  exact fun _ _ => h
theorem rp_e {t w : Int} (ht : t = 0 ∨ t = 1 ∨ t = 2) (hw : w = 0 ∨ w = 1) : w32 (w32 (3 * 0) + t) = t ∧ w32 (w32 (3 * 1) + t) = 3 + t ∧ w32 (w32 (3 * 2) + t) = 6 + t ∧ w32 (w32 (3 * w) + t) = 3 * w + t := by
  rcases ht with rfl | rfl | rfl <;> rcases hw with rfl | rfl <;> decide
theorem rp_num {Q X : m_Po} {ε : m_E} {μ : m_M} {C B V n w t x0 x1 x2 i j k : Int} {c : Int → Int} (L : LC ε C) (LB' : LB ε B) (L' : LV ε V) (hC : C = B + 6) (hV : V = C + 10) (n48 : n ≤ 48) (ht : t = 0 ∨ t = 1 ∨ t = 2) (hw : w = 0 ∨ w = 1) (hi : 0 ≤ i ∧ i < n) (hj : 0 ≤ j ∧ j < n) (hk : 0 ≤ k ∧ k < n)
    (e0 : μ (C + 1) 0 = i) (e1 : μ (C + 1) 1 = j) (e2 : μ (C + 1) 2 = k) (E0 : μ (C + 2) t = x0) (E1 : μ (C + 2) (3 + t) = x1) (E2 : μ (C + 2) (6 + t) = x2) (hc : ∀ q, μ (B + 4) q = c q) (b0 : bd x0 41) (b1 : bd x1 41) (b2 : bd x2 41) (c0 : bd (c i) 44) (c1 : bd (c j) 44) (c2 : bd (c k) 44)
    (nxt : ∀ μ', FR C V w μ μ' → (∀ b y, b ≠ C + 4 → ¬ ((b = V + 1 ∨ b = V + 2) ∧ y = 3 * w + t) → μ' b y = μ b y) → W2 (μ' (V + 1) (3 * w + t)) (μ' (V + 2) (3 * w + t)) = -x0 * c i + -x1 * c j + -x2 * c k → G cd_X2_report Q X 12 [(0, (2, C)), (1, (2, B)), (2, (2, V)), (3, (0, w)), (4, (0, t + 1))] [] ε μ') :
    G cd_X2_report Q X 12 [(0, (2, C)), (1, (2, B)), (2, (2, V)), (3, (0, w)), (4, (0, t))] [] ε μ := by
  obtain ⟨a0, a1, a2, a3⟩ := rp_e ht hw
  have t3 : t < 3 := by omega
  have tN : ¬ 3 ≤ t := by omega
  have q1 : 0 ≤ t ∧ t < 9 := by omega
  have q2 : 0 ≤ 3 + t ∧ 3 + t < 9 := by omega
  have q3 : 0 ≤ 6 + t ∧ 6 + t < 9 := by omega
  have q4 : 0 ≤ 3 * w + t ∧ 3 * w + t < 6 := by omega
  have wt : w32 (t + 1) = t + 1 := w32_id (by unfold i32; clear a0 a1 a2 a3; omega)
  have n0 : w64 (-x0) = -x0 := w64_bd (bd_mono (bd_neg b0) (by decide))
  have n1 : w64 (-x1) = -x1 := w64_bd (bd_mono (bd_neg b1) (by decide))
  have n2 : w64 (-x2) = -x2 := w64_bd (bd_mono (bd_neg b2) (by decide))
  have i48 : i < 48 := by clear a0 a1 a2 a3 wt; omega
  have j48 : j < 48 := by clear a0 a1 a2 a3 wt; omega
  have k48 : k < 48 := by clear a0 a1 a2 a3 wt; omega
  have C4 : ∀ o : Int, o ≠ 4 → C + o ≠ C + 4 := fun o ho => by clear a0 a1 a2 a3 wt; omega
  have B4 : B + 4 ≠ C + 4 := by clear a0 a1 a2 a3 wt; omega
  have cv : C + 4 ≠ V + 1 := by clear a0 a1 a2 a3 wt; omega
  apply g_X2_report_12
  rw [L.f3.1]
  refine fun _ _ _ => ⟨fun z => absurd z tN, fun _ => ⟨L.k, L.f3.2.1, sp_X9_clear L.f3.2.1 (fun μ1 f1 z0 z1 => ?_)⟩⟩
  apply g_X2_report_25
  refine fun _ _ _ v5 e5 => ?_
  rw [e5]
  apply g_X2_report_28
  rw [L.f0.1, L.f1.1, L.f3.1, LB'.f3.1, a0, f1 _ _ (C4 1 (by decide)), f1 _ _ (C4 2 (by decide)), f1 _ _ B4, e0, E0, hc, n0]
  refine fun _ _ _ _ => ⟨fun z => absurd z (by decide), fun _ => ⟨L.k, L.f1.2.1, q1.1, by rw [L.f1.2.2]; exact q1.2, LB'.k, L.f0.2.1, by decide, by rw [L.f0.2.2]; decide, LB'.f3.2.1, hi.1, by rw [LB'.f3.2.2]; exact i48, L.f3.2.1, sp_X9_addProduct L.f3.2.1 (fun μ2 f2 w2 => ?_)⟩⟩
  rw [z0, z1, show W2 0 0 = 0 by decide] at w2
  have F2 := f1.trans f2
  apply g_X2_report_66
  refine fun _ _ _ _ v5 e5 => ?_
  rw [e5, show w32 (0 + 1) = 1 by decide]
  apply g_X2_report_28
  rw [L.f0.1, L.f1.1, L.f3.1, LB'.f3.1, a1, F2 _ _ (C4 1 (by decide)), F2 _ _ (C4 2 (by decide)), F2 _ _ B4, e1, E1, hc, n1]
  refine fun _ _ _ _ => ⟨fun z => absurd z (by decide), fun _ => ⟨L.k, L.f1.2.1, q2.1, by rw [L.f1.2.2]; exact q2.2, LB'.k, L.f0.2.1, by decide, by rw [L.f0.2.2]; decide, LB'.f3.2.1, hj.1, by rw [LB'.f3.2.2]; exact j48, L.f3.2.1, sp_X9_addProduct L.f3.2.1 (fun μ3 f3 w3 => ?_)⟩⟩
  rw [w2, w128_add] at w3
  have F3 := F2.trans f3
  apply g_X2_report_66
  refine fun _ _ _ _ v5 e5 => ?_
  rw [e5, show w32 (1 + 1) = 2 by decide]
  apply g_X2_report_28
  rw [L.f0.1, L.f1.1, L.f3.1, LB'.f3.1, a2, F3 _ _ (C4 1 (by decide)), F3 _ _ (C4 2 (by decide)), F3 _ _ B4, e2, E2, hc, n2]
  refine fun _ _ _ _ => ⟨fun z => absurd z (by decide), fun _ => ⟨L.k, L.f1.2.1, q3.1, by rw [L.f1.2.2]; exact q3.2, LB'.k, L.f0.2.1, by decide, by rw [L.f0.2.2]; decide, LB'.f3.2.1, hk.1, by rw [LB'.f3.2.2]; exact k48, L.f3.2.1, sp_X9_addProduct L.f3.2.1 (fun μ4 f4 w4 => ?_)⟩⟩
  rw [w3, w128_add, Int.zero_add, w128_bd (bd_mono (bd_add (bd_add (bd_mul (bd_neg b0) c0) (bd_mul (bd_neg b1) c1)) (bd_mono (bd_mul (bd_neg b2) c2) (by decide))) (by decide))] at w4
  have F4 := F3.trans f4
  apply g_X2_report_66
  refine fun _ _ _ _ v5 e5 => ?_
  rw [e5, show w32 (2 + 1) = 3 by decide]
  apply g_X2_report_28
  rw [L.f3.1, a3]
  refine fun _ _ _ _ => ⟨fun _ => ⟨L.k, L'.k, sp_X8_keepNumber L' L.f3.2.1 cv q4.1 q4.2 (fun μ5 f5 u0 u1 => ?_)⟩, fun z => absurd z (by decide)⟩
  apply g_X2_report_86
  refine fun _ _ _ v4 e4 => ?_
  rw [e4, wt]
  clear a0 a1 a2 a3 wt e4
  refine nxt μ5 (fun b y h1 h2 h3 h4 h5 => ?_) (fun b y h1 h2 => ?_) (by rw [u0, u1]; exact w4)
  · rw [f5 b y (by omega)]; exact F4 b y (by omega)
  · rw [f5 b y h2]; exact F4 b y h1
