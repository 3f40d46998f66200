/-! ===== Corner: all edges ===== -/
def ED (f h v m : Int → Int) (i j k s : Int) : Prop := f 0 = s * crH v m j k ∧ f 1 = s * crV h m j k ∧ f 2 = s * crM h v j k ∧ f 3 = s * crH v m k i ∧ f 4 = s * crV h m k i ∧ f 5 = s * crM h v k i ∧ f 6 = s * crH v m i j ∧ f 7 = s * crV h m i j ∧ f 8 = s * crM h v i j
/-- the corner's state: base, edges, volume -/
def CS (μ : m_M) (C : Int) (h v m : Int → Int) (i j k s : Int) : Prop := (μ (C + 1) 0 = i ∧ μ (C + 1) 1 = j ∧ μ (C + 1) 2 = k) ∧ ED (μ (C + 2)) h v m i j k s ∧ μ C 4 = s * dt3 h v m i j k ∧ (s = 1 ∨ s = -1) ∧ 0 ≤ s * dt3 h v m i j k
def FC (C : Int) (μ μ' : m_M) : Prop := ∀ b j, b ≠ C + 2 → ¬ (b = C ∧ j = 4) → μ' b j = μ b j
theorem FC.rf {C : Int} {μ : m_M} : FC C μ μ := fun _ _ _ _ => rfl
theorem FC.trans {C : Int} {μ μ' μ'' : m_M} (h : FC C μ μ') (k : FC C μ' μ'') : FC C μ μ'' := fun b j h1 h2 => (k b j h1 h2).trans (h b j h1 h2)
theorem FC.of {C : Int} {μ μ' : m_M} (h : Exc (C + 2) μ μ') : FC C μ μ' := fun b j h1 _ => h b j h1
theorem fe_neg {Q X : m_Po} {ε : m_E} {C : Int} (L : LC ε C) {g : Int → Int} (hg : ∀ x, 0 ≤ x → x < 9 → bd (g x) 62) {μ0 : m_M} (hh : ∀ μ', Exc (C + 2) μ0 μ' → (∀ x, 0 ≤ x → x < 9 → μ' (C + 2) x = -(g x)) → Q 0 ε μ') :
    ∀ (d : Nat) (t : Int) (μ : m_M), t + d = 9 → 0 ≤ t → Exc (C + 2) μ0 μ → (∀ x, 0 ≤ x → x < t → μ (C + 2) x = -(g x)) → (∀ x, t ≤ x → x < 9 → μ (C + 2) x = g x) → G cd_X2_findEdges Q X 126 [(0, (2, C)), (3, (0, t))] [] ε μ := by
  intro d
  induction d with
  | zero =>
    intro t μ hd t0 f h1 h2
    have t9 : t = 9 := by omega
    subst t9
    apply g_X2_findEdges_126
    exact fun _ _ => ⟨fun _ => hh μ f h1, fun z => absurd z (by decide)⟩
  | succ d ih =>
    intro t μ hd t0 f h1 h2
    have t9 : t < 9 := by omega
    have tN : ¬ 9 ≤ t := by omega
    have hd' : t + 1 + d = 9 := by omega
    have e := h2 t (Int.le_refl t) t9
    have w : w64 (-(g t)) = -(g t) := w64_bd (bd_mono (bd_neg (hg t t0 t9)) (by decide))
    have w1 : w32 (t + 1) = t + 1 := w32_id (by unfold i32; omega)
    apply g_X2_findEdges_126
    simp only [L.k, L.f1.1, L.f1.2.1, L.f1.2.2, forall_eq, eq_self, true_and, t0, t9, e, w, w1]
    clear w w1
    intro _ _
    refine ⟨fun z => absurd z tN, ?_⟩
    intro _
    refine ih (t + 1) _ hd' (by omega) (f.trans Exc.st) ?_ ?_
    · intro x x0 x1
      by_cases q : x = t
      · rw [q, sx_same]
      · rw [sx_oi q]; exact h1 x x0 (by omega)
    · intro x x0 x1
      rw [sx_oi (by omega)]; exact h2 x (by omega) x1
theorem sp_X2_findEdges {Q X : m_Po} {ε : m_E} {μ : m_M} {C B n i j k : Int} {h v m c : Int → Int} (L : LC ε C) (LB' : LB ε B) (hC : C = B + 6) (hn : n ≤ 48) (W : RC μ B n h v m c) (R : RB h v m c n) (hi : 0 ≤ i ∧ i < n) (hj : 0 ≤ j ∧ j < n) (hk : 0 ≤ k ∧ k < n) (e0 : μ (C + 1) 0 = i) (e1 : μ (C + 1) 1 = j) (e2 : μ (C + 1) 2 = k)
    (hh : ∀ μ' s, FC C μ μ' → CS μ' C h v m i j k s → Q 0 ε μ') : o_X2_findEdges [(2, C), (2, B)] ε μ Q X := by
  apply e_X2_findEdges
  simp only [L.k, L.f0.1, L.f0.2.1, L.f0.2.2, eq_self, true_and, Int.reduceLT, e0, e1, e2]
  refine fun _ => sp_X2_findEdge L LB' hC hn W R (by decide) hj hk (fun μ1 f1 p0 p1 p2 p3 => ?_)
  have c1 : ∀ t, μ1 (C + 1) t = μ (C + 1) t := fun t => f1 _ t (by omega)
  have W1 : RC μ1 B n h v m c := W.fr (fun b t _ _ => f1 b t (by omega))
  apply g_X2_findEdges_18
  simp only [L.k, L.f0.1, L.f0.2.1, L.f0.2.2, eq_self, true_and, Int.reduceLT, c1, e0, e1, e2]
  refine fun _ => sp_X2_findEdge L LB' hC hn W1 R (by decide) hk hi (fun μ2 f2 q0 q1 q2 q3 => ?_)
  have c2 : ∀ t, μ2 (C + 1) t = μ (C + 1) t := fun t => by rw [f2 _ t (by omega)]; exact c1 t
  have W2' : RC μ2 B n h v m c := W1.fr (fun b t _ _ => f2 b t (by omega))
  apply g_X2_findEdges_36
  simp only [L.k, L.f0.1, L.f0.2.1, L.f0.2.2, eq_self, true_and, Int.reduceLT, c2, e0, e1, e2]
  refine fun _ => sp_X2_findEdge L LB' hC hn W2' R (by decide) hi hj (fun μ3 f3 r0 r1 r2 r3 => ?_)
  have c3 : ∀ t, μ3 (C + 1) t = μ (C + 1) t := fun t => by rw [f3 _ t (by omega)]; exact c2 t
  have W3 : RC μ3 B n h v m c := W2'.fr (fun b t _ _ => f3 b t (by omega))
  have F3 : Exc (C + 2) μ μ3 := (f1.trans f2).trans f3
  have E : ED (μ3 (C + 2)) h v m i j k 1 := by
    unfold ED
    rw [r3 0 (by omega), r3 1 (by omega), r3 2 (by omega), r3 3 (by omega), r3 4 (by omega), r3 5 (by omega), q3 0 (by omega), q3 1 (by omega), q3 2 (by omega)]
    simp only [Int.one_mul]
    exact ⟨p0, p1, p2, q0, q1, q2, r0, r1, r2⟩
  obtain ⟨a1, a2, a3, a4⟩ := R i hi.1 hi.2
  obtain ⟨b1, b2, b3, b4⟩ := R j hj.1 hj.2
  obtain ⟨d1, d2, d3, d4⟩ := R k hk.1 hk.2
  have x0 : bd (crH v m j k) 41 := cr_bd b2 d3 b3 d2
  have x1 : bd (crV h m j k) 41 := cr_bd b3 d1 b1 d3
  have x2 : bd (crM h v j k) 41 := cr_bd b1 d2 b2 d1
  have y0 : bd (crH v m k i) 41 := cr_bd d2 a3 d3 a2
  have y1 : bd (crV h m k i) 41 := cr_bd d3 a1 d1 a3
  have y2 : bd (crM h v k i) 41 := cr_bd d1 a2 d2 a1
  have z0 : bd (crH v m i j) 41 := cr_bd a2 b3 a3 b2
  have z1 : bd (crV h m i j) 41 := cr_bd a3 b1 a1 b3
  have z2 : bd (crM h v i j) 41 := cr_bd a1 b2 a2 b1
  have u0 := E.1
  have u1 := E.2.1
  have u2 := E.2.2.1
  rw [Int.one_mul] at u0 u1 u2
  have sm := w64_sum3 (bd_mul a1 x0) (bd_mul a2 x1) (bd_mul a3 x2)
  have dv : bd (dt3 h v m i j k) 63 := bd_add (bd_add (bd_mul a1 x0) (bd_mul a2 x1)) (bd_mono (bd_mul a3 x2) (by decide))
  have dd : h i * crH v m j k + v i * crV h m j k + m i * crM h v j k = dt3 h v m i j k := rfl
  rw [dd] at sm
  have nw : w64 (-(dt3 h v m i j k)) = -(dt3 h v m i j k) := w64_bd (bd_neg dv)
  have i48 : i < 48 := by omega
  have i00 := hi.1
  clear dd
  apply g_X2_findEdges_54
  simp only [L.k, L.f0.1, L.f0.2.1, L.f0.2.2, L.f1.1, L.f1.2.1, L.f1.2.2, LB'.k, LB'.f0.1, LB'.f0.2.1, LB'.f0.2.2, LB'.f1.1, LB'.f1.2.1, LB'.f1.2.2, LB'.f2.1, LB'.f2.2.1, LB'.f2.2.2, forall_eq, eq_self, true_and, Int.reduceLT, c3, e0, W3.2.1, W3.2.2.1, W3.2.2.2.1, u0, u1, u2, sm, sx_same, nw, i48, i00]
  intro _
  refine ⟨fun z => ?_, fun z => ?_⟩
  · refine hh _ 1 ?_ ⟨⟨?_, ?_, ?_⟩, ?_, ?_, Or.inl rfl, by omega⟩
    · intro b t g1 g2
      rw [show st μ3 C 4 (dt3 h v m i j k) b t = μ3 b t from if_neg g2]
      exact F3 b t g1
    · rw [sx_oa (by omega), c3]; exact e0
    · rw [sx_oa (by omega), c3]; exact e1
    · rw [sx_oa (by omega), c3]; exact e2
    · unfold ED at *
      simp only [sx_oa (show C + 2 ≠ C by omega)]
      exact E
    · rw [sx_same]; omega
  · refine fe_neg L (g := μ3 (C + 2)) ?_ (fun μ4 f4 g4 => hh μ4 (-1) ?_ ⟨⟨?_, ?_, ?_⟩, ?_, ?_, Or.inr rfl, by omega⟩) 9 0 _ (by decide) (by decide) Exc.rf (fun x x0 x1 => by omega) (fun x x0 x1 => ?_)
    · intro x h0 h9
      have : x = 0 ∨ x = 1 ∨ x = 2 ∨ x = 3 ∨ x = 4 ∨ x = 5 ∨ x = 6 ∨ x = 7 ∨ x = 8 := by omega
      unfold ED at E
      simp only [Int.one_mul] at E
      obtain ⟨E0, E1, E2, E3, E4, E5, E6, E7, E8⟩ := E
      rcases this with rfl | rfl | rfl | rfl | rfl | rfl | rfl | rfl | rfl
      · rw [E0]; exact bd_mono x0 (by decide)
      · rw [E1]; exact bd_mono x1 (by decide)
      · rw [E2]; exact bd_mono x2 (by decide)
      · rw [E3]; exact bd_mono y0 (by decide)
      · rw [E4]; exact bd_mono y1 (by decide)
      · rw [E5]; exact bd_mono y2 (by decide)
      · rw [E6]; exact bd_mono z0 (by decide)
      · rw [E7]; exact bd_mono z1 (by decide)
      · rw [E8]; exact bd_mono z2 (by decide)
    · intro b t g1 g2
      rw [f4 b t g1]
      unfold st
      rw [if_neg g2, if_neg g2]
      exact F3 b t g1
    · rw [f4 _ _ (by omega), sx_oa (by omega), sx_oa (by omega), c3]; exact e0
    · rw [f4 _ _ (by omega), sx_oa (by omega), sx_oa (by omega), c3]; exact e1
    · rw [f4 _ _ (by omega), sx_oa (by omega), sx_oa (by omega), c3]; exact e2
    · unfold ED at *
      rw [g4 0 (by decide) (by decide), g4 1 (by decide) (by decide), g4 2 (by decide) (by decide), g4 3 (by decide) (by decide), g4 4 (by decide) (by decide), g4 5 (by decide) (by decide), g4 6 (by decide) (by decide), g4 7 (by decide) (by decide), g4 8 (by decide) (by decide)]
      simp only [Int.one_mul] at E
      obtain ⟨E0, E1, E2, E3, E4, E5, E6, E7, E8⟩ := E
      rw [E0, E1, E2, E3, E4, E5, E6, E7, E8]
      simp only [Int.neg_mul, Int.one_mul, eq_self, and_self]
    · rw [f4 _ _ (by omega), sx_same]; omega
    · rw [sx_oa (by omega), sx_oa (by omega)]
