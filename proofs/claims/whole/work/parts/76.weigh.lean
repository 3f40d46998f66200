/-! ===== Corner: a bound's value at the corner ===== -/
theorem w32_0 : w32 0 = 0 := by decide
theorem w32_3 : w32 3 = 3 := by decide
theorem w32_6 : w32 6 = 6 := by decide
theorem w32_7 : w32 7 = 7 := by decide
theorem w32_8 : w32 8 = 8 := by decide
theorem w128_bd {x : Int} (h : bd x 126) : w128 x = x := w128_id (by
  unfold bd at h
  have : (2 : Nat) ^ 126 = 85070591730234615865843651857942052864 := by decide
  rw [this] at h
  omega)
/-- the three parts of a bound, in their array -/
def PT (f h v m : Int → Int) (i j k s b : Int) : Prop := f 0 = pa3 h v m s b j k ∧ f 1 = pa3 h v m s b k i ∧ f 2 = pa3 h v m s b i j
theorem pa_bd {h v m : Int → Int} {b j k s : Int} (hs : s = 1 ∨ s = -1) (b1 : bd (h b) 20) (b2 : bd (v b) 20) (b3 : bd (m b) 20) (x0 : bd (crH v m j k) 41) (x1 : bd (crV h m j k) 41) (x2 : bd (crM h v j k) 41) : bd (s * crH v m j k) 41 ∧ bd (s * crV h m j k) 41 ∧ bd (s * crM h v j k) 41 ∧ bd (pa3 h v m s b j k) 63 := by
  have q : ∀ x : Int, bd x 41 → bd (s * x) 41 := by
    intro x hx
    rcases hs with rfl | rfl
    · rw [Int.one_mul]; exact hx
    · rw [Int.neg_mul, Int.one_mul]; exact bd_neg hx
  exact ⟨q _ x0, q _ x1, q _ x2, bd_add (bd_add (bd_mul b1 (q _ x0)) (bd_mul b2 (q _ x1))) (bd_mono (bd_mul b3 (q _ x2)) (by decide))⟩
theorem pa_sum {h v m : Int → Int} {b j k s : Int} (b1 : bd (h b) 20) (b2 : bd (v b) 20) (b3 : bd (m b) 20) (x0 : bd (s * crH v m j k) 41) (x1 : bd (s * crV h m j k) 41) (x2 : bd (s * crM h v j k) 41) : w64 (w64 (w64 (h b * (s * crH v m j k)) + w64 (v b * (s * crV h m j k))) + w64 (m b * (s * crM h v j k))) = pa3 h v m s b j k := w64_sum3 (bd_mul b1 x0) (bd_mul b2 x1) (bd_mul b3 x2)
theorem sp_X2_weighBound {Q X : m_Po} {ε : m_E} {μ : m_M} {C B n i j k s b : Int} {h v m c : Int → Int} (L : LC ε C) (LB' : LB ε B) (hC : C = B + 6) (hn : n ≤ 48) (W : RC μ B n h v m c) (R : RB h v m c n) (hi : 0 ≤ i ∧ i < n) (hj : 0 ≤ j ∧ j < n) (hk : 0 ≤ k ∧ k < n) (hb : 0 ≤ b ∧ b < n) (S : CS μ C h v m i j k s)
    (hh : ∀ μ', Ex2 (C + 3) (C + 4) μ μ' → PT (μ' (C + 3)) h v m i j k s b → W2 (μ' (C + 4) 0) (μ' (C + 4) 1) = wo h v m c b (cnH v m c i j k s) (cnV h m c i j k s) (cnM h v c i j k s) (s * dt3 h v m i j k) → Q 0 ε μ') : o_X2_weighBound [(2, C), (2, B), (0, b)] ε μ Q X := by
  obtain ⟨⟨e0, e1, e2⟩, ⟨E0, E1, E2, E3, E4, E5, E6, E7, E8⟩, ev, hs, hpos⟩ := S
  obtain ⟨a1, a2, a3, a4⟩ := R i hi.1 hi.2
  obtain ⟨b1, b2, b3, b4⟩ := R j hj.1 hj.2
  obtain ⟨d1, d2, d3, d4⟩ := R k hk.1 hk.2
  obtain ⟨g1, g2, g3, g4⟩ := R b hb.1 hb.2
  have x0 : bd (crH v m j k) 41 := cr_bd b2 d3 b3 d2
  have x1 : bd (crV h m j k) 41 := cr_bd b3 d1 b1 d3
  have x2 : bd (crM h v j k) 41 := cr_bd b1 d2 b2 d1
  have y0 : bd (crH v m k i) 41 := cr_bd d2 a3 d3 a2
  have y1 : bd (crV h m k i) 41 := cr_bd d3 a1 d1 a3
  have y2 : bd (crM h v k i) 41 := cr_bd d1 a2 d2 a1
  have z0 : bd (crH v m i j) 41 := cr_bd a2 b3 a3 b2
  have z1 : bd (crV h m i j) 41 := cr_bd a3 b1 a1 b3
  have z2 : bd (crM h v i j) 41 := cr_bd a1 b2 a2 b1
  obtain ⟨p0, p1, p2, p3⟩ := pa_bd hs g1 g2 g3 x0 x1 x2
  obtain ⟨q0, q1, q2, q3⟩ := pa_bd hs g1 g2 g3 y0 y1 y2
  obtain ⟨r0, r1, r2, r3⟩ := pa_bd hs g1 g2 g3 z0 z1 z2
  have sp := pa_sum g1 g2 g3 p0 p1 p2
  have sq := pa_sum g1 g2 g3 q0 q1 q2
  have sr := pa_sum g1 g2 g3 r0 r1 r2
  have np : w64 (-(pa3 h v m s b j k)) = -(pa3 h v m s b j k) := w64_bd (bd_neg p3)
  have nq : w64 (-(pa3 h v m s b k i)) = -(pa3 h v m s b k i) := w64_bd (bd_neg q3)
  have nr : w64 (-(pa3 h v m s b i j)) = -(pa3 h v m s b i j) := w64_bd (bd_neg r3)
  have dv : bd (s * dt3 h v m i j k) 63 := by
    have : s * dt3 h v m i j k = pa3 h v m s i j k := ex_vol
    rw [this]
    exact (pa_bd hs a1 a2 a3 x0 x1 x2).2.2.2
  have b48 : b < 48 := by omega
  have i48 : i < 48 := by omega
  have j48 : j < 48 := by omega
  have k48 : k < 48 := by omega
  have b00 := hb.1
  have i00 := hi.1
  have j00 := hj.1
  have k00 := hk.1
  have n1 : ¬ C + 1 = C + 3 := by omega
  have n2 : ¬ C + 2 = C + 3 := by omega
  have n3 : ¬ B + 4 = C + 3 := by omega
  apply e_X2_weighBound
  simp only [L.k, L.f3.1, L.f3.2.1, eq_self, true_and]
  refine fun _ _ => sp_X9_clear L.f3.2.1 (fun μ1 f1 c0 c1 => ?_)
  have W1 : RC μ1 B n h v m c := W.fr (fun b t _ _ => f1 b t (by omega))
  have v1 : μ1 C 4 = s * dt3 h v m i j k := by rw [f1 _ _ (by omega)]; exact ev
  apply g_X2_weighBound_7
  simp only [L.k, L.f3.1, L.f3.2.1, LB'.k, LB'.f3.1, LB'.f3.2.1, LB'.f3.2.2, eq_self, true_and, b00, b48, W1.2.2.2.2, v1]
  refine fun _ _ => sp_X9_addProduct L.f3.2.1 (fun μ2 f2 w2 => ?_)
  rw [c0, c1, show W2 0 0 = 0 by decide] at w2
  have F2 : Exc (C + 4) μ μ2 := f1.trans f2
  have W2' : RC μ2 B n h v m c := W.fr (fun b t _ _ => F2 b t (by omega))
  have A2 : ∀ t, μ2 (C + 1) t = μ (C + 1) t := fun t => F2 _ t (by omega)
  have B2 : ∀ t, μ2 (C + 2) t = μ (C + 2) t := fun t => F2 _ t (by omega)
  apply g_X2_weighBound_24
  refine fun _ _ v3 e3 => ?_
  rw [e3]
  apply g_X2_weighBound_26
  simp only [L.k, L.f0.1, L.f0.2.1, L.f0.2.2, L.f1.1, L.f1.2.1, L.f1.2.2, L.f2.1, L.f2.2.1, L.f2.2.2, L.f3.1, L.f3.2.1, LB'.k, LB'.f0.1, LB'.f0.2.1, LB'.f0.2.2, LB'.f1.1, LB'.f1.2.1, LB'.f1.2.2, LB'.f2.1, LB'.f2.2.1, LB'.f2.2.2, LB'.f3.1, LB'.f3.2.1, LB'.f3.2.2, forall_eq, eq_self, true_and, and_true, Int.reduceLT, Int.reduceLE, Int.reduceMul, Int.reduceAdd, w32_0, w32_1, w32_2, w32_3, w32_4, w32_5, w32_6, w32_7, w32_8, Int.le_refl, b00, b48, A2, B2, e0, e1, e2, E0, E1, E2, W2'.2.1, W2'.2.2.1, W2'.2.2.2.1, W2'.2.2.2.2, sp, st, n1, n2, n3, false_and, if_false, and_self, if_true, i00, i48, np, true_implies, false_implies]
  refine fun _ _ _ => sp_X9_addProduct L.f3.2.1 (fun μ3 f3 w3 => ?_)
  rw [sx_oa (show C + 4 ≠ C + 3 by omega), sx_oa (show C + 4 ≠ C + 3 by omega), w2, w128_add] at w3
  have F3 : Ex2 (C + 3) (C + 4) μ μ3 := fun b t h1 h2 => by rw [f3 b t h2, sx_oa h1]; exact F2 b t h2
  have W3 : RC μ3 B n h v m c := W.fr (fun b t _ _ => F3 b t (by omega) (by omega))
  have A3 : ∀ t, μ3 (C + 1) t = μ (C + 1) t := fun t => F3 _ t (by omega) (by omega)
  have B3 : ∀ t, μ3 (C + 2) t = μ (C + 2) t := fun t => F3 _ t (by omega) (by omega)
  have P3 : μ3 (C + 3) 0 = pa3 h v m s b j k := by rw [f3 _ _ (by omega), sx_same]
  apply g_X2_weighBound_113
  refine fun _ _ _ v3 e3 => ?_
  rw [e3, show w32 (0 + 1) = 1 by decide]
  apply g_X2_weighBound_26
  simp only [L.k, L.f0.1, L.f0.2.1, L.f0.2.2, L.f1.1, L.f1.2.1, L.f1.2.2, L.f2.1, L.f2.2.1, L.f2.2.2, L.f3.1, L.f3.2.1, LB'.k, LB'.f0.1, LB'.f0.2.1, LB'.f0.2.2, LB'.f1.1, LB'.f1.2.1, LB'.f1.2.2, LB'.f2.1, LB'.f2.2.1, LB'.f2.2.2, LB'.f3.1, LB'.f3.2.1, LB'.f3.2.2, forall_eq, eq_self, true_and, and_true, Int.reduceLT, Int.reduceLE, Int.reduceMul, Int.reduceAdd, w32_0, w32_1, w32_2, w32_3, w32_4, w32_5, w32_6, w32_7, w32_8, Int.le_refl, b00, b48, A3, B3, e0, e1, e2, E3, E4, E5, W3.2.1, W3.2.2.1, W3.2.2.2.1, W3.2.2.2.2, sq, st, n1, n2, n3, false_and, if_false, and_self, if_true, j00, j48, nq, true_implies, false_implies]
  refine fun _ _ _ => sp_X9_addProduct L.f3.2.1 (fun μ4 f4 w4 => ?_)
  rw [sx_oa (show C + 4 ≠ C + 3 by omega), sx_oa (show C + 4 ≠ C + 3 by omega), w3, w128_add] at w4
  have F4 : Ex2 (C + 3) (C + 4) μ μ4 := fun b t h1 h2 => by rw [f4 b t h2, sx_oa h1]; exact F3 b t h1 h2
  have W4 : RC μ4 B n h v m c := W.fr (fun b t _ _ => F4 b t (by omega) (by omega))
  have A4 : ∀ t, μ4 (C + 1) t = μ (C + 1) t := fun t => F4 _ t (by omega) (by omega)
  have B4 : ∀ t, μ4 (C + 2) t = μ (C + 2) t := fun t => F4 _ t (by omega) (by omega)
  have P4 : μ4 (C + 3) 0 = pa3 h v m s b j k := by rw [f4 _ _ (by omega), sx_oi (by decide)]; exact P3
  have Q4 : μ4 (C + 3) 1 = pa3 h v m s b k i := by rw [f4 _ _ (by omega), sx_same]
  apply g_X2_weighBound_113
  refine fun _ _ _ v3 e3 => ?_
  rw [e3, show w32 (1 + 1) = 2 by decide]
  apply g_X2_weighBound_26
  simp only [L.k, L.f0.1, L.f0.2.1, L.f0.2.2, L.f1.1, L.f1.2.1, L.f1.2.2, L.f2.1, L.f2.2.1, L.f2.2.2, L.f3.1, L.f3.2.1, LB'.k, LB'.f0.1, LB'.f0.2.1, LB'.f0.2.2, LB'.f1.1, LB'.f1.2.1, LB'.f1.2.2, LB'.f2.1, LB'.f2.2.1, LB'.f2.2.2, LB'.f3.1, LB'.f3.2.1, LB'.f3.2.2, forall_eq, eq_self, true_and, and_true, Int.reduceLT, Int.reduceLE, Int.reduceMul, Int.reduceAdd, w32_0, w32_1, w32_2, w32_3, w32_4, w32_5, w32_6, w32_7, w32_8, Int.le_refl, b00, b48, A4, B4, e0, e1, e2, E6, E7, E8, W4.2.1, W4.2.2.1, W4.2.2.2.1, W4.2.2.2.2, sr, st, n1, n2, n3, false_and, if_false, and_self, if_true, k00, k48, nr, true_implies, false_implies]
  refine fun _ _ _ => sp_X9_addProduct L.f3.2.1 (fun μ5 f5 w5 => ?_)
  rw [sx_oa (show C + 4 ≠ C + 3 by omega), sx_oa (show C + 4 ≠ C + 3 by omega), w4, w128_add] at w5
  apply g_X2_weighBound_113
  refine fun _ _ _ v3 e3 => ?_
  rw [e3, show w32 (2 + 1) = 3 by decide]
  apply g_X2_weighBound_26
  refine fun _ _ _ => ⟨fun _ => hh μ5 (fun b t h1 h2 => by rw [f5 b t h2, sx_oa h1]; exact F4 b t h1 h2) ⟨?_, ?_, ?_⟩ ?_, fun z => absurd z (by decide)⟩
  · rw [f5 _ _ (by omega), sx_oi (by decide)]; exact P4
  · rw [f5 _ _ (by omega), sx_oi (by decide)]; exact Q4
  · rw [f5 _ _ (by omega), sx_same]
  · rw [w5, wo_cn, Int.zero_add]
    refine w128_bd ?_
    have t1 := bd_mul g4 dv
    have t2 := bd_mul (bd_neg p3) a4
    have t3 := bd_mul (bd_neg q3) b4
    have t4 := bd_mul (bd_neg r3) d4
    exact bd_mono (bd_add (bd_add (bd_add t1 (bd_mono t2 (by decide))) (bd_mono t3 (by decide))) (bd_mono t4 (by decide : 63 + 44 ≤ 44 + 63 + 1 + 1))) (by decide)
