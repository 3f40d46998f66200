/-! ===== Corner: the first broken bound; is it lowest ===== -/
theorem CS.fr {μ μ' : m_M} {C i j k s : Int} {h v m : Int → Int} (S : CS μ C h v m i j k s) (f : ∀ b t, C ≤ b → b ≤ C + 2 → μ' b t = μ b t) : CS μ' C h v m i j k s := by
  obtain ⟨⟨e0, e1, e2⟩, E, ev, hs, hp⟩ := S
  have e : μ' (C + 2) = μ (C + 2) := funext (fun t => f _ t (by omega) (by omega))
  refine ⟨⟨?_, ?_, ?_⟩, by rw [e]; exact E, ?_, hs, hp⟩
  · rw [f _ _ (by omega) (by omega)]; exact e0
  · rw [f _ _ (by omega) (by omega)]; exact e1
  · rw [f _ _ (by omega) (by omega)]; exact e2
  · rw [f _ _ (by omega) (by omega)]; exact ev
/-- a row's value at the corner -/
def wc (h v m c : Int → Int) (i j k s b : Int) : Int := wo h v m c b (cnH v m c i j k s) (cnV h m c i j k s) (cnM h v c i j k s) (s * dt3 h v m i j k)
theorem sg_lt {z : Int} (h : z < 0) : sg z < 0 := by unfold sg; rw [if_pos h]; decide
theorem sg_ge {z : Int} (h : 0 ≤ z) : 0 ≤ sg z := by unfold sg; rw [if_neg (by omega)]; split <;> decide
theorem fb_loop {Q X : m_Po} {ε : m_E} {μ0 : m_M} {C B i j k s : Int} {n : Nat} {h v m c : Int → Int} (L : LC ε C) (LB' : LB ε B) (hC : C = B + 6) (hn : n ≤ 48) (W0 : RC μ0 B n h v m c) (R : RB h v m c n) (hi : 0 ≤ i ∧ i < n) (hj : 0 ≤ j ∧ j < n) (hk : 0 ≤ k ∧ k < n) (S0 : CS μ0 C h v m i j k s)
    (h0 : ∀ μ', Ex2 (C + 3) (C + 4) μ0 μ' → (∀ b : Int, 0 ≤ b → b < n → 0 ≤ wc h v m c i j k s b) → Q (-1) ε μ')
    (h1 : ∀ (μ' : m_M) (b : Int), Ex2 (C + 3) (C + 4) μ0 μ' → 0 ≤ b → b < n → wc h v m c i j k s b < 0 → PT (μ' (C + 3)) h v m i j k s b → Q b ε μ') :
    ∀ (d t : Nat) (μ : m_M), t + d = n → Ex2 (C + 3) (C + 4) μ0 μ → (∀ b : Int, 0 ≤ b → b < t → 0 ≤ wc h v m c i j k s b) → G cd_X2_firstBroken Q X 2 [(0, (2, C)), (1, (2, B)), (2, (0, t))] [] ε μ := by
  intro d
  induction d with
  | zero =>
    intro t μ hd f hw
    have ht : t = n := by omega
    subst ht
    have W := W0.fr (μ' := μ) (fun b t _ _ => f b t (by omega) (by omega))
    have tn : ¬ (t : Int) < t := by omega
    apply g_X2_firstBroken_2
    rw [W.1]
    exact fun _ _ => ⟨LB'.k, fun _ => h0 μ f hw, fun z => absurd z tn⟩
  | succ d ih =>
    intro t μ hd f hw
    have t0 : (0 : Int) ≤ t := by omega
    have t1 : ¬ (48 : Int) ≤ t := by omega
    have t2 : (t : Int) < n := by omega
    have tN : ¬ (n : Int) ≤ t := by omega
    have tm : t < 2147483647 := by omega
    have hd' : t + 1 + d = n := by omega
    have W := W0.fr (μ' := μ) (fun b t _ _ => f b t (by omega) (by omega))
    have S := S0.fr (μ' := μ) (fun b t _ _ => f b t (by omega) (by omega))
    apply g_X2_firstBroken_2
    rw [W.1]
    refine fun _ _ => ⟨LB'.k, fun z => absurd z tN, fun _ => ⟨fun z => absurd z t1, fun _ => ⟨L.k, sp_X2_weighBound L LB' hC (by omega) W R hi hj hk ⟨t0, t2⟩ S (fun μ1 f1 p1 w1 => ?_)⟩⟩⟩
    have F1 := f.trans f1
    apply g_X2_firstBroken_22
    rw [L.f3.1]
    refine fun _ _ => ⟨L.k, L.f3.2.1, sp_X9_sign L.f3.2.1 ?_⟩
    rw [w1]
    apply g_X2_firstBroken_29
    refine fun _ _ _ => ⟨fun z v2 e2 => ?_, fun z => h1 μ1 t F1 t0 t2 (sg_neg' z) p1⟩
    rw [w32_succ tm e2]
    have z' := sg_nneg z
    refine ih (t + 1) μ1 hd' F1 (fun b b0 b1 => ?_)
    by_cases q : b = t
    · rw [q]; exact z'
    · exact hw b b0 (by clear e2; omega)
theorem sp_X2_firstBroken {Q X : m_Po} {ε : m_E} {μ : m_M} {C B i j k s : Int} {n : Nat} {h v m c : Int → Int} (L : LC ε C) (LB' : LB ε B) (hC : C = B + 6) (hn : n ≤ 48) (W : RC μ B n h v m c) (R : RB h v m c n) (hi : 0 ≤ i ∧ i < n) (hj : 0 ≤ j ∧ j < n) (hk : 0 ≤ k ∧ k < n) (S : CS μ C h v m i j k s)
    (h0 : ∀ μ', Ex2 (C + 3) (C + 4) μ μ' → (∀ b : Int, 0 ≤ b → b < n → 0 ≤ wc h v m c i j k s b) → Q (-1) ε μ')
    (h1 : ∀ (μ' : m_M) (b : Int), Ex2 (C + 3) (C + 4) μ μ' → 0 ≤ b → b < n → wc h v m c i j k s b < 0 → PT (μ' (C + 3)) h v m i j k s b → Q b ε μ') : o_X2_firstBroken [(2, C), (2, B)] ε μ Q X := by
  apply e_X2_firstBroken
  intro _ v2 e2
  rw [e2]
  exact fb_loop L LB' hC hn W R hi hj hk S h0 h1 n 0 μ (by omega) Ex2.rf (fun b b0 b1 => by omega)
theorem lp_first (x y z : Int) : lp x y z ↔ 0 < (if x = 0 then (if y = 0 then z else y) else x) := by
  unfold lp
  by_cases a : x = 0
  · rw [if_pos a]
    by_cases b : y = 0
    · rw [if_pos b]; omega
    · rw [if_neg b]; omega
  · rw [if_neg a]; omega
theorem lp_not_first {x y z : Int} (h : (if x = 0 then (if y = 0 then z else y) else x) ≤ 0) : ¬ lp x y z := fun q => by
  have := (lp_first x y z).mp q; omega
/-- which way the first unknown goes -/
def gf (f : Int) : Int := if f = 0 then 1 else -1
theorem il_step {Q X : m_Po} {ε : m_E} {μ : m_M} {C f e x y z : Int} (L : LC ε C) (he : e = 0 ∨ e = 1 ∨ e = 2) (hx : μ (C + 2) (3 * e) = x) (hy : μ (C + 2) (3 * e + 1) = y) (hz : μ (C + 2) (3 * e + 2) = z) (bx : bd x 62)
    (h1 : lp (gf f * x) y z → G cd_X2_isLowest Q X 2 [(0, (2, C)), (1, (0, f)), (2, (0, e + 1))] [] ε μ) (h0 : ¬ lp (gf f * x) y z → Q 0 ε μ) : G cd_X2_isLowest Q X 2 [(0, (2, C)), (1, (0, f)), (2, (0, e))] [] ε μ := by
  have nx : w64 (-x) = -x := w64_bd (bd_mono (bd_neg bx) (by decide))
  have gx : (if f = 0 then x else -x) = gf f * x := by
    unfold gf
    split
    · rw [Int.one_mul]
    · rw [Int.neg_mul, Int.one_mul]
  have q0 : 0 ≤ 3 * e := by omega
  have q1 : 3 * e < 9 := by omega
  have q2 : 0 ≤ 3 * e + 1 := by omega
  have q3 : 3 * e + 1 < 9 := by omega
  have q4 : 0 ≤ 3 * e + 2 := by omega
  have q5 : 3 * e + 2 < 9 := by omega
  have eN : ¬ 3 ≤ e := by omega
  have w0 : w32 (3 * e) = 3 * e := w32_id (by unfold i32; omega)
  have w1 : w32 (3 * e + 1) = 3 * e + 1 := w32_id (by unfold i32; omega)
  have w2 : w32 (3 * e + 2) = 3 * e + 2 := w32_id (by unfold i32; omega)
  have w3 : w32 (e + 1) = e + 1 := w32_id (by unfold i32; omega)
  apply g_X2_isLowest_2
  simp only [L.k, L.f1.1, L.f1.2.1, L.f1.2.2, forall_eq, eq_self, true_and, and_true, implies_true, w0, w1, w2, w3, q0, q1, q2, q3, q4, q5, hx, hy, hz, nx, gx, eN, false_implies]
  refine fun _ _ _ _ => ⟨fun c => h1 ((lp_first _ _ _).mpr c), fun c => h0 (lp_not_first c)⟩
theorem sp_X2_isLowest {Q X : m_Po} {ε : m_E} {μ : m_M} {C f n i j k s : Int} {h v m c : Int → Int} (L : LC ε C) (R : RB h v m c n) (hi : 0 ≤ i ∧ i < n) (hj : 0 ≤ j ∧ j < n) (hk : 0 ≤ k ∧ k < n) (S : CS μ C h v m i j k s)
    (h1 : Low h v m (gf f) i j k s → Q 1 ε μ) (h0 : ¬ Low h v m (gf f) i j k s → Q 0 ε μ) : o_X2_isLowest [(2, C), (0, f)] ε μ Q X := by
  obtain ⟨-, ⟨E0, E1, E2, E3, E4, E5, E6, E7, E8⟩, ev, hs, hp⟩ := S
  obtain ⟨a1, a2, a3, a4⟩ := R i hi.1 hi.2
  obtain ⟨b1, b2, b3, b4⟩ := R j hj.1 hj.2
  obtain ⟨d1, d2, d3, d4⟩ := R k hk.1 hk.2
  have x0 : bd (crH v m j k) 41 := cr_bd b2 d3 b3 d2
  have x1 : bd (crV h m j k) 41 := cr_bd b3 d1 b1 d3
  have x2 : bd (crM h v j k) 41 := cr_bd b1 d2 b2 d1
  have y0 : bd (crH v m k i) 41 := cr_bd d2 a3 d3 a2
  have y1 : bd (crV h m k i) 41 := cr_bd d3 a1 d1 a3
  have y2 : bd (crM h v k i) 41 := cr_bd d1 a2 d2 a1
  have z0 : bd (crH v m i j) 41 := cr_bd a2 b3 a3 b2
  have z1 : bd (crV h m i j) 41 := cr_bd a3 b1 a1 b3
  have z2 : bd (crM h v i j) 41 := cr_bd a1 b2 a2 b1
  have p0 := (pa_bd hs a1 a2 a3 x0 x1 x2).1
  have q0 := (pa_bd hs a1 a2 a3 y0 y1 y2).1
  have r0 := (pa_bd hs a1 a2 a3 z0 z1 z2).1
  apply e_X2_isLowest
  intro _ _ v2 e2
  rw [e2]
  refine il_step L (Or.inl rfl) E0 E1 E2 (bd_mono p0 (by decide)) (fun A => ?_) (fun A => h0 (fun q => A q.2.2.1))
  refine il_step L (Or.inr (Or.inl rfl)) E3 E4 E5 (bd_mono q0 (by decide)) (fun B => ?_) (fun B => h0 (fun q => B q.2.2.2.1))
  refine il_step L (Or.inr (Or.inr rfl)) E6 E7 E8 (bd_mono r0 (by decide)) (fun D => ?_) (fun D => h0 (fun q => D q.2.2.2.2))
  apply g_X2_isLowest_2
  rw [ev]
  refine fun _ _ _ => ⟨fun _ => ⟨L.k, fun t et => ?_⟩, fun z => absurd z (by decide)⟩
  rw [et]
  by_cases z : s * dt3 h v m i j k ≤ 0
  · rw [if_pos z]
    exact h0 (fun q => by have := q.2.1; omega)
  · rw [if_neg z]
    exact h1 ⟨hs, by omega, A, B, D⟩
