set_option maxHeartbeats 1000000
/-! ===== the reference weighs a stone ===== -/
theorem Mid.b {x l p q B : Int} (H : Mid x l p q) (l1 : 1 ≤ l) (hx : ab x B) (B0 : 0 ≤ B) : ab p B ∧ 1 ≤ q ∧ q ≤ l ∧ Int.tdiv (10 * p) q = Int.tdiv (10 * x) l := by
  obtain ⟨g, g1, ge, e1, e2⟩ := H
  have q1 : 1 ≤ q := by
    rcases Int.lt_or_le 0 q with z | z
    · omega
    · have := Int.mul_le_mul_of_nonneg_left z (show (0 : Int) ≤ g by omega)
      rw [Int.mul_zero] at this
      omega
  have ep : Int.tdiv x g = p := by rw [e1, Int.mul_tdiv_cancel_left _ (by omega)]
  refine ⟨by rw [← ep]; exact ab_tdiv hx g1 B0, q1, ?_, ?_⟩
  · have := Int.mul_le_mul_of_nonneg_right g1 (show (0 : Int) ≤ q by omega)
    omega
  · rw [e2, show 10 * x = g * (10 * p) by rw [e1, ← Int.mul_assoc, ← Int.mul_assoc, Int.mul_comm 10 g], Int.mul_tdiv_mul_of_pos _ _ (by omega)]
/-- the cells that weighs writes -/
def wcl (M s b j : Int) : Prop := ((b = M + 11 ∨ b = M + 12) ∧ (j = 2 * s ∨ j = 2 * s + 1)) ∨ ((b = M + 10 ∨ b = M + 9) ∧ j = s)
theorem weighs_151 {Q Y : m_Po} {ε : m_E} {μ : m_M} {M s n A x y kind part px qx py qy : Int} {u v : Int → Int} (H : PM ε μ M s n u v) (hA8 : μ (M + 8) s = A) (hk : μ (M + 4) s = kind) (k0 : 0 ≤ kind) (k4 : kind ≤ 4) (p0 : 0 ≤ part) (p1 : part ≤ 99) (pk : kind ≠ 4 → part = 0) (A1 : 1 ≤ A) (A2 : A ≤ 240000) (bx : ab x 48000000) (by' : ab y 48000000) (Mx : Mid x (3 * A) px qx) (My : Mid y (3 * A) py qy)
    (hh : ∀ μ' : m_M, (∀ b j, ¬ wcl M s b j → μ' b j = μ b j) → (μ' (M + 11) (2 * s) = px ∧ μ' (M + 12) (2 * s) = qx ∧ μ' (M + 11) (2 * s + 1) = py ∧ μ' (M + 12) (2 * s + 1) = qy ∧ μ' (M + 10) s = Int.tdiv (10 * x) (3 * A) ∧ μ' (M + 9) s = wtw kind part A) → Q 0 ε μ') : G cd_X12_weighs Q Y 151 [(0, (2, M)), (1, (0, s)), (2, (0, part)), (4, (1, x)), (6, (1, y)), (8, (1, 3 * A)), (10, (0, 0))] [] ε μ := by
  obtain ⟨L, s0, s1, n3, n12, hn, h⟩ := H
  have bx2 : -48000000 ≤ x ∧ x ≤ 48000000 := bx
  have by2 : -48000000 ≤ y ∧ y ≤ 48000000 := by'
  obtain ⟨b1, q1, q2, q3⟩ := Mx.b (by omega) bx (by decide)
  obtain ⟨b2, r1, r2, r3⟩ := My.b (by omega) by' (by decide)
  obtain ⟨gx, gx1, gxe, ex, lx⟩ := Mx
  obtain ⟨gy, gy1, gye, ey, ly⟩ := My
  have ws : w32 (2 * s) = 2 * s := w32_id (by unfold i32; omega)
  have ws1 : w32 (2 * s + 1) = 2 * s + 1 := w32_id (by unfold i32; omega)
  have dv : ∀ g p z : Int, 1 ≤ g → z = g * p → ab z 48000000 → w64 (Int.tdiv z g) = p := fun g p z g1 e b => by
    have q : Int.tdiv z g = p := by rw [e, Int.mul_tdiv_cancel_left _ (by omega)]
    rw [w64_ab (ab_tdiv b g1 (by decide)) (by decide), q]
  have bl : ab (3 * A) 48000000 := by unfold ab; omega
  apply g_X12_weighs_151
  refine fun _ _ _ _ _ _ _ => ⟨fun z => absurd z (by decide), fun _ t ht v11 e11 => ?_⟩
  rw [if_pos rfl] at ht
  rw [e11, ht]
  refine sp_X12_gcd (by omega) (by omega) ?_
  rw [gxe]
  apply g_X12_weighs_178
  intro _ _ _ _ _ _ _ _ _ v13 e13
  rw [e13, L.f12.1, L.f13.1, ws, Int.add_zero, ws, dv gx px x gx1 ex bx, dv gx qx (3 * A) gx1 lx bl, L.f12.2.2, L.f13.2.2]
  refine ⟨L.k, by omega, L.f12.2.1, by omega, by omega, fun μ1 m1 => ⟨L.f13.2.1, by omega, fun μ2 m2 v10 e10 => ?_⟩⟩
  rw [show w32 ((0 : Int) + 1) = 1 by decide] at e10
  rw [e10]
  apply g_X12_weighs_151
  refine fun _ _ _ _ _ _ _ => ⟨fun z => absurd z (by decide), fun _ t' ht' v11' e11' => ?_⟩
  rw [if_neg (by decide)] at ht'
  rw [e11', ht']
  refine sp_X12_gcd (by omega) (by omega) ?_
  rw [gye]
  apply g_X12_weighs_178
  intro _ _ _ _ _ _ _ _ _ v13' e13'
  rw [e13', L.f12.1, L.f13.1, ws, ws1, dv gy py y gy1 ey by', dv gy qy (3 * A) gy1 ly bl, L.f12.2.2, L.f13.2.2]
  refine ⟨L.k, by omega, L.f12.2.1, by omega, by omega, fun μ3 m3 => ⟨L.f13.2.1, by omega, fun μ4 m4 v10' e10' => ?_⟩⟩
  rw [show w32 ((1 : Int) + 1) = 2 by decide] at e10'
  rw [e10']
  have o4 : ∀ b j, b ≠ M + 11 → b ≠ M + 12 → μ4 b j = μ b j := fun b j h1 h2 => by rw [m4, sx_oa h2, m3, sx_oa h1, m2, sx_oa h2, m1, sx_oa h1]
  have u1 : μ4 (M + 11) (2 * s) = px := by rw [m4, sx_oa (by omega), m3, sx_oi (by omega), m2, sx_oa (by omega), m1, sx_same]
  have u2 : μ4 (M + 12) (2 * s) = qx := by rw [m4, sx_oi (by omega), m3, sx_oa (by omega), m2, sx_same]
  have u3 : μ4 (M + 11) (2 * s + 1) = py := by rw [m4, sx_oa (by omega), m3, sx_same]
  have u4 : μ4 (M + 12) (2 * s + 1) = qy := by rw [m4, sx_same]
  have f4 : ∀ b j, ¬ wcl M s b j → μ4 b j = μ b j := fun b j w => by
    have w1 : ¬ (b = M + 11 ∧ j = 2 * s) := fun z => w (Or.inl ⟨Or.inl z.1, Or.inl z.2⟩)
    have w2 : ¬ (b = M + 12 ∧ j = 2 * s) := fun z => w (Or.inl ⟨Or.inr z.1, Or.inl z.2⟩)
    have w3 : ¬ (b = M + 11 ∧ j = 2 * s + 1) := fun z => w (Or.inl ⟨Or.inl z.1, Or.inr z.2⟩)
    have w4 : ¬ (b = M + 12 ∧ j = 2 * s + 1) := fun z => w (Or.inl ⟨Or.inr z.1, Or.inr z.2⟩)
    rw [m4, st, if_neg w4, m3, st, if_neg w3, m2, st, if_neg w2, m1, st, if_neg w1]
  clear m1 m2 m3 m4
  apply g_X12_weighs_151
  rw [L.f12.1, L.f13.1, L.f11.1, L.f5.1, L.f9.1, ws, u1, u2, L.f12.2.2, L.f13.2.2, L.f11.2.2, L.f5.2.2, L.f9.2.2]
  have b10 : ab (10 * px) 480000000 := by unfold ab at *; omega
  rw [w64_ab b10 (by decide), w64_ab (ab_tdiv b10 q1 (by decide)) (by decide), w32_ab (ab_tdiv b10 q1 (by decide)) (by decide), q3]
  refine fun _ _ _ _ _ _ _ => ⟨fun _ => ⟨L.k, L.f12.2.1, by omega, by omega, L.f13.2.1, by omega, by omega, L.f11.2.1, s0, s1, fun μ5 m5 => ⟨L.f5.2.1, s1, fun v10 e10 => ⟨L.f9.2.1, s1, fun t ht => ?_⟩⟩⟩, fun z => absurd z (by decide)⟩
  have ek : v10 = kind := by rw [e10, m5, sx_oa (by omega), o4 _ _ (by omega) (by omega)]; exact hk
  have e8 : μ5 (M + 8) s = A := by rw [m5, sx_oa (by omega), o4 _ _ (by omega) (by omega)]; exact hA8
  have et : t = dnb kind := by rw [ht, ek]; rfl
  have g := fwt_all (kind := kind) A1 A2
  have fr := fwt_rng (kind := kind) (show 0 ≤ A by omega) A2
  rw [e8, et, ek]
  apply e_X12_cutWeight
  refine fun _ _ => ⟨g.1, ?_⟩
  rw [g.2]
  apply g_X12_weighs_287
  intro _ _ _ _ _ v11 e11
  rw [L.f10.1, L.f10.2.2, e11, w_part fr.1 fr.2 p0 p1]
  refine ⟨L.k, fun t1 ht1 => ⟨L.f10.2.1, s0, s1, fun μ6 m6 => hh μ6 (fun b j w => ?_) ⟨?_, ?_, ?_, ?_, ?_, ?_⟩⟩⟩
  · rw [m6, st, if_neg (fun z => w (Or.inr ⟨Or.inr z.1, z.2⟩)), m5, st, if_neg (fun z => w (Or.inr ⟨Or.inl z.1, z.2⟩))]
    exact f4 b j w
  · rw [m6, sx_oa (by omega), m5, sx_oa (by omega)]; exact u1
  · rw [m6, sx_oa (by omega), m5, sx_oa (by omega)]; exact u2
  · rw [m6, sx_oa (by omega), m5, sx_oa (by omega)]; exact u3
  · rw [m6, sx_oa (by omega), m5, sx_oa (by omega)]; exact u4
  · rw [m6, sx_oa (by omega), m5, sx_same]
  · rw [m6, sx_same, ht1]
    unfold wtw
    by_cases z : kind = 4
    · rw [if_pos z]
    · rw [if_neg z, pk z]; omega
theorem sp_X12_weighs {Q Y : m_Po} {ε : m_E} {μ : m_M} {M s n A x y kind part px qx py qy : Int} {u v : Int → Int} (H : PM ε μ M s n u v) (hA8 : μ (M + 8) s = A) (hk : μ (M + 4) s = kind) (k0 : 0 ≤ kind) (k4 : kind ≤ 4) (p0 : 0 ≤ part) (p1 : part ≤ 99) (pk : kind ≠ 4 → part = 0) (A1 : 1 ≤ A) (A2 : A ≤ 240000) (hx : smA (moA u u v) n.toNat = x) (hy : smA (moA v u v) n.toNat = y) (Mx : Mid x (3 * A) px qx) (My : Mid y (3 * A) py qy)
    (hh : ∀ μ' : m_M, (∀ b j, ¬ wcl M s b j → μ' b j = μ b j) → (μ' (M + 11) (2 * s) = px ∧ μ' (M + 12) (2 * s) = qx ∧ μ' (M + 11) (2 * s + 1) = py ∧ μ' (M + 12) (2 * s + 1) = qy ∧ μ' (M + 10) s = Int.tdiv (10 * x) (3 * A) ∧ μ' (M + 9) s = wtw kind part A) → Q 0 ε μ') : o_X12_weighs [(2, M), (0, s), (0, part)] ε μ Q Y := by
  have H' := H
  obtain ⟨L, s0, s1, n3, n12, hn, h⟩ := H
  have bu := H'.bu
  have bv := H'.bv
  have tb := fun i (i0 : (0 : Int) ≤ i) => tuA_ab bu bv (i := i) i0
  have tx := fun i (i0 : (0 : Int) ≤ i) => moA_ab bu bu bv (i := i) i0
  have ty := fun i (i0 : (0 : Int) ≤ i) => moA_ab bv bu bv (i := i) i0
  have bx : ab x 48000000 := by rw [← hx]; exact smA_12 (by omega) (by decide) (by decide) tx
  have by' : ab y 48000000 := by rw [← hy]; exact smA_12 (by omega) (by decide) (by decide) ty
  have O : ∀ (d k : Nat), k + d = n.toNat → G cd_X12_weighs Q Y 16 [(0, (2, M)), (1, (0, s)), (2, (0, part)), (3, (0, n)), (4, (1, smA (moA u u v) k)), (6, (1, smA (moA v u v) k)), (8, (0, (k : Int)))] [] ε μ := by
    intro d
    induction d with
    | zero =>
      intro k hk'
      apply g_X12_weighs_16
      rw [L.f9.1, L.f9.2.2, hA8, w64_id (show i64 (3 * A) by unfold i64; omega), show k = n.toNat by omega, hx, hy]
      refine fun _ _ _ _ _ _ _ => ⟨fun _ => ⟨L.k, L.f9.2.1, s0, s1, fun v8 e8 v10 e10 => ?_⟩, fun z => absurd z (by omega)⟩
      rw [e8, e10]
      exact weighs_151 H' hA8 hk k0 k4 p0 p1 pk A1 A2 bx by' Mx My hh
    | succ d ih =>
      intro k hk'
      have kk : (0 : Int) ≤ (k : Int) := by omega
      have c1 : ab (smA (moA u u v) (k + 1)) 48000000 := smA_12 (by omega) (by decide) (by decide) tx
      have c2 : ab (smA (moA v u v) (k + 1)) 48000000 := smA_12 (by omega) (by decide) (by decide) ty
      have d1 := abm (bu k kk) (bv (k + 1) (by omega))
      have d2 := abm (bu (k + 1) (by omega)) (bv k kk)
      have s1' := ab_ad (bu k kk) (bu (k + 1) (by omega))
      have s2' := ab_ad (bv k kk) (bv (k + 1) (by omega))
      apply g_X12_weighs_16
      rw [L.f7.1, L.f8.1, L.f7.2.2, L.f8.2.2]
      refine fun _ _ _ _ _ _ _ => ⟨fun z => absurd z (by omega), fun _ v9 e9 => ⟨by omega, fun v10 e10 => ?_⟩⟩
      obtain ⟨q1, q2, x9, y9⟩ := H'.a0 kk (by omega) e9
      obtain ⟨q3, q4, x10, y10⟩ := H'.at (show (0 : Int) ≤ k + 1 by omega) (by omega) e10
      clear e9 e10
      rw [x9, y9, x10, y10]
      refine ⟨L.k, L.f7.2.1, q1, q2, L.f8.2.1, q3, q4, q4, q2, fun v11 e11 => ⟨L.f7.2.1, q3, q4, fun v4 e4 => ⟨L.k, L.f8.2.1, q1, q2, q4, fun v6 e6 v8 e8 => ?_⟩⟩⟩
      rw [w64_ab d1 (by decide), w64_ab d2 (by decide), w64_ab (ab_sub d1 d2) (by decide)] at e11
      have e11' : v11 = tuA u v k := e11
      rw [e11', w32_ab s1' (by decide), show (u k + u (k + 1)) * tuA u v k = moA u u v k from rfl, w64_ab (tx k kk) (by decide)] at e4
      rw [e11', w32_ab s2' (by decide), show (v k + v (k + 1)) * tuA u v k = moA v u v k from rfl, w64_ab (ty k kk) (by decide)] at e6
      have f4 : v4 = smA (moA u u v) (k + 1) := by rw [e4]; exact w64_ab c1 (by decide)
      have f6 : v6 = smA (moA v u v) (k + 1) := by rw [e6]; exact w64_ab c2 (by decide)
      have f8 : v8 = ((k + 1 : Nat) : Int) := by rw [e8, w1_id kk (by omega)]; omega
      rw [f4, f6, f8]
      clear e4 e6 e8 f4 f6 f8 e11 e11'
      exact ih (k + 1) (by omega)
  apply e_X12_weighs
  rw [L.f6.1, L.f6.2.2, hn]
  refine fun _ _ _ => ⟨L.k, L.f6.2.1, s0, s1, fun v3 e3 v4 e4 v6 e6 v8 e8 => ?_⟩
  rw [e3, e4, e6, e8]
  exact O n.toNat 0 (by omega)
