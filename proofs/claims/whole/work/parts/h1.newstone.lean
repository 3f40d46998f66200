set_option maxHeartbeats 1000000
/-! ===== making a stone ===== -/
def wtw (kind part area : Int) : Int := fwt kind area - fwt kind area * part / 100
theorem fwt_4 {kind area : Int} (a0 : 0 ≤ area) : 4 * fwt kind area ≤ 11 * area := by
  unfold fwt dnm dnh
  by_cases a : kind = 1
  · rw [if_pos a, if_pos a]; omega
  · rw [if_neg a, if_neg a]
    by_cases b : kind < 3
    · rw [if_pos b, if_pos b]; omega
    · rw [if_neg b, if_neg b]; omega
theorem wtw_rng {kind part area : Int} (p0 : 0 ≤ part) (p1 : part ≤ 99) (a0 : 0 ≤ area) (a2 : area ≤ 240000) : 0 ≤ wtw kind part area ∧ wtw kind part area ≤ fwt kind area := by
  have f := fwt_rng (kind := kind) a0 a2
  unfold wtw
  generalize fwt kind area = F at *
  have h1 : 0 ≤ F * part := Int.mul_nonneg f.1 p0
  have h2 : F * part ≤ F * 99 := Int.mul_le_mul_of_nonneg_left p1 f.1
  generalize F * part = P at *
  omega
theorem sp_X7_densityOf {Q Y : m_Po} {ε : m_E} {μ : m_M} {kind : Int} (k0 : 0 ≤ kind) (k4 : kind ≤ 4) (hh : Q (dnb kind) ε μ) : o_X7_densityOf [(0, kind)] ε μ Q Y := by
  apply e_X7_densityOf
  unfold dnb at hh
  refine fun _ _ => ⟨fun z => ?_, fun z => ?_, fun z => ?_, fun z => ?_, fun z => ?_⟩
  · rw [if_pos z] at hh; exact hh
  · rw [if_neg (by omega), if_pos (by omega)] at hh; exact hh
  · rw [if_neg (by omega), if_neg (by omega)] at hh; exact hh
  · rw [if_neg (by omega), if_neg (by omega)] at hh; exact hh
  · rw [if_neg (by omega), if_pos (by omega)] at hh; exact hh
theorem w_part {F part : Int} (f0 : 0 ≤ F) (f1 : F ≤ 660000) (p0 : 0 ≤ part) (p1 : part ≤ 99) : w32 (F - (w32 (Int.tdiv (w32 (F * part)) 100))) = F - F * part / 100 := by
  have h1 : 0 ≤ F * part := Int.mul_nonneg f0 p0
  have h2 : F * part ≤ F * 99 := Int.mul_le_mul_of_nonneg_left p1 f0
  rw [w32_id (show i32 (F * part) by unfold i32; omega), Int.tdiv_eq_ediv_of_nonneg h1]
  generalize F * part = P at *
  rw [w32_id (show i32 (P / 100) by unfold i32; omega), w32_id (show i32 (F - P / 100) by unfold i32; omega)]
theorem sp_X7_weightOf {Q Y : m_Po} {ε : m_E} {μ : m_M} {kind part area : Int} (k0 : 0 ≤ kind) (k4 : kind ≤ 4) (p0 : 0 ≤ part) (p1 : part ≤ 99) (a1 : 1 ≤ area) (a2 : area ≤ 240000) (hh : Q (wtw kind part area) ε μ) : o_X7_weightOf [(0, kind), (0, part), (0, area)] ε μ Q Y := by
  have f := fwt_rng (kind := kind) (show 0 ≤ area by omega) a2
  have g := fwt_all (kind := kind) a1 a2
  apply e_X7_weightOf
  refine fun _ _ _ _ => sp_X7_densityOf k0 k4 ?_
  apply g_X7_weightOf_6
  refine fun _ _ => ⟨g.1, fun v3 e3 => ?_⟩
  rw [g.2] at e3
  rw [e3, w_part f.1 f.2 p0 p1]
  exact hh
theorem fn_fi {ε : m_E} {a i v b j : Int} : fn (efin ε a i v) b j = st (fn ε) a i v b j := rfl
theorem gcd_fac {x l : Int} (l1 : 1 ≤ l) (l2 : l ≤ 720000) : ∃ g p q : Int, ((Int.gcd x l : Nat) : Int) = g ∧ 1 ≤ g ∧ g ≤ 720000 ∧ x = g * p ∧ l = g * q ∧ 1 ≤ q := by
  have d1 : ((Int.gcd x l : Nat) : Int) ∣ x := Int.gcd_dvd_left ..
  have d2 : ((Int.gcd x l : Nat) : Int) ∣ l := Int.gcd_dvd_right ..
  have g1 : 0 < Int.gcd x l := Int.gcd_pos_of_ne_zero_right x (by omega)
  have le := Int.le_of_dvd (by omega) d2
  generalize Int.gcd x l = G at *
  obtain ⟨p, hp⟩ := d1
  obtain ⟨q, hq⟩ := d2
  refine ⟨_, p, q, rfl, by omega, by omega, hp, hq, ?_⟩
  rcases Int.lt_or_le 0 q with z | z
  · omega
  · have := Int.mul_le_mul_of_nonneg_left z (show (0 : Int) ≤ (G : Int) by omega)
    rw [Int.mul_zero] at this
    omega
/-- what a stone's middle and spot are -/
def Mid (x l p q : Int) : Prop := ∃ g : Int, 1 ≤ g ∧ ((Int.gcd x l : Nat) : Int) = g ∧ x = g * p ∧ l = g * q
theorem ab_tdiv {x B l : Int} (h : ab x B) (l1 : 1 ≤ l) (B0 : 0 ≤ B) : ab (Int.tdiv x l) B := by
  unfold ab at *
  rcases Int.lt_or_le x 0 with z | z
  · have h1 : Int.tdiv x l ≤ 0 := by
      have := Int.tdiv_nonneg (show 0 ≤ -x by omega) (show 0 ≤ l by omega)
      rw [Int.neg_tdiv] at this; omega
    have h2 : -x ≥ Int.tdiv (-x) l := Int.tdiv_le_self l (show 0 ≤ -x by omega)
    rw [Int.neg_tdiv] at h2
    omega
  · have h1 := Int.tdiv_nonneg z (show 0 ≤ l by omega)
    have h2 := Int.tdiv_le_self l z
    omega
theorem sp_X7_init {Q Y : m_Po} {ε0 ε : m_E} {μ : m_M} {a kind part C n A x y px qx py qy : Int} {u v : Int → Int} (h0 : 0 < a) (hk : kd ε a = 6) (P : Pt ε μ C n u v) (e : EX ε0 ε) (hb : ∀ b, 0 ≤ kd ε0 b → b < a) (k0 : 0 ≤ kind) (k4 : kind ≤ 4) (p0 : 0 ≤ part) (p1 : part ≤ 99) (hA : smA (tuA u v) n.toNat = A) (A1 : 1 ≤ A) (hx : smA (moA u u v) n.toNat = x) (hy : smA (moA v u v) n.toNat = y) (Mx : Mid x (3 * A) px qx) (My : Mid y (3 * A) py qy)
    (hh : ∀ ε' : m_E, EX ε0 ε' → (∀ b, kd ε' b = kd ε b) → (∀ b, ln ε' b = ln ε b) → (fn ε' a 0 = kind ∧ fn ε' a 1 = C ∧ fn ε' a 2 = A ∧ fn ε' a 3 = wtw kind part A ∧ fn ε' a 4 = Int.tdiv (10 * x) (3 * A) ∧ fn ε' a 5 = px ∧ fn ε' a 6 = qx ∧ fn ε' a 7 = py ∧ fn ε' a 8 = qy) → Q 0 ε' μ) : o_X7_init [(2, a), (0, kind), (0, part), (2, C)] ε μ Q Y := by
  have n12 := P.2.2.2.1
  have bA : ab A 240000 := by rw [← hA]; exact smA_12 (by omega) (by decide) (by decide) (fun i i0 => tuA_ab P.bu P.bv i0)
  have bx : ab x 48000000 := by rw [← hx]; exact smA_12 (by omega) (by decide) (by decide) (fun i i0 => moA_ab P.bu P.bu P.bv i0)
  have by' : ab y 48000000 := by rw [← hy]; exact smA_12 (by omega) (by decide) (by decide) (fun i i0 => moA_ab P.bv P.bu P.bv i0)
  have A2 := bA.2
  have bx' : -48000000 ≤ x ∧ x ≤ 48000000 := bx
  have by2 : -48000000 ≤ y ∧ y ≤ 48000000 := by'
  apply e_X7_init
  refine fun _ _ _ => ⟨h0, hk, fun ε1 e1 => ⟨by rw [e1]; exact hk, fun ε2 e2 => ?_⟩⟩
  have P2 : Pt ε2 μ C n u v := by rw [e2, e1]; exact P
  refine sp_X6_twiceArea P2 ?_
  rw [hA]
  apply g_X7_init_20
  refine fun _ _ _ _ _ => ⟨by rw [e2, e1]; exact hk, fun ε3 e3 => ⟨by rw [e3, e2, e1]; exact hk, ?_⟩⟩
  have f3 : fn ε3 a 2 = A := by
    rw [e3, fn_fi, sx_same]
    by_cases z : 1 < A
    · rw [if_pos z]
    · rw [if_neg z]; omega
  rw [f3]
  refine sp_X7_weightOf k0 k4 p0 p1 A1 A2 ?_
  apply g_X7_init_36
  refine fun _ _ => ⟨by rw [e3, e2, e1]; exact hk, fun ε4 e4 => ?_⟩
  have P4 : Pt ε4 μ C n u v := by rw [e4, e3, e2, e1]; exact P
  refine sp_X6_momentOfX P4 ?_
  rw [hx]
  apply g_X7_init_43
  intro _ _ v4 h4
  refine sp_X6_momentOfY P4 ?_
  rw [hy]
  apply g_X7_init_49
  intro _ _ _ v5 h5
  have f4 : fn ε4 a 2 = A := by rw [e4, fn_fi, sx_oi (by decide)]; exact f3
  rw [f4, w32_id (show i32 (3 * A) by unfold i32; omega)]
  refine ⟨by rw [e4, e3, e2, e1]; exact hk, fun v6 h6 => ?_⟩
  rw [h4, h5, h6]
  obtain ⟨gx, gx1, gxe, ex, lx⟩ := Mx
  obtain ⟨gy, gy1, gye, ey, ly⟩ := My
  have gle : ∀ g q : Int, 1 ≤ g → 3 * A = g * q → g ≤ 720000 := fun g q g1 h => by
    have d := Int.le_of_dvd (show 0 < 3 * A by omega) ⟨q, h⟩
    omega
  have gx2 := gle gx qx gx1 lx
  have gy2 := gle gy qy gy1 ly
  refine sp_X10_commonDivisor (by omega) (by omega) ?_
  rw [gxe, if_pos gx1]
  apply g_X7_init_68
  intro _ _ _ _ _ v7 h7
  rw [w32_id (show i32 gx by unfold i32; omega)] at h7
  refine sp_X10_commonDivisor (by omega) (by omega) ?_
  rw [gye, if_pos gy1]
  apply g_X7_init_80
  intro _ _ _ _ _ _ v8 h8
  rw [w32_id (show i32 gy by unfold i32; omega)] at h8
  rw [h7, h8]
  have dv : ∀ g p z : Int, 1 ≤ g → z = g * p → -48000000 ≤ z → z ≤ 48000000 → w32 (Int.tdiv z g) = p := fun g p z g1 h z0 z1 => by
    have q : Int.tdiv z g = p := by rw [h, Int.mul_tdiv_cancel_left _ (by omega)]
    have b : ab (Int.tdiv z g) 48000000 := ab_tdiv ⟨z0, z1⟩ g1 (by decide)
    rw [w32_ab b (by decide), q]
  have kk : kd ε4 a = 6 := by rw [e4, e3, e2, e1]; exact hk
  refine ⟨fun z => z, fun t1 ht1 => ⟨kk, fun ε5 e5 => ⟨fun z => z, fun t2 ht2 => ⟨by rw [e5]; exact kk, fun ε6 e6 => ⟨fun z => z, fun t3 ht3 => ⟨by rw [e6, e5]; exact kk, fun ε7 e7 => ⟨fun z => z, fun t4 ht4 => ⟨by rw [e7, e6, e5]; exact kk, fun ε8 e8 => ⟨fun z => z, fun t5 ht5 => ⟨by rw [e8, e7, e6, e5]; exact kk, fun ε9 e9 => ?_⟩⟩⟩⟩⟩⟩⟩⟩⟩⟩
  rw [if_neg (by omega), dv gx px x gx1 ex (by omega) (by omega)] at ht1
  rw [if_neg (by omega), dv gx qx (3 * A) gx1 lx (by omega) (by omega)] at ht2
  rw [if_neg (by omega), dv gy py y gy1 ey (by omega) (by omega)] at ht3
  rw [if_neg (by omega), dv gy qy (3 * A) gy1 ly (by omega) (by omega)] at ht4
  rw [if_neg (by omega), w64_id (show i64 (10 * x) by unfold i64; omega)] at ht5
  have b5 : ab (Int.tdiv (10 * x) (3 * A)) 480000000 := ab_tdiv (by unfold ab; omega) (by omega) (by decide)
  rw [w64_ab b5 (by decide), w32_ab b5 (by decide)] at ht5
  have hb' : kd ε0 a < 0 ∨ ∀ b, 0 ≤ kd ε0 b → b < a := Or.inr hb
  refine hh ε9 ?_ ?_ ?_ ?_
  · rw [e9]
    refine ex_fi ?_ hb'
    rw [e8]
    refine ex_fi ?_ hb'
    rw [e7]
    refine ex_fi ?_ hb'
    rw [e6]
    refine ex_fi ?_ hb'
    rw [e5]
    refine ex_fi ?_ hb'
    rw [e4]
    refine ex_fi ?_ hb'
    rw [e3]
    refine ex_fi ?_ hb'
    rw [e2]
    refine ex_fi ?_ hb'
    rw [e1]
    exact ex_fi e hb'
  · intro b
    rw [e9, e8, e7, e6, e5, e4, e3, e2, e1]; rfl
  · intro b
    rw [e9, e8, e7, e6, e5, e4, e3, e2, e1]; rfl
  · have g9 : ∀ j, j ≠ 4 → j ≠ 5 → j ≠ 6 → j ≠ 7 → j ≠ 8 → fn ε9 a j = fn ε4 a j := fun j j4 j5 j6 j7 j8 => by
      rw [e9, fn_fi, sx_oi j4, e8, fn_fi, sx_oi j8, e7, fn_fi, sx_oi j7, e6, fn_fi, sx_oi j6, e5, fn_fi, sx_oi j5]
    refine ⟨?_, ?_, ?_, ?_, ?_, ?_, ?_, ?_, ?_⟩
    · rw [g9 0 (by decide) (by decide) (by decide) (by decide) (by decide), e4, fn_fi, sx_oi (by decide), e3, fn_fi, sx_oi (by decide), e2, fn_fi, sx_oi (by decide), e1, fn_fi, sx_same]
    · rw [g9 1 (by decide) (by decide) (by decide) (by decide) (by decide), e4, fn_fi, sx_oi (by decide), e3, fn_fi, sx_oi (by decide), e2, fn_fi, sx_same]
    · rw [g9 2 (by decide) (by decide) (by decide) (by decide) (by decide)]; exact f4
    · rw [g9 3 (by decide) (by decide) (by decide) (by decide) (by decide), e4, fn_fi, sx_same]
    · rw [e9, fn_fi, sx_same, ht5]
    · rw [e9, fn_fi, sx_oi (by decide), e8, fn_fi, sx_oi (by decide), e7, fn_fi, sx_oi (by decide), e6, fn_fi, sx_oi (by decide), e5, fn_fi, sx_same, ht1]
    · rw [e9, fn_fi, sx_oi (by decide), e8, fn_fi, sx_oi (by decide), e7, fn_fi, sx_oi (by decide), e6, fn_fi, sx_same, ht2]
    · rw [e9, fn_fi, sx_oi (by decide), e8, fn_fi, sx_oi (by decide), e7, fn_fi, sx_same, ht3]
    · rw [e9, fn_fi, sx_oi (by decide), e8, fn_fi, sx_same, ht4]
