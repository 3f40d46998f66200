set_option maxHeartbeats 1000000
/-! ===== weights: a whole number times a density, cut ===== -/
theorem fk_ex : ∀ (d K : Nat), 8388608 ≤ K * 2 ^ d → K < 8388608 → ∃ k : Nat, 1 ≤ k ∧ k ≤ d ∧ 8388608 ≤ K * 2 ^ k ∧ K * 2 ^ k < 16777216 := by
  intro d
  induction d with
  | zero => intro K h h'; rw [Nat.pow_zero, Nat.mul_one] at h; omega
  | succ d ih =>
    intro K h h'
    by_cases c : 8388608 ≤ K * 2 ^ d
    · obtain ⟨k, k1, k2, k3⟩ := ih K c h'
      exact ⟨k, k1, by omega, k3⟩
    · have e : K * 2 ^ (d + 1) = 2 * (K * 2 ^ d) := by rw [Nat.pow_succ, ← Nat.mul_assoc, Nat.mul_comm]
      exact ⟨d + 1, by omega, by omega, h, by omega⟩
theorem fk_fits {K k : Nat} {h : Nat} (hh : h ≤ 3) (k23 : k ≤ 23) (a : 8388608 ≤ K * 2 ^ k) (b : K * 2 ^ k < 16777216) : Jvm.FP.Core.fits Jvm.FP.Core.b32 (.fin false (K * 2 ^ k) (-((h : Int) + k))) := by
  refine ⟨?_, ?_, ?_, Or.inr ?_⟩
  · show K * 2 ^ k < 2 ^ 24
    omega
  · have : Jvm.FP.Core.b32.qmin = -149 := by decide
    rw [this]; omega
  · have : Jvm.FP.Core.b32.qmax = 104 := by decide
    rw [this]; omega
  · have : Jvm.FP.Core.b32.tails = 8388608 := by decide
    rw [this]; exact a
/-- a whole number as a float -/
theorem fk_i2f {N : Nat} (n1 : 1 ≤ N) (n2 : N < 8388608) : ∃ k : Nat, 1 ≤ k ∧ k ≤ 23 ∧ 8388608 ≤ N * 2 ^ k ∧ N * 2 ^ k < 16777216 ∧ Jvm.FP.Core.val32 (FP.i2f (Int32.ofInt (N : Int))) = .fin false (N * 2 ^ k) (-(k : Int)) := by
  obtain ⟨k, k1, k2, k3, k4⟩ := fk_ex 23 N (by omega) n2
  refine ⟨k, k1, k2, k3, k4, ?_⟩
  have e := Jvm.FP.Core.val32_i2f (Int32.ofInt (N : Int))
  rw [Int32.toInt_ofInt_of_le (by omega) (by omega)] at e
  have f := fk_fits (K := N) (k := k) (h := 0) (by decide) k2 k3 k4
  rw [show -(((0 : Nat) : Int) + k) = -(k : Int) by omega] at f
  refine e.trans ?_
  have d0 : Jvm.FP.Core.ofInt (N : Int) = .fin false N 0 := by
    unfold Jvm.FP.Core.ofInt
    rw [show decide ((N : Int) < 0) = false by exact decide_eq_false (by omega)]
    rfl
  rw [d0]
  show Jvm.FP.Core.roundRatio Jvm.FP.Core.b32 false N 1 0 = _
  refine Jvm.FP.Core.roundRatio_exact Jvm.FP.Core.good_b32 (by decide) f ?_
  rw [show ((0 : Int) - -(k : Int)).toNat = k by omega, show (-(k : Int) - 0).toNat = 0 by omega, Nat.pow_zero, Nat.mul_one, Nat.mul_one]
/-- a float times a density -/
theorem fk_mul {N m h : Nat} {D : UInt32} (n1 : 1 ≤ N) (n2 : N * m < 8388608) (m1 : 1 ≤ m) (hh : h ≤ 3) (hD : Jvm.FP.Core.val32 D = .fin false (m * 2 ^ 20) (-(20 + (h : Int)))) : ∃ k : Nat, k ≤ 23 ∧ Jvm.FP.Core.val32 (FP.fmul (FP.i2f (Int32.ofInt (N : Int))) D) = .fin false (N * m * 2 ^ k) (-((h : Int) + k)) := by
  have nN : N < 8388608 := by
    have : N * 1 ≤ N * m := Nat.mul_le_mul_left N m1
    omega
  have nM : 1 ≤ N * m := Nat.mul_pos n1 m1
  obtain ⟨k, k1, k2, k3, k4, ev⟩ := fk_i2f n1 nN
  obtain ⟨k', l1, l2, l3, l4⟩ := fk_ex 23 (N * m) (by omega) n2
  have f := fk_fits hh l2 l3 l4
  have le : k' ≤ k := by
    rcases Nat.lt_or_ge k k' with q | q
    · exfalso
      have p1 : 2 ^ (k + 1) ≤ 2 ^ k' := Nat.pow_le_pow_right (by decide) q
      have p2 : N * 2 ^ (k + 1) ≤ N * m * 2 ^ k' := Nat.mul_le_mul (Nat.le_mul_of_pos_right N m1) p1
      have p3 : N * 2 ^ (k + 1) = 2 * (N * 2 ^ k) := by rw [Nat.pow_succ, ← Nat.mul_assoc, Nat.mul_comm]
      omega
    · exact q
  refine ⟨k', l2, ?_⟩
  have e := Jvm.FP.Core.val32_fmul (FP.i2f (Int32.ofInt (N : Int))) D
  rw [ev, hD] at e
  refine e.trans ?_
  show Jvm.FP.Core.roundRatio Jvm.FP.Core.b32 false (N * 2 ^ k * (m * 2 ^ 20)) 1 (-(k : Int) + -(20 + (h : Int))) = _
  refine Jvm.FP.Core.roundRatio_exact Jvm.FP.Core.good_b32 (by decide) f ?_
  rw [show (-(k : Int) + -(20 + (h : Int)) - -((h : Int) + k')).toNat = 0 by omega, show (-((h : Int) + k') - (-(k : Int) + -(20 + (h : Int)))).toNat = k + 20 - k' by omega, Nat.pow_zero, Nat.mul_one, Nat.mul_one]
  have p : 2 ^ k' * 2 ^ (k + 20 - k') = 2 ^ k * 2 ^ 20 := by
    rw [← Nat.pow_add, ← Nat.pow_add, show k' + (k + 20 - k') = k + 20 by omega]
  calc N * 2 ^ k * (m * 2 ^ 20) = N * m * (2 ^ k * 2 ^ 20) := by
        rw [Nat.mul_assoc, ← Nat.mul_assoc (2 ^ k) m, Nat.mul_comm (2 ^ k) m, Nat.mul_assoc m, ← Nat.mul_assoc N m]
    _ = N * m * 2 ^ k' * 2 ^ (k + 20 - k') := by rw [← p, ← Nat.mul_assoc (N * m)]
theorem fk_nan {a : UInt32} (h : Jvm.FP.Core.val32 a ≠ .nan) : vf_n32 a := by
  have := (Jvm.FP.Core.ne_nan32 a).mp h
  unfold vf_n32
  rw [UInt32.le_iff_toNat_le, UInt32.toNat_and]
  show a.toNat &&& (2 ^ 31 - 1) ≤ 2139095040
  rw [Nat.and_two_pow_sub_one_eq_mod]
  exact this
theorem fk_cut {a : UInt32} {K k h : Nat} (hv : Jvm.FP.Core.val32 a = .fin false (K * 2 ^ k) (-((h : Int) + k))) (hK : K < 8388608) : (FP.f2i a).toInt = ((K / 2 ^ h : Nat) : Int) := by
  have hd : K * 2 ^ k * 2 ^ (-((h : Int) + k)).toNat / 2 ^ (-(-((h : Int) + k))).toNat = K / 2 ^ h := by
    rw [show (-((h : Int) + k)).toNat = 0 by omega, show (-(-((h : Int) + k))).toNat = h + k by omega, Nat.pow_zero, Nat.mul_one, Nat.pow_add, Nat.mul_div_mul_right _ _ (Nat.two_pow_pos k)]
  have le : K / 2 ^ h ≤ K := Nat.div_le_self _ _
  show (Int32.ofInt (Jvm.FP.Core.toInt (-2 ^ 31) (2 ^ 31 - 1) (Jvm.FP.Core.val32 a))).toInt = _
  rw [hv]
  show (Int32.ofInt (max (-2 ^ 31) (min (2 ^ 31 - 1) ((K * 2 ^ k * 2 ^ (-((h : Int) + k)).toNat / 2 ^ (-(-((h : Int) + k))).toNat : Nat) : Int)))).toInt = _
  rw [hd]
  generalize K / 2 ^ h = W at le
  rw [show max (-2 ^ 31) (min (2 ^ 31 - 1) ((W : Nat) : Int)) = ((W : Nat) : Int) by omega, Int32.toInt_ofInt_of_le (by omega) (by omega)]
/-- the density of a kind, as a float and as a fraction -/
def dnb (kind : Int) : Int := if kind = 1 then 1076887552 else if kind < 3 then 1075838976 else 1070596096
def dnm (kind : Int) : Nat := if kind = 1 then 11 else if kind < 3 then 10 else 13
def dnh (kind : Int) : Nat := if kind = 1 then 2 else if kind < 3 then 2 else 3
def fwt (kind area : Int) : Int := ((area.toNat * dnm kind / 2 ^ dnh kind : Nat) : Int)
theorem fk_val (kind : Int) : Jvm.FP.Core.val32 (UInt32.ofNat (dnb kind).toNat) = .fin false (dnm kind * 2 ^ 20) (-(20 + (dnh kind : Int))) := by
  unfold dnb dnm dnh
  by_cases a : kind = 1
  · rw [if_pos a, if_pos a, if_pos a]; decide +kernel
  · rw [if_neg a, if_neg a, if_neg a]
    by_cases b : kind < 3
    · rw [if_pos b, if_pos b, if_pos b]; decide +kernel
    · rw [if_neg b, if_neg b, if_neg b]; decide +kernel
theorem dnm_le (kind : Int) : 1 ≤ dnm kind ∧ dnm kind ≤ 13 := by
  unfold dnm; split
  · decide
  · split <;> decide
theorem dnh_le (kind : Int) : 2 ≤ dnh kind ∧ dnh kind ≤ 3 := by
  unfold dnh; split
  · decide
  · split <;> decide
theorem fwt_all {kind area : Int} (a1 : 1 ≤ area) (a2 : area ≤ 240000) : vf_n32 (FP.fmul (UInt32.ofNat (Int.toNat (o_i2f area))) (UInt32.ofNat (Int.toNat (dnb kind)))) ∧ o_f2i (o_fmul (o_i2f area) (dnb kind)) = fwt kind area := by
  have m1 := dnm_le kind
  have h3 := dnh_le kind
  have le : area.toNat * dnm kind ≤ 240000 * 13 := Nat.mul_le_mul (by omega) m1.2
  obtain ⟨k, k23, e⟩ := fk_mul (N := area.toNat) (m := dnm kind) (h := dnh kind) (by omega) (by omega) m1.1 h3.2 (fk_val kind)
  rw [show ((area.toNat : Nat) : Int) = area by omega] at e
  have i : UInt32.ofNat (Int.toNat (o_i2f area)) = FP.i2f (Int32.ofInt area) := by
    unfold o_i2f
    rw [Int.toNat_natCast, UInt32.ofNat_toNat]
  have o : UInt32.ofNat (Int.toNat (o_fmul (o_i2f area) (dnb kind))) = FP.fmul (FP.i2f (Int32.ofInt area)) (UInt32.ofNat (Int.toNat (dnb kind))) := by
    unfold o_fmul
    rw [Int.toNat_natCast, UInt32.ofNat_toNat, i]
  refine ⟨?_, ?_⟩
  · rw [i]
    exact fk_nan (by rw [e]; exact fun z => by cases z)
  · unfold o_f2i
    rw [o]
    exact fk_cut e (by omega)
theorem fwt_rng {kind area : Int} (a1 : 0 ≤ area) (a2 : area ≤ 240000) : 0 ≤ fwt kind area ∧ fwt kind area ≤ 660000 := by
  refine ⟨Int.natCast_nonneg _, ?_⟩
  unfold fwt dnm dnh
  by_cases a : kind = 1
  · rw [if_pos a, if_pos a]; omega
  · rw [if_neg a, if_neg a]
    by_cases b : kind < 3
    · rw [if_pos b, if_pos b]; omega
    · rw [if_neg b, if_neg b]; omega
