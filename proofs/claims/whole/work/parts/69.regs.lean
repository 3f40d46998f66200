/-! ===== registers by name; bounds (by regs.py) ===== -/
theorem RG.g0 {ε : m_E} {μ : m_M} {M : Int} {R : Int → Int} (H : RG ε μ M R) : μ (M + 31) 0 = M + 32 := H.2.2.1 (31, 0, 32) (by decide)
theorem RG.g1 {ε : m_E} {μ : m_M} {M : Int} {R : Int → Int} (H : RG ε μ M R) : μ (M + 31) 1 = M + 34 := H.2.2.1 (31, 1, 34) (by decide)
theorem RG.g2 {ε : m_E} {μ : m_M} {M : Int} {R : Int → Int} (H : RG ε μ M R) : μ (M + 31) 2 = M + 36 := H.2.2.1 (31, 2, 36) (by decide)
theorem RG.g3 {ε : m_E} {μ : m_M} {M : Int} {R : Int → Int} (H : RG ε μ M R) : μ (M + 31) 3 = M + 38 := H.2.2.1 (31, 3, 38) (by decide)
theorem RG.u0 {ε : m_E} {μ : m_M} {M : Int} {R : Int → Int} (H : RG ε μ M R) : μ (M + 47) 0 = M + 48 := H.2.2.1 (47, 0, 48) (by decide)
theorem RG.u1 {ε : m_E} {μ : m_M} {M : Int} {R : Int → Int} (H : RG ε μ M R) : μ (M + 47) 1 = M + 50 := H.2.2.1 (47, 1, 50) (by decide)
theorem RG.u2 {ε : m_E} {μ : m_M} {M : Int} {R : Int → Int} (H : RG ε μ M R) : μ (M + 47) 2 = M + 52 := H.2.2.1 (47, 2, 52) (by decide)
theorem RG.u3 {ε : m_E} {μ : m_M} {M : Int} {R : Int → Int} (H : RG ε μ M R) : μ (M + 47) 3 = M + 54 := H.2.2.1 (47, 3, 54) (by decide)
theorem RG.u4 {ε : m_E} {μ : m_M} {M : Int} {R : Int → Int} (H : RG ε μ M R) : μ (M + 47) 4 = M + 56 := H.2.2.1 (47, 4, 56) (by decide)
theorem RG.u5 {ε : m_E} {μ : m_M} {M : Int} {R : Int → Int} (H : RG ε μ M R) : μ (M + 47) 5 = M + 58 := H.2.2.1 (47, 5, 58) (by decide)
theorem RG.l0 {ε : m_E} {μ : m_M} {M : Int} {R : Int → Int} (H : RG ε μ M R) : μ (M + 60) 0 = M + 61 := H.2.2.1 (60, 0, 61) (by decide)
theorem RG.l1 {ε : m_E} {μ : m_M} {M : Int} {R : Int → Int} (H : RG ε μ M R) : μ (M + 60) 1 = M + 63 := H.2.2.1 (60, 1, 63) (by decide)
theorem RG.l2 {ε : m_E} {μ : m_M} {M : Int} {R : Int → Int} (H : RG ε μ M R) : μ (M + 60) 2 = M + 65 := H.2.2.1 (60, 2, 65) (by decide)
theorem RG.l3 {ε : m_E} {μ : m_M} {M : Int} {R : Int → Int} (H : RG ε μ M R) : μ (M + 60) 3 = M + 67 := H.2.2.1 (60, 3, 67) (by decide)
theorem RG.l4 {ε : m_E} {μ : m_M} {M : Int} {R : Int → Int} (H : RG ε μ M R) : μ (M + 60) 4 = M + 69 := H.2.2.1 (60, 4, 69) (by decide)
theorem RG.l5 {ε : m_E} {μ : m_M} {M : Int} {R : Int → Int} (H : RG ε μ M R) : μ (M + 60) 5 = M + 71 := H.2.2.1 (60, 5, 71) (by decide)
theorem RG.e0 {ε : m_E} {μ : m_M} {M : Int} {R : Int → Int} (H : RG ε μ M R) : μ (M + 73) 0 = M + 74 := H.2.2.1 (73, 0, 74) (by decide)
theorem RG.e1 {ε : m_E} {μ : m_M} {M : Int} {R : Int → Int} (H : RG ε μ M R) : μ (M + 73) 1 = M + 76 := H.2.2.1 (73, 1, 76) (by decide)
theorem RG.e2 {ε : m_E} {μ : m_M} {M : Int} {R : Int → Int} (H : RG ε μ M R) : μ (M + 73) 2 = M + 78 := H.2.2.1 (73, 2, 78) (by decide)
theorem RG.e3 {ε : m_E} {μ : m_M} {M : Int} {R : Int → Int} (H : RG ε μ M R) : μ (M + 73) 3 = M + 80 := H.2.2.1 (73, 3, 80) (by decide)
theorem RG.e4 {ε : m_E} {μ : m_M} {M : Int} {R : Int → Int} (H : RG ε μ M R) : μ (M + 73) 4 = M + 82 := H.2.2.1 (73, 4, 82) (by decide)
theorem RG.e5 {ε : m_E} {μ : m_M} {M : Int} {R : Int → Int} (H : RG ε μ M R) : μ (M + 73) 5 = M + 84 := H.2.2.1 (73, 5, 84) (by decide)
theorem RG.e6 {ε : m_E} {μ : m_M} {M : Int} {R : Int → Int} (H : RG ε μ M R) : μ (M + 73) 6 = M + 86 := H.2.2.1 (73, 6, 86) (by decide)
theorem RG.t0 {ε : m_E} {μ : m_M} {M : Int} {R : Int → Int} (H : RG ε μ M R) : μ (M + 91) 0 = M + 92 := H.2.2.1 (91, 0, 92) (by decide)
theorem RG.t1 {ε : m_E} {μ : m_M} {M : Int} {R : Int → Int} (H : RG ε μ M R) : μ (M + 91) 1 = M + 94 := H.2.2.1 (91, 1, 94) (by decide)
theorem RG.t2 {ε : m_E} {μ : m_M} {M : Int} {R : Int → Int} (H : RG ε μ M R) : μ (M + 91) 2 = M + 96 := H.2.2.1 (91, 2, 96) (by decide)
theorem RG.t3 {ε : m_E} {μ : m_M} {M : Int} {R : Int → Int} (H : RG ε μ M R) : μ (M + 91) 3 = M + 98 := H.2.2.1 (91, 3, 98) (by decide)
theorem RG.t4 {ε : m_E} {μ : m_M} {M : Int} {R : Int → Int} (H : RG ε μ M R) : μ (M + 91) 4 = M + 100 := H.2.2.1 (91, 4, 100) (by decide)
theorem RG.b32 {ε : m_E} {μ : m_M} {M : Int} {R : Int → Int} (H : RG ε μ M R) : kd ε (M + 32) = 10 := (H.2.1 32 (by decide)).1
theorem RG.b34 {ε : m_E} {μ : m_M} {M : Int} {R : Int → Int} (H : RG ε μ M R) : kd ε (M + 34) = 10 := (H.2.1 34 (by decide)).1
theorem RG.b36 {ε : m_E} {μ : m_M} {M : Int} {R : Int → Int} (H : RG ε μ M R) : kd ε (M + 36) = 10 := (H.2.1 36 (by decide)).1
theorem RG.b38 {ε : m_E} {μ : m_M} {M : Int} {R : Int → Int} (H : RG ε μ M R) : kd ε (M + 38) = 10 := (H.2.1 38 (by decide)).1
theorem RG.b40 {ε : m_E} {μ : m_M} {M : Int} {R : Int → Int} (H : RG ε μ M R) : kd ε (M + 40) = 10 := (H.2.1 40 (by decide)).1
theorem RG.b42 {ε : m_E} {μ : m_M} {M : Int} {R : Int → Int} (H : RG ε μ M R) : kd ε (M + 42) = 10 := (H.2.1 42 (by decide)).1
theorem RG.b48 {ε : m_E} {μ : m_M} {M : Int} {R : Int → Int} (H : RG ε μ M R) : kd ε (M + 48) = 10 := (H.2.1 48 (by decide)).1
theorem RG.b50 {ε : m_E} {μ : m_M} {M : Int} {R : Int → Int} (H : RG ε μ M R) : kd ε (M + 50) = 10 := (H.2.1 50 (by decide)).1
theorem RG.b52 {ε : m_E} {μ : m_M} {M : Int} {R : Int → Int} (H : RG ε μ M R) : kd ε (M + 52) = 10 := (H.2.1 52 (by decide)).1
theorem RG.b54 {ε : m_E} {μ : m_M} {M : Int} {R : Int → Int} (H : RG ε μ M R) : kd ε (M + 54) = 10 := (H.2.1 54 (by decide)).1
theorem RG.b56 {ε : m_E} {μ : m_M} {M : Int} {R : Int → Int} (H : RG ε μ M R) : kd ε (M + 56) = 10 := (H.2.1 56 (by decide)).1
theorem RG.b58 {ε : m_E} {μ : m_M} {M : Int} {R : Int → Int} (H : RG ε μ M R) : kd ε (M + 58) = 10 := (H.2.1 58 (by decide)).1
theorem RG.b61 {ε : m_E} {μ : m_M} {M : Int} {R : Int → Int} (H : RG ε μ M R) : kd ε (M + 61) = 10 := (H.2.1 61 (by decide)).1
theorem RG.b63 {ε : m_E} {μ : m_M} {M : Int} {R : Int → Int} (H : RG ε μ M R) : kd ε (M + 63) = 10 := (H.2.1 63 (by decide)).1
theorem RG.b65 {ε : m_E} {μ : m_M} {M : Int} {R : Int → Int} (H : RG ε μ M R) : kd ε (M + 65) = 10 := (H.2.1 65 (by decide)).1
theorem RG.b67 {ε : m_E} {μ : m_M} {M : Int} {R : Int → Int} (H : RG ε μ M R) : kd ε (M + 67) = 10 := (H.2.1 67 (by decide)).1
theorem RG.b69 {ε : m_E} {μ : m_M} {M : Int} {R : Int → Int} (H : RG ε μ M R) : kd ε (M + 69) = 10 := (H.2.1 69 (by decide)).1
theorem RG.b71 {ε : m_E} {μ : m_M} {M : Int} {R : Int → Int} (H : RG ε μ M R) : kd ε (M + 71) = 10 := (H.2.1 71 (by decide)).1
theorem RG.b74 {ε : m_E} {μ : m_M} {M : Int} {R : Int → Int} (H : RG ε μ M R) : kd ε (M + 74) = 10 := (H.2.1 74 (by decide)).1
theorem RG.b76 {ε : m_E} {μ : m_M} {M : Int} {R : Int → Int} (H : RG ε μ M R) : kd ε (M + 76) = 10 := (H.2.1 76 (by decide)).1
theorem RG.b78 {ε : m_E} {μ : m_M} {M : Int} {R : Int → Int} (H : RG ε μ M R) : kd ε (M + 78) = 10 := (H.2.1 78 (by decide)).1
theorem RG.b80 {ε : m_E} {μ : m_M} {M : Int} {R : Int → Int} (H : RG ε μ M R) : kd ε (M + 80) = 10 := (H.2.1 80 (by decide)).1
theorem RG.b82 {ε : m_E} {μ : m_M} {M : Int} {R : Int → Int} (H : RG ε μ M R) : kd ε (M + 82) = 10 := (H.2.1 82 (by decide)).1
theorem RG.b84 {ε : m_E} {μ : m_M} {M : Int} {R : Int → Int} (H : RG ε μ M R) : kd ε (M + 84) = 10 := (H.2.1 84 (by decide)).1
theorem RG.b86 {ε : m_E} {μ : m_M} {M : Int} {R : Int → Int} (H : RG ε μ M R) : kd ε (M + 86) = 10 := (H.2.1 86 (by decide)).1
theorem RG.b92 {ε : m_E} {μ : m_M} {M : Int} {R : Int → Int} (H : RG ε μ M R) : kd ε (M + 92) = 10 := (H.2.1 92 (by decide)).1
theorem RG.b94 {ε : m_E} {μ : m_M} {M : Int} {R : Int → Int} (H : RG ε μ M R) : kd ε (M + 94) = 10 := (H.2.1 94 (by decide)).1
theorem RG.b96 {ε : m_E} {μ : m_M} {M : Int} {R : Int → Int} (H : RG ε μ M R) : kd ε (M + 96) = 10 := (H.2.1 96 (by decide)).1
theorem RG.b98 {ε : m_E} {μ : m_M} {M : Int} {R : Int → Int} (H : RG ε μ M R) : kd ε (M + 98) = 10 := (H.2.1 98 (by decide)).1
theorem RG.b100 {ε : m_E} {μ : m_M} {M : Int} {R : Int → Int} (H : RG ε μ M R) : kd ε (M + 100) = 10 := (H.2.1 100 (by decide)).1
theorem nbc {M o : Int} (h : ∀ r ∈ lm_b, o ≠ r ∧ o ≠ r + 1) : ¬ BC M (M + o) := by
  rintro ⟨r, hr, e⟩
  have := h r hr
  omega
theorem nbc0 {M : Int} : ¬ BC M M := by
  rintro ⟨r, hr, e⟩
  have : ∀ r ∈ lm_b, (0 : Int) < r := by decide
  have := this r hr
  omega
theorem w32_1 : w32 1 = 1 := by decide
theorem w32_2 : w32 2 = 2 := by decide
theorem w32_4 : w32 4 = 4 := by decide
theorem w32_5 : w32 5 = 5 := by decide
def bd (x : Int) (k : Nat) : Prop := x.natAbs < 2 ^ k
theorem bd_mul {x y : Int} {a b : Nat} (h : bd x a) (k : bd y b) : bd (x * y) (a + b) := by
  unfold bd at *
  rw [Int.natAbs_mul, Nat.pow_add]
  exact Nat.mul_lt_mul_of_lt_of_le h (Nat.le_of_lt k) (Nat.lt_of_le_of_lt (Nat.zero_le _) k)
theorem bd_mono {x : Int} {a b : Nat} (h : bd x a) (hab : a ≤ b) : bd x b := Nat.lt_of_lt_of_le h (Nat.pow_le_pow_right (by decide) hab)
theorem bd_add {x y : Int} {a : Nat} (h : bd x a) (k : bd y a) : bd (x + y) (a + 1) := by
  unfold bd at *
  rw [Nat.pow_succ]
  have := Int.natAbs_add_le x y
  omega
theorem bd_neg {x : Int} {a : Nat} (h : bd x a) : bd (-x) a := by unfold bd at *; rw [Int.natAbs_neg]; exact h
theorem bd_le {x y : Int} {a : Nat} (h : bd x a) (hy : y.natAbs ≤ x.natAbs) : bd y a := Nat.lt_of_le_of_lt hy h
theorem pb_of {z : Nat} {k : Nat} (h : z < 2 ^ k) (hk : k ≤ 384) : (z : Int) < PB 12 := by
  have h1 : z < 2 ^ 384 := Nat.lt_of_lt_of_le h (Nat.pow_le_pow_right (by decide) hk)
  have h2 : (z : Int) < ((2 ^ 384 : Nat) : Int) := Int.ofNat_lt.mpr h1
  rw [Int.natCast_pow] at h2
  rw [PB_2]
  exact h2
theorem pb_mul {x y : Int} {a b : Nat} (h : bd x a) (k : bd y b) (hab : a + b ≤ 384) : ((x.natAbs : Nat) : Int) * ((y.natAbs : Nat) : Int) < PB 12 := by
  have := pb_of (bd_mul h k) hab
  rw [Int.natAbs_mul, Int.natCast_mul] at this
  exact this
theorem pb_add {x y : Int} {a : Nat} (h : bd x a) (k : bd y a) (ha : a + 1 ≤ 384) : ((x.natAbs : Nat) : Int) + ((y.natAbs : Nat) : Int) < PB 12 := by
  have : x.natAbs + y.natAbs < 2 ^ (a + 1) := by
    unfold bd at *
    rw [Nat.pow_succ]
    omega
  have := pb_of this ha
  rw [Int.natCast_add] at this
  exact this
theorem pb_two {x : Int} {a : Nat} (h : bd x a) (ha : a + 1 ≤ 384) : ((x.natAbs : Nat) : Int) * 2 < PB 12 := by
  have := pb_add h h ha
  omega
theorem RW.fb {μ μ' : m_M} {M n : Int} {h v m c : Int → Int} (H : RW μ M n h v m c) (f : FB M μ μ') : RW μ' M n h v m c := by
  obtain ⟨h1, h2, h3, h4, h5⟩ := H
  exact ⟨(f M 35 nbc0).trans h1, fun k => (f _ k (nbc (by decide))).trans (h2 k), fun k => (f _ k (nbc (by decide))).trans (h3 k), fun k => (f _ k (nbc (by decide))).trans (h4 k), fun k => (f _ k (nbc (by decide))).trans (h5 k)⟩
theorem RV.fb {μ μ' : m_M} {M T : Int} {vh vv v1 : Int → Int} (H : RV μ M T vh vv v1) (f : FB M μ μ') : RV μ' M T vh vv v1 := by
  obtain ⟨h1, h2, h3, h4⟩ := H
  exact ⟨(f M 42 nbc0).trans h1, fun k => (f _ k (nbc (by decide))).trans (h2 k), fun k => (f _ k (nbc (by decide))).trans (h3 k), fun k => (f _ k (nbc (by decide))).trans (h4 k)⟩
