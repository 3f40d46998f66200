/-! ===== the reference's rows of two unknowns ===== -/
def ab (x B : Int) : Prop := -B ≤ x ∧ x ≤ B
def gp (m : Int → Int) (i j : Int) : Int := Int.tdiv (-(m j)) (Int.gcd (m i) (m j))
def gq (m : Int → Int) (i j : Int) : Int := Int.tdiv (m i) (Int.gcd (m i) (m j))
theorem gpq {m : Int → Int} {i j : Int} (hi : 0 < m i) (hj : m j < 0) : 0 < gp m i j ∧ 0 < gq m i j ∧ gp m i j * m i + gq m i j * m j = 0 ∧ gp m i j ≤ -(m j) ∧ gq m i j ≤ m i := by
  have lo := LO.div (n := m j) hi
  rw [Int.gcd_comm] at lo
  obtain ⟨l1, _, l3, l4, l5⟩ := lo
  unfold gp gq
  rw [Int.neg_tdiv]
  generalize Int.tdiv (m j) (Int.gcd (m i) (m j)) = x at *
  generalize Int.tdiv (m i) (Int.gcd (m i) (m j)) = y at *
  have : x < 0 := by
    rcases Int.lt_or_le x 0 with q | q
    · exact q
    · exfalso
      have a := Int.mul_nonneg q (Int.le_of_lt hi)
      have b := Int.mul_pos (show 0 < -(m j) by omega) l1
      rw [Int.neg_mul] at b
      omega
  refine ⟨by omega, l1, by grind, by omega, by omega⟩
def Tw2 (h v m c : Int → Int) (Z : Int → Prop) (D : Int → Int → Prop) (x y z : Int) : Prop := (∃ i, Z i ∧ m i = 0 ∧ x = h i ∧ y = v i ∧ z = c i) ∨ (∃ i j p q, D i j ∧ 0 < m i ∧ m j < 0 ∧ 0 < p ∧ 0 < q ∧ p * m i + q * m j = 0 ∧ x = p * h i + q * h j ∧ y = p * v i + q * v j ∧ z = p * c i + q * c j)
def Tz2 (h v m c : Int → Int) (Z : Int → Prop) (D : Int → Int → Prop) (vh vv v1 : Int → Int) (T : Int) : Prop := (∀ i, Z i → m i = 0 → ∃ t, 0 ≤ t ∧ t < T ∧ vh t = h i ∧ vv t = v i ∧ v1 t = c i) ∧ ∀ i j, D i j → 0 < m i → m j < 0 → ∃ t p q, 0 ≤ t ∧ t < T ∧ 0 < p ∧ 0 < q ∧ p * m i + q * m j = 0 ∧ vh t = p * h i + q * h j ∧ vv t = p * v i + q * v j ∧ v1 t = p * c i + q * c j
def TT (h v m c : Int → Int) (Z : Int → Prop) (D : Int → Int → Prop) (vh vv v1 : Int → Int) (T : Int) : Prop :=
  (∀ t, 0 ≤ t → t < T → Tw2 h v m c Z D (vh t) (vv t) (v1 t)) ∧ Tz2 h v m c Z D vh vv v1 T ∧ ∀ t, 0 ≤ t → t < T → ab (vh t) 512000 ∧ ab (vv t) 512000 ∧ ab (v1 t) 8000000000000
def FMB (h v m c : Int → Int) (n : Int) : Prop := (∀ i, 0 ≤ i → i < n → ab (m i) 512000 ∧ ab (h i) 512000 ∧ ab (v i) 512000 ∧ ab (c i) 8000000000000) ∧
  ∀ i j, 0 ≤ i → i < n → 0 ≤ j → j < n → 0 < m i → m j < 0 → ab (gp m i j * h i) 256000 ∧ ab (gq m i j * h j) 256000 ∧ ab (gp m i j * v i) 256000 ∧ ab (gq m i j * v j) 256000 ∧ ab (gp m i j * c i) 4000000000000 ∧ ab (gq m i j * c j) 4000000000000
theorem Tw2.mono {h v m c : Int → Int} {Z Z' : Int → Prop} {D D' : Int → Int → Prop} {x y z : Int} (hZ : ∀ i, Z i → Z' i) (hD : ∀ i j, D i j → D' i j) (H : Tw2 h v m c Z D x y z) : Tw2 h v m c Z' D' x y z := by
  rcases H with ⟨i, i1, r⟩ | ⟨i, j, p, q, d, r⟩
  · exact Or.inl ⟨i, hZ i i1, r⟩
  · exact Or.inr ⟨i, j, p, q, hD i j d, r⟩
theorem TT.mono {h v m c vh vv v1 : Int → Int} {Z Z' : Int → Prop} {D D' : Int → Int → Prop} {T : Int} (H : TT h v m c Z D vh vv v1 T) (hZ : ∀ i, Z i → Z' i) (hD : ∀ i j, D i j → D' i j) (kZ : ∀ i, Z' i → m i = 0 → Z i) (kD : ∀ i j, D' i j → 0 < m i → m j < 0 → D i j) : TT h v m c Z' D' vh vv v1 T :=
  ⟨fun t t1 t2 => (H.1 t t1 t2).mono hZ hD, ⟨fun i i1 i2 => H.2.1.1 i (kZ i i1 i2) i2, fun i j d a b => H.2.1.2 i j (kD i j d a b) a b⟩, H.2.2⟩
theorem TT.add {h v m c vh vv v1 vh' vv' v1' : Int → Int} {Z Z' : Int → Prop} {D D' : Int → Int → Prop} {T x y z : Int} (T0 : 0 ≤ T) (H : TT h v m c Z D vh vv v1 T) (hZ : ∀ i, Z i → Z' i) (hD : ∀ i j, D i j → D' i j)
    (kZ : ∀ i, Z' i → m i = 0 → Z i ∨ (x = h i ∧ y = v i ∧ z = c i)) (kD : ∀ i j, D' i j → 0 < m i → m j < 0 → D i j ∨ ∃ p q, 0 < p ∧ 0 < q ∧ p * m i + q * m j = 0 ∧ x = p * h i + q * h j ∧ y = p * v i + q * v j ∧ z = p * c i + q * c j)
    (hx : Tw2 h v m c Z' D' x y z) (bx : ab x 512000 ∧ ab y 512000 ∧ ab z 8000000000000) (e1 : ∀ t, vh' t = if t = T then x else vh t) (e2 : ∀ t, vv' t = if t = T then y else vv t) (e3 : ∀ t, v1' t = if t = T then z else v1 t) : TT h v m c Z' D' vh' vv' v1' (T + 1) := by
  refine ⟨fun t t1 t2 => ?_, ⟨fun i i1 i2 => ?_, fun i j d a b => ?_⟩, fun t t1 t2 => ?_⟩
  · rw [e1, e2, e3]
    by_cases q : t = T
    · rw [if_pos q, if_pos q, if_pos q]; exact hx
    · rw [if_neg q, if_neg q, if_neg q]; exact (H.1 t t1 (by omega)).mono hZ hD
  · rcases kZ i i1 i2 with k | ⟨k1, k2, k3⟩
    · obtain ⟨t, t1, t2, t3⟩ := H.2.1.1 i k i2
      have q : ¬ t = T := by omega
      refine ⟨t, t1, by omega, ?_⟩
      rw [e1, e2, e3, if_neg q, if_neg q, if_neg q]; exact t3
    · refine ⟨T, T0, by omega, ?_⟩
      rw [e1, e2, e3, if_pos rfl, if_pos rfl, if_pos rfl]; exact ⟨k1, k2, k3⟩
  · rcases kD i j d a b with k | ⟨p, q, p0, q0, k⟩
    · obtain ⟨t, p, q, t1, t2, t3⟩ := H.2.1.2 i j k a b
      have r : ¬ t = T := by omega
      refine ⟨t, p, q, t1, by omega, ?_⟩
      rw [e1, e2, e3, if_neg r, if_neg r, if_neg r]; exact t3
    · refine ⟨T, p, q, T0, by omega, p0, q0, ?_⟩
      rw [e1, e2, e3, if_pos rfl, if_pos rfl, if_pos rfl]; exact k
  · rw [e1, e2, e3]
    by_cases q : t = T
    · rw [if_pos q, if_pos q, if_pos q]; exact bx
    · rw [if_neg q, if_neg q, if_neg q]; exact H.2.2 t t1 (by omega)
/-! how many -/
def ct (f : Int → Bool) : Nat → Nat
  | 0 => 0
  | n + 1 => ct f n + (if f n = true then 1 else 0)
theorem ct_mono (f : Int → Bool) (i : Nat) : ∀ d : Nat, ct f i ≤ ct f (i + d) := by
  intro d
  induction d with
  | zero => exact Nat.le_refl _
  | succ d ih =>
    show ct f i ≤ ct f (i + d) + _
    omega
theorem ct_le (f : Int → Bool) (n : Nat) : ct f n ≤ n := by
  induction n with
  | zero => exact Nat.le_refl _
  | succ n ih =>
    show ct f n + _ ≤ n + 1
    split <;> omega
theorem ct_at {f : Int → Bool} {n : Nat} : ct f (n + 1) = ct f n + (if f n = true then 1 else 0) := rfl
theorem ct_sum (m : Int → Int) (n : Nat) : ct (fun k => decide (0 < m k)) n + ct (fun k => decide (m k < 0)) n ≤ n := by
  induction n with
  | zero => exact Nat.le_refl _
  | succ n ih =>
    rw [ct_at, ct_at]
    by_cases a : 0 < m n
    · have b : ¬ m n < 0 := by omega
      simp only [decide_eq_true a, decide_eq_false b, if_true]
      simp only [Bool.false_eq_true, if_false]
      omega
    · simp only [decide_eq_false a, Bool.false_eq_true, if_false]
      split <;> omega
theorem ct_prod : ∀ a : Nat, a < 49 → ∀ b : Nat, b < 49 → a + b ≤ 48 → a * b ≤ 576 := by decide
theorem w32_succ {n : Nat} {v : Int} (h : n < 2147483647) (e : v = w32 ((n : Int) + 1)) : v = ((n + 1 : Nat) : Int) := by
  rw [e, w32_id (by unfold i32; omega)]; omega
/-! two -/
def FS (M : Int) (μ μ' : m_M) : Prop := ∀ b j, b ≠ M + 44 → b ≠ M + 45 → b ≠ M + 46 → ¬ (b = M ∧ 42 ≤ j ∧ j ≤ 49) → μ' b j = μ b j
theorem FS.rf {M : Int} {μ : m_M} : FS M μ μ := fun _ _ _ _ _ _ => rfl
theorem FS.trans {M : Int} {μ μ' μ'' : m_M} (h : FS M μ μ') (k : FS M μ' μ'') : FS M μ μ'' := fun b j h1 h2 h3 h4 => (k b j h1 h2 h3 h4).trans (h b j h1 h2 h3 h4)
theorem FS.stM {M i v : Int} {μ : m_M} (h0 : 42 ≤ i) (h1 : i ≤ 49) : FS M μ (st μ M i v) := fun _ _ _ _ _ h4 => if_neg (fun z => h4 ⟨z.1, by rw [z.2]; exact h0, by rw [z.2]; exact h1⟩)
theorem FS.of {M : Int} {μ μ' : m_M} (h : FF M 43 49 μ μ') : FS M μ μ' := fun b j _ _ _ h4 => h b j (fun z => h4 ⟨z.1, by omega, z.2.2⟩)
theorem sp_X12_two {Q X : m_Po} {ε : m_E} {μ : m_M} {M x y z : Int} (L : LM ε M) (T0 : 0 ≤ μ M 42) (T1 : μ M 42 < 700)
    (h : ∀ μ', FS M μ μ' → μ' M 42 = μ M 42 + 1 → (∀ j, j ≠ 42 → μ' M j = μ M j) → (∀ t, μ' (M + 44) t = if t = μ M 42 then x else μ (M + 44) t) → (∀ t, μ' (M + 45) t = if t = μ M 42 then y else μ (M + 45) t) → (∀ t, μ' (M + 46) t = if t = μ M 42 then z else μ (M + 46) t) → Q 0 ε μ') : o_X12_two [(2, M), (1, x), (1, y), (1, z)] ε μ Q X := by
  have n1 : M ≠ M + 44 := by omega
  have n2 : M ≠ M + 45 := by omega
  have n3 : M ≠ M + 46 := by omega
  have n4 : M + 44 ≠ M + 45 := by omega
  have n5 : M + 44 ≠ M + 46 := by omega
  have n6 : M + 45 ≠ M + 46 := by omega
  apply e_X12_two
  rw [L.f39.1, L.f40.1, L.f41.1]
  refine fun _ _ _ _ => ⟨L.k, L.f39.2.1, T0, by rw [L.f39.2.2]; exact T1, fun μ1 m1 => ?_⟩
  have q1 : μ1 M 42 = μ M 42 := by rw [m1]; exact sx_oa n1
  rw [q1]
  refine ⟨L.f40.2.1, T0, by rw [L.f40.2.2]; exact T1, fun μ2 m2 => ?_⟩
  have q2 : μ2 M 42 = μ M 42 := by rw [m2, sx_oa n2]; exact q1
  rw [q2]
  refine ⟨L.f41.2.1, T0, by rw [L.f41.2.2]; exact T1, fun μ3 m3 μ4 m4 => ?_⟩
  have q3 : μ3 M 42 = μ M 42 := by rw [m3, sx_oa n3]; exact q2
  rw [q3, w32_id (by unfold i32; omega)] at m4
  clear q1 q2 q3
  refine h μ4 ?_ ?_ ?_ ?_ ?_ ?_
  · intro b j h1 h2 h3 h4
    rw [m4, m3, m2, m1]
    unfold st
    rw [if_neg (fun e => h4 ⟨e.1, by omega, by omega⟩), if_neg (fun e => h3 e.1), if_neg (fun e => h2 e.1), if_neg (fun e => h1 e.1)]
  · rw [m4, sx_same]
  · intro j hj
    rw [m4, sx_oi hj, m3, sx_oa n3, m2, sx_oa n2, m1, sx_oa n1]
  · intro t
    rw [m4, sx_oa (Ne.symm n1), m3, sx_oa n5, m2, sx_oa n4, m1]
    unfold st; simp
  · intro t
    rw [m4, sx_oa (Ne.symm n2), m3, sx_oa n6, m2]
    have : μ1 (M + 45) t = μ (M + 45) t := by rw [m1]; exact sx_oa (Ne.symm n4)
    unfold st; simp [this]
  · intro t
    rw [m4, sx_oa (Ne.symm n3), m3]
    have : μ2 (M + 46) t = μ (M + 46) t := by rw [m2, sx_oa (Ne.symm n6), m1]; exact sx_oa (Ne.symm n5)
    unfold st; simp [this]
