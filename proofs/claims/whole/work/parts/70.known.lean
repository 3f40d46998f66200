/-! ===== known (by runs.py) ===== -/
theorem bd_i64 {x : Int} {k : Nat} (h : bd x k) (hk : k ≤ 63) : -9223372036854775808 < x := by
  have h1 : x.natAbs < 2 ^ 63 := Nat.lt_of_lt_of_le h (Nat.pow_le_pow_right (by decide) hk)
  omega
theorem rg_known_0 {Q X : m_Po} {ε : m_E} {μ0 : m_M} {M n i : Int} {h v m c R : Int → Int} (H0 : RG ε μ0 M R) (W0 : RW μ0 M n h v m c) (i0 : 0 ≤ i) (i1 : i < 48) (bh : bd (h i) 20) (bv : bd (v i) 20) (bc : bd (c i) 44) (b0 : bd (R 48) 64) (b1 : bd (R 61) 64) (b2 : bd (R 50) 108) (b3 : bd (R 63) 84)
    (hh : ∀ μ' R', RG ε μ' M R' → R' 80 = h i * R 48 * R 63 + v i * R 50 * R 61 + c i * (R 61 * R 63) → R' 82 = R 61 * R 63 → (∀ s, s ≠ 74 → s ≠ 76 → s ≠ 78 → s ≠ 80 → s ≠ 82 → R' s = R s) → FB M μ0 μ' → Q 0 ε μ') : o_X12_known [(2, M), (0, i), (0, 0)] ε μ0 Q X := by
  apply e_X12_known
  simp only [H0.1.k, H0.1.f30.1, H0.1.f30.2.1, H0.1.f30.2.2, H0.1.f31.1, H0.1.f31.2.1, H0.1.f31.2.2, H0.1.f32.1, H0.1.f32.2.1, H0.1.f32.2.2, H0.1.f33.1, H0.1.f33.2.1, H0.1.f33.2.2, H0.1.f39.1, H0.1.f39.2.1, H0.1.f39.2.2, H0.1.f40.1, H0.1.f40.2.1, H0.1.f40.2.2, H0.1.f41.1, H0.1.f41.2.1, H0.1.f41.2.2, H0.1.f50.1, H0.1.f50.2.1, H0.1.f50.2.2, H0.1.f51.1, H0.1.f51.2.1, H0.1.f51.2.2, H0.1.f52.1, H0.1.f52.2.1, H0.1.f52.2.2, H0.1.f58.1, H0.1.f58.2.1, H0.1.f58.2.2, H0.u0, H0.u1, H0.u2, H0.u3, H0.u4, H0.u5, H0.l0, H0.l1, H0.l2, H0.l3, H0.l4, H0.l5, H0.e0, H0.e1, H0.e2, H0.e3, H0.e4, H0.e5, H0.e6, H0.t0, H0.t1, H0.t2, H0.t3, H0.t4, H0.b48, H0.b50, H0.b52, H0.b54, H0.b56, H0.b58, H0.b61, H0.b63, H0.b65, H0.b67, H0.b69, H0.b71, H0.b74, H0.b76, H0.b78, H0.b80, H0.b82, H0.b84, H0.b86, H0.b92, H0.b94, H0.b96, H0.b98, H0.b100, eq_self, true_and, and_true, Int.reduceLT, Int.reduceLE, Int.reduceAdd, w32_1, w32_2, w32_4, w32_5, Int.le_refl, W0.2.1, W0.2.2.1, W0.2.2.2.1, W0.2.2.2.2, i0, i1]
  intros
  refine rg_set H0 (by decide) (bd_i64 bh (by decide)) (fun μ1 H1 f1 => ?_)
  try simp only [up, reduceIte, Int.reduceEq] at H1
  have W1 := W0.fb f1
  apply g_X12_known_15
  simp only [H1.1.k, H1.1.f30.1, H1.1.f30.2.1, H1.1.f30.2.2, H1.1.f31.1, H1.1.f31.2.1, H1.1.f31.2.2, H1.1.f32.1, H1.1.f32.2.1, H1.1.f32.2.2, H1.1.f33.1, H1.1.f33.2.1, H1.1.f33.2.2, H1.1.f39.1, H1.1.f39.2.1, H1.1.f39.2.2, H1.1.f40.1, H1.1.f40.2.1, H1.1.f40.2.2, H1.1.f41.1, H1.1.f41.2.1, H1.1.f41.2.2, H1.1.f50.1, H1.1.f50.2.1, H1.1.f50.2.2, H1.1.f51.1, H1.1.f51.2.1, H1.1.f51.2.2, H1.1.f52.1, H1.1.f52.2.1, H1.1.f52.2.2, H1.1.f58.1, H1.1.f58.2.1, H1.1.f58.2.2, H1.u0, H1.u1, H1.u2, H1.u3, H1.u4, H1.u5, H1.l0, H1.l1, H1.l2, H1.l3, H1.l4, H1.l5, H1.e0, H1.e1, H1.e2, H1.e3, H1.e4, H1.e5, H1.e6, H1.t0, H1.t1, H1.t2, H1.t3, H1.t4, H1.b48, H1.b50, H1.b52, H1.b54, H1.b56, H1.b58, H1.b61, H1.b63, H1.b65, H1.b67, H1.b69, H1.b71, H1.b74, H1.b76, H1.b78, H1.b80, H1.b82, H1.b84, H1.b86, H1.b92, H1.b94, H1.b96, H1.b98, H1.b100, eq_self, true_and, and_true, Int.reduceLT, Int.reduceLE, Int.reduceAdd, w32_1, w32_2, w32_4, w32_5, Int.le_refl, W1.2.1, W1.2.2.1, W1.2.2.2.1, W1.2.2.2.2, i0, i1]
  intros
  refine rg_prod H1 (by decide) (by decide) (by decide) (by decide) (by decide) (by simp only [up, reduceIte, Int.reduceEq]; exact pb_mul bh b0 (by decide)) (fun μ2 H2 f2 => ?_)
  try simp only [up, reduceIte, Int.reduceEq] at H2
  have W2 := W1.fb f2
  apply g_X12_known_36
  simp only [H2.1.k, H2.1.f30.1, H2.1.f30.2.1, H2.1.f30.2.2, H2.1.f31.1, H2.1.f31.2.1, H2.1.f31.2.2, H2.1.f32.1, H2.1.f32.2.1, H2.1.f32.2.2, H2.1.f33.1, H2.1.f33.2.1, H2.1.f33.2.2, H2.1.f39.1, H2.1.f39.2.1, H2.1.f39.2.2, H2.1.f40.1, H2.1.f40.2.1, H2.1.f40.2.2, H2.1.f41.1, H2.1.f41.2.1, H2.1.f41.2.2, H2.1.f50.1, H2.1.f50.2.1, H2.1.f50.2.2, H2.1.f51.1, H2.1.f51.2.1, H2.1.f51.2.2, H2.1.f52.1, H2.1.f52.2.1, H2.1.f52.2.2, H2.1.f58.1, H2.1.f58.2.1, H2.1.f58.2.2, H2.u0, H2.u1, H2.u2, H2.u3, H2.u4, H2.u5, H2.l0, H2.l1, H2.l2, H2.l3, H2.l4, H2.l5, H2.e0, H2.e1, H2.e2, H2.e3, H2.e4, H2.e5, H2.e6, H2.t0, H2.t1, H2.t2, H2.t3, H2.t4, H2.b48, H2.b50, H2.b52, H2.b54, H2.b56, H2.b58, H2.b61, H2.b63, H2.b65, H2.b67, H2.b69, H2.b71, H2.b74, H2.b76, H2.b78, H2.b80, H2.b82, H2.b84, H2.b86, H2.b92, H2.b94, H2.b96, H2.b98, H2.b100, eq_self, true_and, and_true, Int.reduceLT, Int.reduceLE, Int.reduceAdd, w32_1, w32_2, w32_4, w32_5, Int.le_refl, W2.2.1, W2.2.2.1, W2.2.2.2.1, W2.2.2.2.2, i0, i1]
  intros
  refine rg_prod H2 (by decide) (by decide) (by decide) (by decide) (by decide) (by simp only [up, reduceIte, Int.reduceEq]; exact pb_mul (bd_mul bh b0) b3 (by decide)) (fun μ3 H3 f3 => ?_)
  try simp only [up, reduceIte, Int.reduceEq] at H3
  have W3 := W2.fb f3
  apply g_X12_known_59
  simp only [H3.1.k, H3.1.f30.1, H3.1.f30.2.1, H3.1.f30.2.2, H3.1.f31.1, H3.1.f31.2.1, H3.1.f31.2.2, H3.1.f32.1, H3.1.f32.2.1, H3.1.f32.2.2, H3.1.f33.1, H3.1.f33.2.1, H3.1.f33.2.2, H3.1.f39.1, H3.1.f39.2.1, H3.1.f39.2.2, H3.1.f40.1, H3.1.f40.2.1, H3.1.f40.2.2, H3.1.f41.1, H3.1.f41.2.1, H3.1.f41.2.2, H3.1.f50.1, H3.1.f50.2.1, H3.1.f50.2.2, H3.1.f51.1, H3.1.f51.2.1, H3.1.f51.2.2, H3.1.f52.1, H3.1.f52.2.1, H3.1.f52.2.2, H3.1.f58.1, H3.1.f58.2.1, H3.1.f58.2.2, H3.u0, H3.u1, H3.u2, H3.u3, H3.u4, H3.u5, H3.l0, H3.l1, H3.l2, H3.l3, H3.l4, H3.l5, H3.e0, H3.e1, H3.e2, H3.e3, H3.e4, H3.e5, H3.e6, H3.t0, H3.t1, H3.t2, H3.t3, H3.t4, H3.b48, H3.b50, H3.b52, H3.b54, H3.b56, H3.b58, H3.b61, H3.b63, H3.b65, H3.b67, H3.b69, H3.b71, H3.b74, H3.b76, H3.b78, H3.b80, H3.b82, H3.b84, H3.b86, H3.b92, H3.b94, H3.b96, H3.b98, H3.b100, eq_self, true_and, and_true, Int.reduceLT, Int.reduceLE, Int.reduceAdd, w32_1, w32_2, w32_4, w32_5, Int.le_refl, W3.2.1, W3.2.2.1, W3.2.2.2.1, W3.2.2.2.2, i0, i1]
  intros
  refine rg_set H3 (by decide) (bd_i64 bv (by decide)) (fun μ4 H4 f4 => ?_)
  try simp only [up, reduceIte, Int.reduceEq] at H4
  have W4 := W3.fb f4
  apply g_X12_known_74
  simp only [H4.1.k, H4.1.f30.1, H4.1.f30.2.1, H4.1.f30.2.2, H4.1.f31.1, H4.1.f31.2.1, H4.1.f31.2.2, H4.1.f32.1, H4.1.f32.2.1, H4.1.f32.2.2, H4.1.f33.1, H4.1.f33.2.1, H4.1.f33.2.2, H4.1.f39.1, H4.1.f39.2.1, H4.1.f39.2.2, H4.1.f40.1, H4.1.f40.2.1, H4.1.f40.2.2, H4.1.f41.1, H4.1.f41.2.1, H4.1.f41.2.2, H4.1.f50.1, H4.1.f50.2.1, H4.1.f50.2.2, H4.1.f51.1, H4.1.f51.2.1, H4.1.f51.2.2, H4.1.f52.1, H4.1.f52.2.1, H4.1.f52.2.2, H4.1.f58.1, H4.1.f58.2.1, H4.1.f58.2.2, H4.u0, H4.u1, H4.u2, H4.u3, H4.u4, H4.u5, H4.l0, H4.l1, H4.l2, H4.l3, H4.l4, H4.l5, H4.e0, H4.e1, H4.e2, H4.e3, H4.e4, H4.e5, H4.e6, H4.t0, H4.t1, H4.t2, H4.t3, H4.t4, H4.b48, H4.b50, H4.b52, H4.b54, H4.b56, H4.b58, H4.b61, H4.b63, H4.b65, H4.b67, H4.b69, H4.b71, H4.b74, H4.b76, H4.b78, H4.b80, H4.b82, H4.b84, H4.b86, H4.b92, H4.b94, H4.b96, H4.b98, H4.b100, eq_self, true_and, and_true, Int.reduceLT, Int.reduceLE, Int.reduceAdd, w32_1, w32_2, w32_4, w32_5, Int.le_refl, W4.2.1, W4.2.2.1, W4.2.2.2.1, W4.2.2.2.2, i0, i1]
  intros
  refine rg_prod H4 (by decide) (by decide) (by decide) (by decide) (by decide) (by simp only [up, reduceIte, Int.reduceEq]; exact pb_mul bv b2 (by decide)) (fun μ5 H5 f5 => ?_)
  try simp only [up, reduceIte, Int.reduceEq] at H5
  have W5 := W4.fb f5
  apply g_X12_known_97
  simp only [H5.1.k, H5.1.f30.1, H5.1.f30.2.1, H5.1.f30.2.2, H5.1.f31.1, H5.1.f31.2.1, H5.1.f31.2.2, H5.1.f32.1, H5.1.f32.2.1, H5.1.f32.2.2, H5.1.f33.1, H5.1.f33.2.1, H5.1.f33.2.2, H5.1.f39.1, H5.1.f39.2.1, H5.1.f39.2.2, H5.1.f40.1, H5.1.f40.2.1, H5.1.f40.2.2, H5.1.f41.1, H5.1.f41.2.1, H5.1.f41.2.2, H5.1.f50.1, H5.1.f50.2.1, H5.1.f50.2.2, H5.1.f51.1, H5.1.f51.2.1, H5.1.f51.2.2, H5.1.f52.1, H5.1.f52.2.1, H5.1.f52.2.2, H5.1.f58.1, H5.1.f58.2.1, H5.1.f58.2.2, H5.u0, H5.u1, H5.u2, H5.u3, H5.u4, H5.u5, H5.l0, H5.l1, H5.l2, H5.l3, H5.l4, H5.l5, H5.e0, H5.e1, H5.e2, H5.e3, H5.e4, H5.e5, H5.e6, H5.t0, H5.t1, H5.t2, H5.t3, H5.t4, H5.b48, H5.b50, H5.b52, H5.b54, H5.b56, H5.b58, H5.b61, H5.b63, H5.b65, H5.b67, H5.b69, H5.b71, H5.b74, H5.b76, H5.b78, H5.b80, H5.b82, H5.b84, H5.b86, H5.b92, H5.b94, H5.b96, H5.b98, H5.b100, eq_self, true_and, and_true, Int.reduceLT, Int.reduceLE, Int.reduceAdd, w32_1, w32_2, w32_4, w32_5, Int.le_refl, W5.2.1, W5.2.2.1, W5.2.2.2.1, W5.2.2.2.2, i0, i1]
  intros
  refine rg_prod H5 (by decide) (by decide) (by decide) (by decide) (by decide) (by simp only [up, reduceIte, Int.reduceEq]; exact pb_mul (bd_mul bv b2) b1 (by decide)) (fun μ6 H6 f6 => ?_)
  try simp only [up, reduceIte, Int.reduceEq] at H6
  have W6 := W5.fb f6
  apply g_X12_known_118
  simp only [H6.1.k, H6.1.f30.1, H6.1.f30.2.1, H6.1.f30.2.2, H6.1.f31.1, H6.1.f31.2.1, H6.1.f31.2.2, H6.1.f32.1, H6.1.f32.2.1, H6.1.f32.2.2, H6.1.f33.1, H6.1.f33.2.1, H6.1.f33.2.2, H6.1.f39.1, H6.1.f39.2.1, H6.1.f39.2.2, H6.1.f40.1, H6.1.f40.2.1, H6.1.f40.2.2, H6.1.f41.1, H6.1.f41.2.1, H6.1.f41.2.2, H6.1.f50.1, H6.1.f50.2.1, H6.1.f50.2.2, H6.1.f51.1, H6.1.f51.2.1, H6.1.f51.2.2, H6.1.f52.1, H6.1.f52.2.1, H6.1.f52.2.2, H6.1.f58.1, H6.1.f58.2.1, H6.1.f58.2.2, H6.u0, H6.u1, H6.u2, H6.u3, H6.u4, H6.u5, H6.l0, H6.l1, H6.l2, H6.l3, H6.l4, H6.l5, H6.e0, H6.e1, H6.e2, H6.e3, H6.e4, H6.e5, H6.e6, H6.t0, H6.t1, H6.t2, H6.t3, H6.t4, H6.b48, H6.b50, H6.b52, H6.b54, H6.b56, H6.b58, H6.b61, H6.b63, H6.b65, H6.b67, H6.b69, H6.b71, H6.b74, H6.b76, H6.b78, H6.b80, H6.b82, H6.b84, H6.b86, H6.b92, H6.b94, H6.b96, H6.b98, H6.b100, eq_self, true_and, and_true, Int.reduceLT, Int.reduceLE, Int.reduceAdd, w32_1, w32_2, w32_4, w32_5, Int.le_refl, W6.2.1, W6.2.2.1, W6.2.2.2.1, W6.2.2.2.2, i0, i1]
  intros
  refine rg_sum H6 (by decide) (by decide) (by decide) (Or.inl rfl) (by simp only [up, reduceIte, Int.reduceEq]; exact pb_add (bd_mono (bd_mul (bd_mul bh b0) b3) (by decide : 20 + 64 + 84 ≤ 192)) (bd_mul (bd_mul bv b2) b1) (by decide)) (fun μ7 H7 f7 => ?_)
  try simp only [up, reduceIte, Int.reduceEq] at H7
  have W7 := W6.fb f7
  apply g_X12_known_140
  simp only [H7.1.k, H7.1.f30.1, H7.1.f30.2.1, H7.1.f30.2.2, H7.1.f31.1, H7.1.f31.2.1, H7.1.f31.2.2, H7.1.f32.1, H7.1.f32.2.1, H7.1.f32.2.2, H7.1.f33.1, H7.1.f33.2.1, H7.1.f33.2.2, H7.1.f39.1, H7.1.f39.2.1, H7.1.f39.2.2, H7.1.f40.1, H7.1.f40.2.1, H7.1.f40.2.2, H7.1.f41.1, H7.1.f41.2.1, H7.1.f41.2.2, H7.1.f50.1, H7.1.f50.2.1, H7.1.f50.2.2, H7.1.f51.1, H7.1.f51.2.1, H7.1.f51.2.2, H7.1.f52.1, H7.1.f52.2.1, H7.1.f52.2.2, H7.1.f58.1, H7.1.f58.2.1, H7.1.f58.2.2, H7.u0, H7.u1, H7.u2, H7.u3, H7.u4, H7.u5, H7.l0, H7.l1, H7.l2, H7.l3, H7.l4, H7.l5, H7.e0, H7.e1, H7.e2, H7.e3, H7.e4, H7.e5, H7.e6, H7.t0, H7.t1, H7.t2, H7.t3, H7.t4, H7.b48, H7.b50, H7.b52, H7.b54, H7.b56, H7.b58, H7.b61, H7.b63, H7.b65, H7.b67, H7.b69, H7.b71, H7.b74, H7.b76, H7.b78, H7.b80, H7.b82, H7.b84, H7.b86, H7.b92, H7.b94, H7.b96, H7.b98, H7.b100, eq_self, true_and, and_true, Int.reduceLT, Int.reduceLE, Int.reduceAdd, w32_1, w32_2, w32_4, w32_5, Int.le_refl, W7.2.1, W7.2.2.1, W7.2.2.2.1, W7.2.2.2.2, i0, i1]
  intros
  refine rg_prod H7 (by decide) (by decide) (by decide) (by decide) (by decide) (by simp only [up, reduceIte, Int.reduceEq]; exact pb_mul b1 b3 (by decide)) (fun μ8 H8 f8 => ?_)
  try simp only [up, reduceIte, Int.reduceEq] at H8
  have W8 := W7.fb f8
  apply g_X12_known_163
  simp only [H8.1.k, H8.1.f30.1, H8.1.f30.2.1, H8.1.f30.2.2, H8.1.f31.1, H8.1.f31.2.1, H8.1.f31.2.2, H8.1.f32.1, H8.1.f32.2.1, H8.1.f32.2.2, H8.1.f33.1, H8.1.f33.2.1, H8.1.f33.2.2, H8.1.f39.1, H8.1.f39.2.1, H8.1.f39.2.2, H8.1.f40.1, H8.1.f40.2.1, H8.1.f40.2.2, H8.1.f41.1, H8.1.f41.2.1, H8.1.f41.2.2, H8.1.f50.1, H8.1.f50.2.1, H8.1.f50.2.2, H8.1.f51.1, H8.1.f51.2.1, H8.1.f51.2.2, H8.1.f52.1, H8.1.f52.2.1, H8.1.f52.2.2, H8.1.f58.1, H8.1.f58.2.1, H8.1.f58.2.2, H8.u0, H8.u1, H8.u2, H8.u3, H8.u4, H8.u5, H8.l0, H8.l1, H8.l2, H8.l3, H8.l4, H8.l5, H8.e0, H8.e1, H8.e2, H8.e3, H8.e4, H8.e5, H8.e6, H8.t0, H8.t1, H8.t2, H8.t3, H8.t4, H8.b48, H8.b50, H8.b52, H8.b54, H8.b56, H8.b58, H8.b61, H8.b63, H8.b65, H8.b67, H8.b69, H8.b71, H8.b74, H8.b76, H8.b78, H8.b80, H8.b82, H8.b84, H8.b86, H8.b92, H8.b94, H8.b96, H8.b98, H8.b100, eq_self, true_and, and_true, Int.reduceLT, Int.reduceLE, Int.reduceAdd, w32_1, w32_2, w32_4, w32_5, Int.le_refl, W8.2.1, W8.2.2.1, W8.2.2.2.1, W8.2.2.2.2, i0, i1]
  intros
  refine rg_set H8 (by decide) (bd_i64 bc (by decide)) (fun μ9 H9 f9 => ?_)
  try simp only [up, reduceIte, Int.reduceEq] at H9
  have W9 := W8.fb f9
  apply g_X12_known_178
  simp only [H9.1.k, H9.1.f30.1, H9.1.f30.2.1, H9.1.f30.2.2, H9.1.f31.1, H9.1.f31.2.1, H9.1.f31.2.2, H9.1.f32.1, H9.1.f32.2.1, H9.1.f32.2.2, H9.1.f33.1, H9.1.f33.2.1, H9.1.f33.2.2, H9.1.f39.1, H9.1.f39.2.1, H9.1.f39.2.2, H9.1.f40.1, H9.1.f40.2.1, H9.1.f40.2.2, H9.1.f41.1, H9.1.f41.2.1, H9.1.f41.2.2, H9.1.f50.1, H9.1.f50.2.1, H9.1.f50.2.2, H9.1.f51.1, H9.1.f51.2.1, H9.1.f51.2.2, H9.1.f52.1, H9.1.f52.2.1, H9.1.f52.2.2, H9.1.f58.1, H9.1.f58.2.1, H9.1.f58.2.2, H9.u0, H9.u1, H9.u2, H9.u3, H9.u4, H9.u5, H9.l0, H9.l1, H9.l2, H9.l3, H9.l4, H9.l5, H9.e0, H9.e1, H9.e2, H9.e3, H9.e4, H9.e5, H9.e6, H9.t0, H9.t1, H9.t2, H9.t3, H9.t4, H9.b48, H9.b50, H9.b52, H9.b54, H9.b56, H9.b58, H9.b61, H9.b63, H9.b65, H9.b67, H9.b69, H9.b71, H9.b74, H9.b76, H9.b78, H9.b80, H9.b82, H9.b84, H9.b86, H9.b92, H9.b94, H9.b96, H9.b98, H9.b100, eq_self, true_and, and_true, Int.reduceLT, Int.reduceLE, Int.reduceAdd, w32_1, w32_2, w32_4, w32_5, Int.le_refl, W9.2.1, W9.2.2.1, W9.2.2.2.1, W9.2.2.2.2, i0, i1]
  intros
  refine rg_prod H9 (by decide) (by decide) (by decide) (by decide) (by decide) (by simp only [up, reduceIte, Int.reduceEq]; exact pb_mul bc (bd_mul b1 b3) (by decide)) (fun μ10 H10 f10 => ?_)
  try simp only [up, reduceIte, Int.reduceEq] at H10
  have W10 := W9.fb f10
  apply g_X12_known_199
  simp only [H10.1.k, H10.1.f30.1, H10.1.f30.2.1, H10.1.f30.2.2, H10.1.f31.1, H10.1.f31.2.1, H10.1.f31.2.2, H10.1.f32.1, H10.1.f32.2.1, H10.1.f32.2.2, H10.1.f33.1, H10.1.f33.2.1, H10.1.f33.2.2, H10.1.f39.1, H10.1.f39.2.1, H10.1.f39.2.2, H10.1.f40.1, H10.1.f40.2.1, H10.1.f40.2.2, H10.1.f41.1, H10.1.f41.2.1, H10.1.f41.2.2, H10.1.f50.1, H10.1.f50.2.1, H10.1.f50.2.2, H10.1.f51.1, H10.1.f51.2.1, H10.1.f51.2.2, H10.1.f52.1, H10.1.f52.2.1, H10.1.f52.2.2, H10.1.f58.1, H10.1.f58.2.1, H10.1.f58.2.2, H10.u0, H10.u1, H10.u2, H10.u3, H10.u4, H10.u5, H10.l0, H10.l1, H10.l2, H10.l3, H10.l4, H10.l5, H10.e0, H10.e1, H10.e2, H10.e3, H10.e4, H10.e5, H10.e6, H10.t0, H10.t1, H10.t2, H10.t3, H10.t4, H10.b48, H10.b50, H10.b52, H10.b54, H10.b56, H10.b58, H10.b61, H10.b63, H10.b65, H10.b67, H10.b69, H10.b71, H10.b74, H10.b76, H10.b78, H10.b80, H10.b82, H10.b84, H10.b86, H10.b92, H10.b94, H10.b96, H10.b98, H10.b100, eq_self, true_and, and_true, Int.reduceLT, Int.reduceLE, Int.reduceAdd, w32_1, w32_2, w32_4, w32_5, Int.le_refl, W10.2.1, W10.2.2.1, W10.2.2.2.1, W10.2.2.2.2, i0, i1]
  intros
  refine rg_sum H10 (by decide) (by decide) (by decide) (Or.inl rfl) (by simp only [up, reduceIte, Int.reduceEq]; exact pb_add (bd_add (bd_mono (bd_mul (bd_mul bh b0) b3) (by decide : 20 + 64 + 84 ≤ 192)) (bd_mul (bd_mul bv b2) b1)) (bd_mono (bd_mul bc (bd_mul b1 b3)) (by decide : 44 + (64 + 84) ≤ 193)) (by decide)) (fun μ11 H11 f11 => ?_)
  try simp only [up, reduceIte, Int.reduceEq] at H11
  have W11 := W10.fb f11
  apply g_X12_known_221
  refine fun _ => hh _ _ H11 ?_ ?_ ?_ ((((((((((f1.trans f2).trans f3).trans f4).trans f5).trans f6).trans f7).trans f8).trans f9).trans f10).trans f11)
  · simp only [up, reduceIte, Int.reduceEq]
  · simp only [up, reduceIte, Int.reduceEq]
  · intro s s1 s2 s3 s4 s5
    simp only [up, s1, s2, s3, s4, s5, if_false]
theorem rg_known_3 {Q X : m_Po} {ε : m_E} {μ0 : m_M} {M n i : Int} {h v m c R : Int → Int} (H0 : RG ε μ0 M R) (W0 : RW μ0 M n h v m c) (i0 : 0 ≤ i) (i1 : i < 48) (bh : bd (h i) 20) (bv : bd (v i) 20) (bc : bd (c i) 44) (b0 : bd (R 54) 64) (b1 : bd (R 67) 64) (b2 : bd (R 56) 108) (b3 : bd (R 69) 84)
    (hh : ∀ μ' R', RG ε μ' M R' → R' 80 = h i * R 54 * R 69 + v i * R 56 * R 67 + c i * (R 67 * R 69) → R' 82 = R 67 * R 69 → (∀ s, s ≠ 74 → s ≠ 76 → s ≠ 78 → s ≠ 80 → s ≠ 82 → R' s = R s) → FB M μ0 μ' → Q 0 ε μ') : o_X12_known [(2, M), (0, i), (0, 3)] ε μ0 Q X := by
  apply e_X12_known
  simp only [H0.1.k, H0.1.f30.1, H0.1.f30.2.1, H0.1.f30.2.2, H0.1.f31.1, H0.1.f31.2.1, H0.1.f31.2.2, H0.1.f32.1, H0.1.f32.2.1, H0.1.f32.2.2, H0.1.f33.1, H0.1.f33.2.1, H0.1.f33.2.2, H0.1.f39.1, H0.1.f39.2.1, H0.1.f39.2.2, H0.1.f40.1, H0.1.f40.2.1, H0.1.f40.2.2, H0.1.f41.1, H0.1.f41.2.1, H0.1.f41.2.2, H0.1.f50.1, H0.1.f50.2.1, H0.1.f50.2.2, H0.1.f51.1, H0.1.f51.2.1, H0.1.f51.2.2, H0.1.f52.1, H0.1.f52.2.1, H0.1.f52.2.2, H0.1.f58.1, H0.1.f58.2.1, H0.1.f58.2.2, H0.u0, H0.u1, H0.u2, H0.u3, H0.u4, H0.u5, H0.l0, H0.l1, H0.l2, H0.l3, H0.l4, H0.l5, H0.e0, H0.e1, H0.e2, H0.e3, H0.e4, H0.e5, H0.e6, H0.t0, H0.t1, H0.t2, H0.t3, H0.t4, H0.b48, H0.b50, H0.b52, H0.b54, H0.b56, H0.b58, H0.b61, H0.b63, H0.b65, H0.b67, H0.b69, H0.b71, H0.b74, H0.b76, H0.b78, H0.b80, H0.b82, H0.b84, H0.b86, H0.b92, H0.b94, H0.b96, H0.b98, H0.b100, eq_self, true_and, and_true, Int.reduceLT, Int.reduceLE, Int.reduceAdd, w32_1, w32_2, w32_4, w32_5, Int.le_refl, W0.2.1, W0.2.2.1, W0.2.2.2.1, W0.2.2.2.2, i0, i1]
  intros
  refine rg_set H0 (by decide) (bd_i64 bh (by decide)) (fun μ1 H1 f1 => ?_)
  try simp only [up, reduceIte, Int.reduceEq] at H1
  have W1 := W0.fb f1
  apply g_X12_known_15
  simp only [H1.1.k, H1.1.f30.1, H1.1.f30.2.1, H1.1.f30.2.2, H1.1.f31.1, H1.1.f31.2.1, H1.1.f31.2.2, H1.1.f32.1, H1.1.f32.2.1, H1.1.f32.2.2, H1.1.f33.1, H1.1.f33.2.1, H1.1.f33.2.2, H1.1.f39.1, H1.1.f39.2.1, H1.1.f39.2.2, H1.1.f40.1, H1.1.f40.2.1, H1.1.f40.2.2, H1.1.f41.1, H1.1.f41.2.1, H1.1.f41.2.2, H1.1.f50.1, H1.1.f50.2.1, H1.1.f50.2.2, H1.1.f51.1, H1.1.f51.2.1, H1.1.f51.2.2, H1.1.f52.1, H1.1.f52.2.1, H1.1.f52.2.2, H1.1.f58.1, H1.1.f58.2.1, H1.1.f58.2.2, H1.u0, H1.u1, H1.u2, H1.u3, H1.u4, H1.u5, H1.l0, H1.l1, H1.l2, H1.l3, H1.l4, H1.l5, H1.e0, H1.e1, H1.e2, H1.e3, H1.e4, H1.e5, H1.e6, H1.t0, H1.t1, H1.t2, H1.t3, H1.t4, H1.b48, H1.b50, H1.b52, H1.b54, H1.b56, H1.b58, H1.b61, H1.b63, H1.b65, H1.b67, H1.b69, H1.b71, H1.b74, H1.b76, H1.b78, H1.b80, H1.b82, H1.b84, H1.b86, H1.b92, H1.b94, H1.b96, H1.b98, H1.b100, eq_self, true_and, and_true, Int.reduceLT, Int.reduceLE, Int.reduceAdd, w32_1, w32_2, w32_4, w32_5, Int.le_refl, W1.2.1, W1.2.2.1, W1.2.2.2.1, W1.2.2.2.2, i0, i1]
  intros
  refine rg_prod H1 (by decide) (by decide) (by decide) (by decide) (by decide) (by simp only [up, reduceIte, Int.reduceEq]; exact pb_mul bh b0 (by decide)) (fun μ2 H2 f2 => ?_)
  try simp only [up, reduceIte, Int.reduceEq] at H2
  have W2 := W1.fb f2
  apply g_X12_known_36
  simp only [H2.1.k, H2.1.f30.1, H2.1.f30.2.1, H2.1.f30.2.2, H2.1.f31.1, H2.1.f31.2.1, H2.1.f31.2.2, H2.1.f32.1, H2.1.f32.2.1, H2.1.f32.2.2, H2.1.f33.1, H2.1.f33.2.1, H2.1.f33.2.2, H2.1.f39.1, H2.1.f39.2.1, H2.1.f39.2.2, H2.1.f40.1, H2.1.f40.2.1, H2.1.f40.2.2, H2.1.f41.1, H2.1.f41.2.1, H2.1.f41.2.2, H2.1.f50.1, H2.1.f50.2.1, H2.1.f50.2.2, H2.1.f51.1, H2.1.f51.2.1, H2.1.f51.2.2, H2.1.f52.1, H2.1.f52.2.1, H2.1.f52.2.2, H2.1.f58.1, H2.1.f58.2.1, H2.1.f58.2.2, H2.u0, H2.u1, H2.u2, H2.u3, H2.u4, H2.u5, H2.l0, H2.l1, H2.l2, H2.l3, H2.l4, H2.l5, H2.e0, H2.e1, H2.e2, H2.e3, H2.e4, H2.e5, H2.e6, H2.t0, H2.t1, H2.t2, H2.t3, H2.t4, H2.b48, H2.b50, H2.b52, H2.b54, H2.b56, H2.b58, H2.b61, H2.b63, H2.b65, H2.b67, H2.b69, H2.b71, H2.b74, H2.b76, H2.b78, H2.b80, H2.b82, H2.b84, H2.b86, H2.b92, H2.b94, H2.b96, H2.b98, H2.b100, eq_self, true_and, and_true, Int.reduceLT, Int.reduceLE, Int.reduceAdd, w32_1, w32_2, w32_4, w32_5, Int.le_refl, W2.2.1, W2.2.2.1, W2.2.2.2.1, W2.2.2.2.2, i0, i1]
  intros
  refine rg_prod H2 (by decide) (by decide) (by decide) (by decide) (by decide) (by simp only [up, reduceIte, Int.reduceEq]; exact pb_mul (bd_mul bh b0) b3 (by decide)) (fun μ3 H3 f3 => ?_)
  try simp only [up, reduceIte, Int.reduceEq] at H3
  have W3 := W2.fb f3
  apply g_X12_known_59
  simp only [H3.1.k, H3.1.f30.1, H3.1.f30.2.1, H3.1.f30.2.2, H3.1.f31.1, H3.1.f31.2.1, H3.1.f31.2.2, H3.1.f32.1, H3.1.f32.2.1, H3.1.f32.2.2, H3.1.f33.1, H3.1.f33.2.1, H3.1.f33.2.2, H3.1.f39.1, H3.1.f39.2.1, H3.1.f39.2.2, H3.1.f40.1, H3.1.f40.2.1, H3.1.f40.2.2, H3.1.f41.1, H3.1.f41.2.1, H3.1.f41.2.2, H3.1.f50.1, H3.1.f50.2.1, H3.1.f50.2.2, H3.1.f51.1, H3.1.f51.2.1, H3.1.f51.2.2, H3.1.f52.1, H3.1.f52.2.1, H3.1.f52.2.2, H3.1.f58.1, H3.1.f58.2.1, H3.1.f58.2.2, H3.u0, H3.u1, H3.u2, H3.u3, H3.u4, H3.u5, H3.l0, H3.l1, H3.l2, H3.l3, H3.l4, H3.l5, H3.e0, H3.e1, H3.e2, H3.e3, H3.e4, H3.e5, H3.e6, H3.t0, H3.t1, H3.t2, H3.t3, H3.t4, H3.b48, H3.b50, H3.b52, H3.b54, H3.b56, H3.b58, H3.b61, H3.b63, H3.b65, H3.b67, H3.b69, H3.b71, H3.b74, H3.b76, H3.b78, H3.b80, H3.b82, H3.b84, H3.b86, H3.b92, H3.b94, H3.b96, H3.b98, H3.b100, eq_self, true_and, and_true, Int.reduceLT, Int.reduceLE, Int.reduceAdd, w32_1, w32_2, w32_4, w32_5, Int.le_refl, W3.2.1, W3.2.2.1, W3.2.2.2.1, W3.2.2.2.2, i0, i1]
  intros
  refine rg_set H3 (by decide) (bd_i64 bv (by decide)) (fun μ4 H4 f4 => ?_)
  try simp only [up, reduceIte, Int.reduceEq] at H4
  have W4 := W3.fb f4
  apply g_X12_known_74
  simp only [H4.1.k, H4.1.f30.1, H4.1.f30.2.1, H4.1.f30.2.2, H4.1.f31.1, H4.1.f31.2.1, H4.1.f31.2.2, H4.1.f32.1, H4.1.f32.2.1, H4.1.f32.2.2, H4.1.f33.1, H4.1.f33.2.1, H4.1.f33.2.2, H4.1.f39.1, H4.1.f39.2.1, H4.1.f39.2.2, H4.1.f40.1, H4.1.f40.2.1, H4.1.f40.2.2, H4.1.f41.1, H4.1.f41.2.1, H4.1.f41.2.2, H4.1.f50.1, H4.1.f50.2.1, H4.1.f50.2.2, H4.1.f51.1, H4.1.f51.2.1, H4.1.f51.2.2, H4.1.f52.1, H4.1.f52.2.1, H4.1.f52.2.2, H4.1.f58.1, H4.1.f58.2.1, H4.1.f58.2.2, H4.u0, H4.u1, H4.u2, H4.u3, H4.u4, H4.u5, H4.l0, H4.l1, H4.l2, H4.l3, H4.l4, H4.l5, H4.e0, H4.e1, H4.e2, H4.e3, H4.e4, H4.e5, H4.e6, H4.t0, H4.t1, H4.t2, H4.t3, H4.t4, H4.b48, H4.b50, H4.b52, H4.b54, H4.b56, H4.b58, H4.b61, H4.b63, H4.b65, H4.b67, H4.b69, H4.b71, H4.b74, H4.b76, H4.b78, H4.b80, H4.b82, H4.b84, H4.b86, H4.b92, H4.b94, H4.b96, H4.b98, H4.b100, eq_self, true_and, and_true, Int.reduceLT, Int.reduceLE, Int.reduceAdd, w32_1, w32_2, w32_4, w32_5, Int.le_refl, W4.2.1, W4.2.2.1, W4.2.2.2.1, W4.2.2.2.2, i0, i1]
  intros
  refine rg_prod H4 (by decide) (by decide) (by decide) (by decide) (by decide) (by simp only [up, reduceIte, Int.reduceEq]; exact pb_mul bv b2 (by decide)) (fun μ5 H5 f5 => ?_)
  try simp only [up, reduceIte, Int.reduceEq] at H5
  have W5 := W4.fb f5
  apply g_X12_known_97
  simp only [H5.1.k, H5.1.f30.1, H5.1.f30.2.1, H5.1.f30.2.2, H5.1.f31.1, H5.1.f31.2.1, H5.1.f31.2.2, H5.1.f32.1, H5.1.f32.2.1, H5.1.f32.2.2, H5.1.f33.1, H5.1.f33.2.1, H5.1.f33.2.2, H5.1.f39.1, H5.1.f39.2.1, H5.1.f39.2.2, H5.1.f40.1, H5.1.f40.2.1, H5.1.f40.2.2, H5.1.f41.1, H5.1.f41.2.1, H5.1.f41.2.2, H5.1.f50.1, H5.1.f50.2.1, H5.1.f50.2.2, H5.1.f51.1, H5.1.f51.2.1, H5.1.f51.2.2, H5.1.f52.1, H5.1.f52.2.1, H5.1.f52.2.2, H5.1.f58.1, H5.1.f58.2.1, H5.1.f58.2.2, H5.u0, H5.u1, H5.u2, H5.u3, H5.u4, H5.u5, H5.l0, H5.l1, H5.l2, H5.l3, H5.l4, H5.l5, H5.e0, H5.e1, H5.e2, H5.e3, H5.e4, H5.e5, H5.e6, H5.t0, H5.t1, H5.t2, H5.t3, H5.t4, H5.b48, H5.b50, H5.b52, H5.b54, H5.b56, H5.b58, H5.b61, H5.b63, H5.b65, H5.b67, H5.b69, H5.b71, H5.b74, H5.b76, H5.b78, H5.b80, H5.b82, H5.b84, H5.b86, H5.b92, H5.b94, H5.b96, H5.b98, H5.b100, eq_self, true_and, and_true, Int.reduceLT, Int.reduceLE, Int.reduceAdd, w32_1, w32_2, w32_4, w32_5, Int.le_refl, W5.2.1, W5.2.2.1, W5.2.2.2.1, W5.2.2.2.2, i0, i1]
  intros
  refine rg_prod H5 (by decide) (by decide) (by decide) (by decide) (by decide) (by simp only [up, reduceIte, Int.reduceEq]; exact pb_mul (bd_mul bv b2) b1 (by decide)) (fun μ6 H6 f6 => ?_)
  try simp only [up, reduceIte, Int.reduceEq] at H6
  have W6 := W5.fb f6
  apply g_X12_known_118
  simp only [H6.1.k, H6.1.f30.1, H6.1.f30.2.1, H6.1.f30.2.2, H6.1.f31.1, H6.1.f31.2.1, H6.1.f31.2.2, H6.1.f32.1, H6.1.f32.2.1, H6.1.f32.2.2, H6.1.f33.1, H6.1.f33.2.1, H6.1.f33.2.2, H6.1.f39.1, H6.1.f39.2.1, H6.1.f39.2.2, H6.1.f40.1, H6.1.f40.2.1, H6.1.f40.2.2, H6.1.f41.1, H6.1.f41.2.1, H6.1.f41.2.2, H6.1.f50.1, H6.1.f50.2.1, H6.1.f50.2.2, H6.1.f51.1, H6.1.f51.2.1, H6.1.f51.2.2, H6.1.f52.1, H6.1.f52.2.1, H6.1.f52.2.2, H6.1.f58.1, H6.1.f58.2.1, H6.1.f58.2.2, H6.u0, H6.u1, H6.u2, H6.u3, H6.u4, H6.u5, H6.l0, H6.l1, H6.l2, H6.l3, H6.l4, H6.l5, H6.e0, H6.e1, H6.e2, H6.e3, H6.e4, H6.e5, H6.e6, H6.t0, H6.t1, H6.t2, H6.t3, H6.t4, H6.b48, H6.b50, H6.b52, H6.b54, H6.b56, H6.b58, H6.b61, H6.b63, H6.b65, H6.b67, H6.b69, H6.b71, H6.b74, H6.b76, H6.b78, H6.b80, H6.b82, H6.b84, H6.b86, H6.b92, H6.b94, H6.b96, H6.b98, H6.b100, eq_self, true_and, and_true, Int.reduceLT, Int.reduceLE, Int.reduceAdd, w32_1, w32_2, w32_4, w32_5, Int.le_refl, W6.2.1, W6.2.2.1, W6.2.2.2.1, W6.2.2.2.2, i0, i1]
  intros
  refine rg_sum H6 (by decide) (by decide) (by decide) (Or.inl rfl) (by simp only [up, reduceIte, Int.reduceEq]; exact pb_add (bd_mono (bd_mul (bd_mul bh b0) b3) (by decide : 20 + 64 + 84 ≤ 192)) (bd_mul (bd_mul bv b2) b1) (by decide)) (fun μ7 H7 f7 => ?_)
  try simp only [up, reduceIte, Int.reduceEq] at H7
  have W7 := W6.fb f7
  apply g_X12_known_140
  simp only [H7.1.k, H7.1.f30.1, H7.1.f30.2.1, H7.1.f30.2.2, H7.1.f31.1, H7.1.f31.2.1, H7.1.f31.2.2, H7.1.f32.1, H7.1.f32.2.1, H7.1.f32.2.2, H7.1.f33.1, H7.1.f33.2.1, H7.1.f33.2.2, H7.1.f39.1, H7.1.f39.2.1, H7.1.f39.2.2, H7.1.f40.1, H7.1.f40.2.1, H7.1.f40.2.2, H7.1.f41.1, H7.1.f41.2.1, H7.1.f41.2.2, H7.1.f50.1, H7.1.f50.2.1, H7.1.f50.2.2, H7.1.f51.1, H7.1.f51.2.1, H7.1.f51.2.2, H7.1.f52.1, H7.1.f52.2.1, H7.1.f52.2.2, H7.1.f58.1, H7.1.f58.2.1, H7.1.f58.2.2, H7.u0, H7.u1, H7.u2, H7.u3, H7.u4, H7.u5, H7.l0, H7.l1, H7.l2, H7.l3, H7.l4, H7.l5, H7.e0, H7.e1, H7.e2, H7.e3, H7.e4, H7.e5, H7.e6, H7.t0, H7.t1, H7.t2, H7.t3, H7.t4, H7.b48, H7.b50, H7.b52, H7.b54, H7.b56, H7.b58, H7.b61, H7.b63, H7.b65, H7.b67, H7.b69, H7.b71, H7.b74, H7.b76, H7.b78, H7.b80, H7.b82, H7.b84, H7.b86, H7.b92, H7.b94, H7.b96, H7.b98, H7.b100, eq_self, true_and, and_true, Int.reduceLT, Int.reduceLE, Int.reduceAdd, w32_1, w32_2, w32_4, w32_5, Int.le_refl, W7.2.1, W7.2.2.1, W7.2.2.2.1, W7.2.2.2.2, i0, i1]
  intros
  refine rg_prod H7 (by decide) (by decide) (by decide) (by decide) (by decide) (by simp only [up, reduceIte, Int.reduceEq]; exact pb_mul b1 b3 (by decide)) (fun μ8 H8 f8 => ?_)
  try simp only [up, reduceIte, Int.reduceEq] at H8
  have W8 := W7.fb f8
  apply g_X12_known_163
  simp only [H8.1.k, H8.1.f30.1, H8.1.f30.2.1, H8.1.f30.2.2, H8.1.f31.1, H8.1.f31.2.1, H8.1.f31.2.2, H8.1.f32.1, H8.1.f32.2.1, H8.1.f32.2.2, H8.1.f33.1, H8.1.f33.2.1, H8.1.f33.2.2, H8.1.f39.1, H8.1.f39.2.1, H8.1.f39.2.2, H8.1.f40.1, H8.1.f40.2.1, H8.1.f40.2.2, H8.1.f41.1, H8.1.f41.2.1, H8.1.f41.2.2, H8.1.f50.1, H8.1.f50.2.1, H8.1.f50.2.2, H8.1.f51.1, H8.1.f51.2.1, H8.1.f51.2.2, H8.1.f52.1, H8.1.f52.2.1, H8.1.f52.2.2, H8.1.f58.1, H8.1.f58.2.1, H8.1.f58.2.2, H8.u0, H8.u1, H8.u2, H8.u3, H8.u4, H8.u5, H8.l0, H8.l1, H8.l2, H8.l3, H8.l4, H8.l5, H8.e0, H8.e1, H8.e2, H8.e3, H8.e4, H8.e5, H8.e6, H8.t0, H8.t1, H8.t2, H8.t3, H8.t4, H8.b48, H8.b50, H8.b52, H8.b54, H8.b56, H8.b58, H8.b61, H8.b63, H8.b65, H8.b67, H8.b69, H8.b71, H8.b74, H8.b76, H8.b78, H8.b80, H8.b82, H8.b84, H8.b86, H8.b92, H8.b94, H8.b96, H8.b98, H8.b100, eq_self, true_and, and_true, Int.reduceLT, Int.reduceLE, Int.reduceAdd, w32_1, w32_2, w32_4, w32_5, Int.le_refl, W8.2.1, W8.2.2.1, W8.2.2.2.1, W8.2.2.2.2, i0, i1]
  intros
  refine rg_set H8 (by decide) (bd_i64 bc (by decide)) (fun μ9 H9 f9 => ?_)
  try simp only [up, reduceIte, Int.reduceEq] at H9
  have W9 := W8.fb f9
  apply g_X12_known_178
  simp only [H9.1.k, H9.1.f30.1, H9.1.f30.2.1, H9.1.f30.2.2, H9.1.f31.1, H9.1.f31.2.1, H9.1.f31.2.2, H9.1.f32.1, H9.1.f32.2.1, H9.1.f32.2.2, H9.1.f33.1, H9.1.f33.2.1, H9.1.f33.2.2, H9.1.f39.1, H9.1.f39.2.1, H9.1.f39.2.2, H9.1.f40.1, H9.1.f40.2.1, H9.1.f40.2.2, H9.1.f41.1, H9.1.f41.2.1, H9.1.f41.2.2, H9.1.f50.1, H9.1.f50.2.1, H9.1.f50.2.2, H9.1.f51.1, H9.1.f51.2.1, H9.1.f51.2.2, H9.1.f52.1, H9.1.f52.2.1, H9.1.f52.2.2, H9.1.f58.1, H9.1.f58.2.1, H9.1.f58.2.2, H9.u0, H9.u1, H9.u2, H9.u3, H9.u4, H9.u5, H9.l0, H9.l1, H9.l2, H9.l3, H9.l4, H9.l5, H9.e0, H9.e1, H9.e2, H9.e3, H9.e4, H9.e5, H9.e6, H9.t0, H9.t1, H9.t2, H9.t3, H9.t4, H9.b48, H9.b50, H9.b52, H9.b54, H9.b56, H9.b58, H9.b61, H9.b63, H9.b65, H9.b67, H9.b69, H9.b71, H9.b74, H9.b76, H9.b78, H9.b80, H9.b82, H9.b84, H9.b86, H9.b92, H9.b94, H9.b96, H9.b98, H9.b100, eq_self, true_and, and_true, Int.reduceLT, Int.reduceLE, Int.reduceAdd, w32_1, w32_2, w32_4, w32_5, Int.le_refl, W9.2.1, W9.2.2.1, W9.2.2.2.1, W9.2.2.2.2, i0, i1]
  intros
  refine rg_prod H9 (by decide) (by decide) (by decide) (by decide) (by decide) (by simp only [up, reduceIte, Int.reduceEq]; exact pb_mul bc (bd_mul b1 b3) (by decide)) (fun μ10 H10 f10 => ?_)
  try simp only [up, reduceIte, Int.reduceEq] at H10
  have W10 := W9.fb f10
  apply g_X12_known_199
  simp only [H10.1.k, H10.1.f30.1, H10.1.f30.2.1, H10.1.f30.2.2, H10.1.f31.1, H10.1.f31.2.1, H10.1.f31.2.2, H10.1.f32.1, H10.1.f32.2.1, H10.1.f32.2.2, H10.1.f33.1, H10.1.f33.2.1, H10.1.f33.2.2, H10.1.f39.1, H10.1.f39.2.1, H10.1.f39.2.2, H10.1.f40.1, H10.1.f40.2.1, H10.1.f40.2.2, H10.1.f41.1, H10.1.f41.2.1, H10.1.f41.2.2, H10.1.f50.1, H10.1.f50.2.1, H10.1.f50.2.2, H10.1.f51.1, H10.1.f51.2.1, H10.1.f51.2.2, H10.1.f52.1, H10.1.f52.2.1, H10.1.f52.2.2, H10.1.f58.1, H10.1.f58.2.1, H10.1.f58.2.2, H10.u0, H10.u1, H10.u2, H10.u3, H10.u4, H10.u5, H10.l0, H10.l1, H10.l2, H10.l3, H10.l4, H10.l5, H10.e0, H10.e1, H10.e2, H10.e3, H10.e4, H10.e5, H10.e6, H10.t0, H10.t1, H10.t2, H10.t3, H10.t4, H10.b48, H10.b50, H10.b52, H10.b54, H10.b56, H10.b58, H10.b61, H10.b63, H10.b65, H10.b67, H10.b69, H10.b71, H10.b74, H10.b76, H10.b78, H10.b80, H10.b82, H10.b84, H10.b86, H10.b92, H10.b94, H10.b96, H10.b98, H10.b100, eq_self, true_and, and_true, Int.reduceLT, Int.reduceLE, Int.reduceAdd, w32_1, w32_2, w32_4, w32_5, Int.le_refl, W10.2.1, W10.2.2.1, W10.2.2.2.1, W10.2.2.2.2, i0, i1]
  intros
  refine rg_sum H10 (by decide) (by decide) (by decide) (Or.inl rfl) (by simp only [up, reduceIte, Int.reduceEq]; exact pb_add (bd_add (bd_mono (bd_mul (bd_mul bh b0) b3) (by decide : 20 + 64 + 84 ≤ 192)) (bd_mul (bd_mul bv b2) b1)) (bd_mono (bd_mul bc (bd_mul b1 b3)) (by decide : 44 + (64 + 84) ≤ 193)) (by decide)) (fun μ11 H11 f11 => ?_)
  try simp only [up, reduceIte, Int.reduceEq] at H11
  have W11 := W10.fb f11
  apply g_X12_known_221
  refine fun _ => hh _ _ H11 ?_ ?_ ?_ ((((((((((f1.trans f2).trans f3).trans f4).trans f5).trans f6).trans f7).trans f8).trans f9).trans f10).trans f11)
  · simp only [up, reduceIte, Int.reduceEq]
  · simp only [up, reduceIte, Int.reduceEq]
  · intro s s1 s2 s3 s4 s5
    simp only [up, s1, s2, s3, s4, s5, if_false]
