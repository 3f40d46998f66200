/-! ===== touches (by touches.py) ===== -/
/-- memory that agrees where the registers lie -/
theorem RG.of {ε : m_E} {μ μ' : m_M} {M : Int} {R : Int → Int} (H : RG ε μ M R) (h : ∀ b j, (BC M b ∨ ∃ q ∈ lm_a, b = M + q.1) → μ' b j = μ b j) : RG ε μ' M R := by
  obtain ⟨h1, h2, h3, h4⟩ := H
  refine ⟨h1, h2, fun q hq => by rw [h _ _ (Or.inr ⟨q, hq, rfl⟩)]; exact h3 q hq, fun r hr => ?_⟩
  have c1 : ∀ j, μ' (M + r) j = μ (M + r) j := fun j => h _ j (Or.inl ⟨r, hr, Or.inl rfl⟩)
  have c2 : ∀ j, μ' (M + r + 1) j = μ (M + r + 1) j := fun j => h _ j (Or.inl ⟨r, hr, Or.inr rfl⟩)
  rw [c1, bv_congr (c1 1) c2]
  exact h4 r hr
theorem RG.st {ε : m_E} {μ : m_M} {M o i v : Int} {R : Int → Int} (H : RG ε μ M R) (h1 : ∀ r ∈ lm_b, o ≠ r ∧ o ≠ r + 1) (h2 : ∀ q ∈ lm_a, o ≠ q.1) : RG ε (st μ (M + o) i v) M R := H.of (fun b j hb => by
  rcases hb with hb | ⟨q, hq, e⟩
  · refine sx_oa (fun e => ?_)
    rw [e] at hb
    exact nbc h1 hb
  · have := h2 q hq
    exact sx_oa (by omega))
def FT (M w : Int) (μ μ' : m_M) : Prop := ∀ b j, ¬ BC M b → ¬ (b = M + 88 ∧ 48 * w ≤ j ∧ j < 48 * w + 48) → ¬ (b = M + 89 ∧ j = w) → μ' b j = μ b j
theorem FT.rf {M w : Int} {μ : m_M} : FT M w μ μ := fun _ _ _ _ _ => rfl
theorem FT.trans {M w : Int} {μ μ' μ'' : m_M} (h : FT M w μ μ') (k : FT M w μ' μ'') : FT M w μ μ'' := fun b j h1 h2 h3 => (k b j h1 h2 h3).trans (h b j h1 h2 h3)
theorem FT.of {M w : Int} {μ μ' : m_M} (h : FB M μ μ') : FT M w μ μ' := fun b j h1 _ _ => h b j h1
theorem RW.ft {μ μ' : m_M} {M n w : Int} {h v m c : Int → Int} (H : RW μ M n h v m c) (f : FT M w μ μ') : RW μ' M n h v m c := by
  obtain ⟨h1, h2, h3, h4, h5⟩ := H
  exact ⟨(f M 35 nbc0 (by omega) (by omega)).trans h1, fun k => (f _ k (nbc (by decide)) (by omega) (by omega)).trans (h2 k), fun k => (f _ k (nbc (by decide)) (by omega) (by omega)).trans (h3 k), fun k => (f _ k (nbc (by decide)) (by omega) (by omega)).trans (h4 k), fun k => (f _ k (nbc (by decide)) (by omega) (by omega)).trans (h5 k)⟩
/-- the row's value at the whole point, times all lower parts -/
def KT (h v m c : Int → Int) (a b x y z w i : Int) : Int := KP h v c a b x y i * w + m i * z * (b * y)
/-- the codes of the rows that are 0 there, in their order, from off on -/
def TL (g : Int → Bool) (code : Int → Int) (n : Nat) (arr : Int → Int) (off : Int) : Prop := ∀ i : Nat, i < n → g i = true → arr (off + ct g i) = code i
theorem tc_w0 {a : Nat} (h : a ≤ 48) : w32 (w32 (48 * 0) + (a : Int)) = 48 * 0 + (a : Int) := by
  rw [show w32 (48 * 0) = 48 * 0 by decide]; exact w32_id (by unfold i32; omega)
theorem tc_w1 {a : Nat} (h : a ≤ 48) : w32 (w32 (48 * 1) + (a : Int)) = 48 * 1 + (a : Int) := by
  rw [show w32 (48 * 1) = 48 * 1 by decide]; exact w32_id (by unfold i32; omega)
theorem tc_s {a : Nat} (h : a ≤ 48) : w32 ((a : Int) + 1) = (a : Int) + 1 := w32_id (by unfold i32; omega)
theorem ct_lt {g : Int → Bool} {i n : Nat} (h : i < n) (hg : g i = true) : ct g i < ct g n := by
  have := ct_mono g (i + 1) (n - (i + 1))
  rw [show i + 1 + (n - (i + 1)) = n by omega, ct_at, if_pos hg] at this
  omega
theorem TL.add {g : Int → Bool} {code arr arr' : Int → Int} {n : Nat} {off : Int} (H : TL g code n arr off) (hg : g n = true) (e : ∀ j, arr' j = if j = off + ct g n then code n else arr j) : TL g code (n + 1) arr' off := by
  intro i hi gi
  rw [e]
  by_cases q : i = n
  · rw [q, if_pos rfl]
  · have := ct_lt (show i < n by omega) gi
    rw [if_neg (by omega)]
    exact H i (by omega) gi
theorem TL.skip {g : Int → Bool} {code arr : Int → Int} {n : Nat} {off : Int} (H : TL g code n arr off) (hg : g n = false) : TL g code (n + 1) arr off := by
  intro i hi gi
  by_cases q : i = n
  · rw [q, hg] at gi; cases gi
  · exact H i (by omega) gi
theorem tc_loop_0 {Q X : m_Po} {ε : m_E} {M : Int} {μ0 : m_M} {R0 h v m c code : Int → Int} {n : Nat} (hn : n ≤ 48) (B : RB h v m c n) (b0 : bd (R0 48) 64) (b1 : bd (R0 61) 64) (b2 : bd (R0 50) 108) (b3 : bd (R0 63) 84) (b4 : bd (R0 52) 194) (b5 : bd (R0 65) 168) (hcode : ∀ k, μ0 (M + 30) k = code k)
    (hh : ∀ μ' R', RG ε μ' M R' → μ' (M + 89) 0 = ct (fun i => decide (KT h v m c (R0 48) (R0 61) (R0 50) (R0 63) (R0 52) (R0 65) i = 0)) n → TL (fun i => decide (KT h v m c (R0 48) (R0 61) (R0 50) (R0 63) (R0 52) (R0 65) i = 0)) code n (μ' (M + 88)) (48 * 0) → (∀ s, ¬ tme s → R' s = R0 s) → FT M 0 μ0 μ' → Q 0 ε μ') :
    ∀ (d t : Nat) (μ : m_M) (R : Int → Int), t + d = n → RG ε μ M R → RW μ M n h v m c → μ (M + 89) 0 = ct (fun i => decide (KT h v m c (R0 48) (R0 61) (R0 50) (R0 63) (R0 52) (R0 65) i = 0)) t → TL (fun i => decide (KT h v m c (R0 48) (R0 61) (R0 50) (R0 63) (R0 52) (R0 65) i = 0)) code t (μ (M + 88)) (48 * 0) → (∀ s, ¬ tme s → R s = R0 s) → FT M 0 μ0 μ → G cd_X12_touches Q X 13 [(0, (2, M)), (1, (0, 0)), (2, (0, 0)), (3, (0, t))] [] ε μ := by
  have nu : ¬ tme 48 := by unfold tme tmp; decide
  have nl : ¬ tme 61 := by unfold tme tmp; decide
  have nu1 : ¬ tme 50 := by unfold tme tmp; decide
  have nl1 : ¬ tme 63 := by unfold tme tmp; decide
  have nu2 : ¬ tme 52 := by unfold tme tmp; decide
  have nl2 : ¬ tme 65 := by unfold tme tmp; decide
  intro d
  induction d with
  | zero =>
    intro t μ R hd H0 W0 hc hl fr ft
    have ht : t = n := by omega
    subst ht
    have tn : ¬ (t : Int) < t := by omega
    apply g_X12_touches_13
    rw [W0.1]
    exact fun _ _ _ _ => ⟨H0.1.k, fun _ => hh μ R H0 hc hl fr ft, fun z => absurd z tn⟩
  | succ d ih =>
    intro t μ R hd H0 W0 hc hl fr ft
    have t0 : (0 : Int) ≤ t := by omega
    have t1 : (t : Int) < 48 := by omega
    have t2 : (t : Int) < n := by omega
    have tN : ¬ (n : Int) ≤ t := by omega
    have tm : t < 2147483647 := by omega
    have hd' : t + 1 + d = n := by omega
    obtain ⟨c1, c2, c3, c4⟩ := B t t0 t2
    have eu : R 48 = R0 48 := fr 48 nu
    have el : R 61 = R0 61 := fr 61 nl
    have eu1 : R 50 = R0 50 := fr 50 nu1
    have el1 : R 63 = R0 63 := fr 63 nl1
    have eu2 : R 52 = R0 52 := fr 52 nu2
    have el2 : R 65 = R0 65 := fr 65 nl2
    have ctb := ct_le (fun i => decide (KT h v m c (R0 48) (R0 61) (R0 50) (R0 63) (R0 52) (R0 65) i = 0)) t
    have next : ∀ (μ' : m_M) (R' : Int → Int), RG ε μ' M R' → RW μ' M n h v m c → μ' (M + 89) 0 = ct (fun i => decide (KT h v m c (R0 48) (R0 61) (R0 50) (R0 63) (R0 52) (R0 65) i = 0)) (t + 1) → TL (fun i => decide (KT h v m c (R0 48) (R0 61) (R0 50) (R0 63) (R0 52) (R0 65) i = 0)) code (t + 1) (μ' (M + 88)) (48 * 0) → (∀ s, ¬ tme s → R' s = R0 s) → FT M 0 μ0 μ' → G cd_X12_touches Q X 178 [(0, (2, M)), (1, (0, 0)), (2, (0, 0)), (3, (0, t))] [] ε μ' := by
      intro μ' R' a1 a2 a3 a4 a5 a6
      apply g_X12_touches_178
      refine fun _ _ _ _ v3 e3 => ?_
      rw [w32_succ tm e3]
      exact ih (t + 1) μ' R' hd' a1 a2 a3 a4 a5 a6
    apply g_X12_touches_13
    simp only [H0.1.k, H0.1.f30.1, H0.1.f30.2.1, H0.1.f30.2.2, H0.1.f31.1, H0.1.f31.2.1, H0.1.f31.2.2, H0.1.f32.1, H0.1.f32.2.1, H0.1.f32.2.2, H0.1.f33.1, H0.1.f33.2.1, H0.1.f33.2.2, H0.1.f39.1, H0.1.f39.2.1, H0.1.f39.2.2, H0.1.f40.1, H0.1.f40.2.1, H0.1.f40.2.2, H0.1.f41.1, H0.1.f41.2.1, H0.1.f41.2.2, H0.1.f50.1, H0.1.f50.2.1, H0.1.f50.2.2, H0.1.f51.1, H0.1.f51.2.1, H0.1.f51.2.2, H0.1.f52.1, H0.1.f52.2.1, H0.1.f52.2.2, H0.1.f58.1, H0.1.f58.2.1, H0.1.f58.2.2, H0.u0, H0.u1, H0.u2, H0.u3, H0.u4, H0.u5, H0.l0, H0.l1, H0.l2, H0.l3, H0.l4, H0.l5, H0.e0, H0.e1, H0.e2, H0.e3, H0.e4, H0.e5, H0.e6, H0.t0, H0.t1, H0.t2, H0.t3, H0.t4, H0.b48, H0.b50, H0.b52, H0.b54, H0.b56, H0.b58, H0.b61, H0.b63, H0.b65, H0.b67, H0.b69, H0.b71, H0.b74, H0.b76, H0.b78, H0.b80, H0.b82, H0.b84, H0.b86, H0.b92, H0.b94, H0.b96, H0.b98, H0.b100, eq_self, true_and, and_true, Int.reduceLT, Int.reduceLE, Int.reduceAdd, w32_1, w32_2, w32_4, w32_5, Int.le_refl, W0.1]
    refine fun _ _ _ _ => ⟨fun z => absurd z tN, fun _ => ?_⟩
    refine rg_known_0 H0 W0 t0 t1 c1 c2 c4 (by rw [eu]; exact b0) (by rw [el]; exact b1) (by rw [eu1]; exact b2) (by rw [el1]; exact b3) (fun μ1 R1 H1 e80 e82 fr1 f1 => ?_)
    rw [eu, el, eu1, el1] at e80
    rw [el, el1] at e82
    have W1 := W0.fb f1
    have e80' : R1 80 = KP h v c (R0 48) (R0 61) (R0 50) (R0 63) t := e80
    have g1 : bd (KP h v c (R0 48) (R0 61) (R0 50) (R0 63) t) 194 := kp_bd c1 c2 c4 b0 b1 b2 b3
    have r1u : R1 52 = R0 52 := by rw [fr1 _ (by decide) (by decide) (by decide) (by decide) (by decide)]; exact eu2
    have r1l : R1 65 = R0 65 := by rw [fr1 _ (by decide) (by decide) (by decide) (by decide) (by decide)]; exact el2
    apply g_X12_touches_27
    simp only [H1.1.k, H1.1.f30.1, H1.1.f30.2.1, H1.1.f30.2.2, H1.1.f31.1, H1.1.f31.2.1, H1.1.f31.2.2, H1.1.f32.1, H1.1.f32.2.1, H1.1.f32.2.2, H1.1.f33.1, H1.1.f33.2.1, H1.1.f33.2.2, H1.1.f39.1, H1.1.f39.2.1, H1.1.f39.2.2, H1.1.f40.1, H1.1.f40.2.1, H1.1.f40.2.2, H1.1.f41.1, H1.1.f41.2.1, H1.1.f41.2.2, H1.1.f50.1, H1.1.f50.2.1, H1.1.f50.2.2, H1.1.f51.1, H1.1.f51.2.1, H1.1.f51.2.2, H1.1.f52.1, H1.1.f52.2.1, H1.1.f52.2.2, H1.1.f58.1, H1.1.f58.2.1, H1.1.f58.2.2, H1.u0, H1.u1, H1.u2, H1.u3, H1.u4, H1.u5, H1.l0, H1.l1, H1.l2, H1.l3, H1.l4, H1.l5, H1.e0, H1.e1, H1.e2, H1.e3, H1.e4, H1.e5, H1.e6, H1.t0, H1.t1, H1.t2, H1.t3, H1.t4, H1.b48, H1.b50, H1.b52, H1.b54, H1.b56, H1.b58, H1.b61, H1.b63, H1.b65, H1.b67, H1.b69, H1.b71, H1.b74, H1.b76, H1.b78, H1.b80, H1.b82, H1.b84, H1.b86, H1.b92, H1.b94, H1.b96, H1.b98, H1.b100, eq_self, true_and, and_true, Int.reduceLT, Int.reduceLE, Int.reduceAdd, w32_1, w32_2, w32_4, w32_5, Int.le_refl]
    intros
    refine rg_prod H1 (by decide) (by decide) (by decide) (by decide) (by decide) (by rw [e80', r1l]; exact pb_mul g1 b5 (by decide)) (fun μ2 H2 f2 => ?_)
    rw [e80', r1l] at H2
    have W2 := W1.fb f2
    apply g_X12_touches_50
    simp only [H2.1.k, H2.1.f30.1, H2.1.f30.2.1, H2.1.f30.2.2, H2.1.f31.1, H2.1.f31.2.1, H2.1.f31.2.2, H2.1.f32.1, H2.1.f32.2.1, H2.1.f32.2.2, H2.1.f33.1, H2.1.f33.2.1, H2.1.f33.2.2, H2.1.f39.1, H2.1.f39.2.1, H2.1.f39.2.2, H2.1.f40.1, H2.1.f40.2.1, H2.1.f40.2.2, H2.1.f41.1, H2.1.f41.2.1, H2.1.f41.2.2, H2.1.f50.1, H2.1.f50.2.1, H2.1.f50.2.2, H2.1.f51.1, H2.1.f51.2.1, H2.1.f51.2.2, H2.1.f52.1, H2.1.f52.2.1, H2.1.f52.2.2, H2.1.f58.1, H2.1.f58.2.1, H2.1.f58.2.2, H2.u0, H2.u1, H2.u2, H2.u3, H2.u4, H2.u5, H2.l0, H2.l1, H2.l2, H2.l3, H2.l4, H2.l5, H2.e0, H2.e1, H2.e2, H2.e3, H2.e4, H2.e5, H2.e6, H2.t0, H2.t1, H2.t2, H2.t3, H2.t4, H2.b48, H2.b50, H2.b52, H2.b54, H2.b56, H2.b58, H2.b61, H2.b63, H2.b65, H2.b67, H2.b69, H2.b71, H2.b74, H2.b76, H2.b78, H2.b80, H2.b82, H2.b84, H2.b86, H2.b92, H2.b94, H2.b96, H2.b98, H2.b100, eq_self, true_and, and_true, Int.reduceLT, Int.reduceLE, Int.reduceAdd, w32_1, w32_2, w32_4, w32_5, Int.le_refl, W2.2.2.2.1, t0, t1]
    intros
    refine rg_set H2 (by decide) (bd_i64 c3 (by decide)) (fun μ3 H3 f3 => ?_)
    have W3 := W2.fb f3
    apply g_X12_touches_65
    simp only [H3.1.k, H3.1.f30.1, H3.1.f30.2.1, H3.1.f30.2.2, H3.1.f31.1, H3.1.f31.2.1, H3.1.f31.2.2, H3.1.f32.1, H3.1.f32.2.1, H3.1.f32.2.2, H3.1.f33.1, H3.1.f33.2.1, H3.1.f33.2.2, H3.1.f39.1, H3.1.f39.2.1, H3.1.f39.2.2, H3.1.f40.1, H3.1.f40.2.1, H3.1.f40.2.2, H3.1.f41.1, H3.1.f41.2.1, H3.1.f41.2.2, H3.1.f50.1, H3.1.f50.2.1, H3.1.f50.2.2, H3.1.f51.1, H3.1.f51.2.1, H3.1.f51.2.2, H3.1.f52.1, H3.1.f52.2.1, H3.1.f52.2.2, H3.1.f58.1, H3.1.f58.2.1, H3.1.f58.2.2, H3.u0, H3.u1, H3.u2, H3.u3, H3.u4, H3.u5, H3.l0, H3.l1, H3.l2, H3.l3, H3.l4, H3.l5, H3.e0, H3.e1, H3.e2, H3.e3, H3.e4, H3.e5, H3.e6, H3.t0, H3.t1, H3.t2, H3.t3, H3.t4, H3.b48, H3.b50, H3.b52, H3.b54, H3.b56, H3.b58, H3.b61, H3.b63, H3.b65, H3.b67, H3.b69, H3.b71, H3.b74, H3.b76, H3.b78, H3.b80, H3.b82, H3.b84, H3.b86, H3.b92, H3.b94, H3.b96, H3.b98, H3.b100, eq_self, true_and, and_true, Int.reduceLT, Int.reduceLE, Int.reduceAdd, w32_1, w32_2, w32_4, w32_5, Int.le_refl]
    intros
    refine rg_prod H3 (by decide) (by decide) (by decide) (by decide) (by decide) (by simp only [up, reduceIte, Int.reduceEq, r1u]; exact pb_mul c3 b4 (by decide)) (fun μ4 H4 f4 => ?_)
    simp only [up, reduceIte, Int.reduceEq, r1u] at H4
    have W4 := W3.fb f4
    apply g_X12_touches_88
    simp only [H4.1.k, H4.1.f30.1, H4.1.f30.2.1, H4.1.f30.2.2, H4.1.f31.1, H4.1.f31.2.1, H4.1.f31.2.2, H4.1.f32.1, H4.1.f32.2.1, H4.1.f32.2.2, H4.1.f33.1, H4.1.f33.2.1, H4.1.f33.2.2, H4.1.f39.1, H4.1.f39.2.1, H4.1.f39.2.2, H4.1.f40.1, H4.1.f40.2.1, H4.1.f40.2.2, H4.1.f41.1, H4.1.f41.2.1, H4.1.f41.2.2, H4.1.f50.1, H4.1.f50.2.1, H4.1.f50.2.2, H4.1.f51.1, H4.1.f51.2.1, H4.1.f51.2.2, H4.1.f52.1, H4.1.f52.2.1, H4.1.f52.2.2, H4.1.f58.1, H4.1.f58.2.1, H4.1.f58.2.2, H4.u0, H4.u1, H4.u2, H4.u3, H4.u4, H4.u5, H4.l0, H4.l1, H4.l2, H4.l3, H4.l4, H4.l5, H4.e0, H4.e1, H4.e2, H4.e3, H4.e4, H4.e5, H4.e6, H4.t0, H4.t1, H4.t2, H4.t3, H4.t4, H4.b48, H4.b50, H4.b52, H4.b54, H4.b56, H4.b58, H4.b61, H4.b63, H4.b65, H4.b67, H4.b69, H4.b71, H4.b74, H4.b76, H4.b78, H4.b80, H4.b82, H4.b84, H4.b86, H4.b92, H4.b94, H4.b96, H4.b98, H4.b100, eq_self, true_and, and_true, Int.reduceLT, Int.reduceLE, Int.reduceAdd, w32_1, w32_2, w32_4, w32_5, Int.le_refl]
    intros
    refine rg_prod H4 (by decide) (by decide) (by decide) (by decide) (by decide) (by simp only [up, reduceIte, Int.reduceEq, e82]; exact pb_mul (bd_mul c3 b4) (bd_mul b1 b3) (by decide)) (fun μ5 H5 f5 => ?_)
    simp only [up, reduceIte, Int.reduceEq, e82] at H5
    have W5 := W4.fb f5
    apply g_X12_touches_109
    simp only [H5.1.k, H5.1.f30.1, H5.1.f30.2.1, H5.1.f30.2.2, H5.1.f31.1, H5.1.f31.2.1, H5.1.f31.2.2, H5.1.f32.1, H5.1.f32.2.1, H5.1.f32.2.2, H5.1.f33.1, H5.1.f33.2.1, H5.1.f33.2.2, H5.1.f39.1, H5.1.f39.2.1, H5.1.f39.2.2, H5.1.f40.1, H5.1.f40.2.1, H5.1.f40.2.2, H5.1.f41.1, H5.1.f41.2.1, H5.1.f41.2.2, H5.1.f50.1, H5.1.f50.2.1, H5.1.f50.2.2, H5.1.f51.1, H5.1.f51.2.1, H5.1.f51.2.2, H5.1.f52.1, H5.1.f52.2.1, H5.1.f52.2.2, H5.1.f58.1, H5.1.f58.2.1, H5.1.f58.2.2, H5.u0, H5.u1, H5.u2, H5.u3, H5.u4, H5.u5, H5.l0, H5.l1, H5.l2, H5.l3, H5.l4, H5.l5, H5.e0, H5.e1, H5.e2, H5.e3, H5.e4, H5.e5, H5.e6, H5.t0, H5.t1, H5.t2, H5.t3, H5.t4, H5.b48, H5.b50, H5.b52, H5.b54, H5.b56, H5.b58, H5.b61, H5.b63, H5.b65, H5.b67, H5.b69, H5.b71, H5.b74, H5.b76, H5.b78, H5.b80, H5.b82, H5.b84, H5.b86, H5.b92, H5.b94, H5.b96, H5.b98, H5.b100, eq_self, true_and, and_true, Int.reduceLT, Int.reduceLE, Int.reduceAdd, w32_1, w32_2, w32_4, w32_5, Int.le_refl]
    intros
    refine rg_sum H5 (by decide) (by decide) (by decide) (Or.inl rfl) (by simp only [up, reduceIte, Int.reduceEq]; exact pb_add (bd_mono (bd_mul g1 b5) (by decide : 194 + 168 ≤ 362)) (bd_mono (bd_mul (bd_mul c3 b4) (bd_mul b1 b3)) (by decide : 20 + 194 + (64 + 84) ≤ 362)) (by decide)) (fun μ6 H6 f6 => ?_)
    simp only [up, reduceIte, Int.reduceEq] at H6
    have W6 := W5.fb f6
    have F6 : FT M 0 μ0 μ6 := ft.trans (FT.of (((((f1.trans f2).trans f3).trans f4).trans f5).trans f6))
    have F06 : FB M μ μ6 := ((((f1.trans f2).trans f3).trans f4).trans f5).trans f6
    have fr6 : ∀ s, ¬ tme s → up (up (up (up (up R1 76 (KP h v c (R0 48) (R0 61) (R0 50) (R0 63) t * R0 65)) 74 (m t)) 78 (m t * R0 52)) 84 (m t * R0 52 * (R0 61 * R0 63))) 76 (KP h v c (R0 48) (R0 61) (R0 50) (R0 63) t * R0 65 + m t * R0 52 * (R0 61 * R0 63)) s = R0 s := by
      intro s s1
      have q := tme.no s1
      rw [up_ne q.2.2.1, up_ne q.2.2.2.2.2.2.1, up_ne q.2.2.2.1, up_ne q.2.1, up_ne q.2.2.1, fr1 s q.2.1 q.2.2.1 q.2.2.2.1 q.2.2.2.2.1 q.2.2.2.2.2.1]
      exact fr s s1
    have h89 : ∀ j, μ6 (M + 89) j = μ (M + 89) j := fun j => F06 _ j (nbc (by decide))
    have h88 : μ6 (M + 88) = μ (M + 88) := funext (fun j => F06 _ j (nbc (by decide)))
    have h30 : ∀ j, μ6 (M + 30) j = code j := fun j => by rw [F6 _ j (nbc (by decide)) (by omega) (by omega)]; exact hcode j
    apply g_X12_touches_131
    simp only [H6.1.k, H6.1.f30.1, H6.1.f30.2.1, H6.1.f30.2.2, H6.1.f31.1, H6.1.f31.2.1, H6.1.f31.2.2, H6.1.f32.1, H6.1.f32.2.1, H6.1.f32.2.2, H6.1.f33.1, H6.1.f33.2.1, H6.1.f33.2.2, H6.1.f39.1, H6.1.f39.2.1, H6.1.f39.2.2, H6.1.f40.1, H6.1.f40.2.1, H6.1.f40.2.2, H6.1.f41.1, H6.1.f41.2.1, H6.1.f41.2.2, H6.1.f50.1, H6.1.f50.2.1, H6.1.f50.2.2, H6.1.f51.1, H6.1.f51.2.1, H6.1.f51.2.2, H6.1.f52.1, H6.1.f52.2.1, H6.1.f52.2.2, H6.1.f58.1, H6.1.f58.2.1, H6.1.f58.2.2, H6.u0, H6.u1, H6.u2, H6.u3, H6.u4, H6.u5, H6.l0, H6.l1, H6.l2, H6.l3, H6.l4, H6.l5, H6.e0, H6.e1, H6.e2, H6.e3, H6.e4, H6.e5, H6.e6, H6.t0, H6.t1, H6.t2, H6.t3, H6.t4, H6.b48, H6.b50, H6.b52, H6.b54, H6.b56, H6.b58, H6.b61, H6.b63, H6.b65, H6.b67, H6.b69, H6.b71, H6.b74, H6.b76, H6.b78, H6.b80, H6.b82, H6.b84, H6.b86, H6.b92, H6.b94, H6.b96, H6.b98, H6.b100, eq_self, true_and, and_true, Int.reduceLT, Int.reduceLE, Int.reduceAdd, w32_1, w32_2, w32_4, w32_5, Int.le_refl]
    intros
    refine rg_no H6 (by decide) ?_
    simp only [up, reduceIte, Int.reduceEq]
    generalize hg : (fun i => decide (KT h v m c (R0 48) (R0 61) (R0 50) (R0 63) (R0 52) (R0 65) i = 0)) = g at *
    have gt : g t = decide (KP h v c (R0 48) (R0 61) (R0 50) (R0 63) t * R0 65 + m t * R0 52 * (R0 61 * R0 63) = 0) := by rw [← hg]; rfl
    generalize hz : KP h v c (R0 48) (R0 61) (R0 50) (R0 63) t * R0 65 + m t * R0 52 * (R0 61 * R0 63) = z at *
    have ctI : (0 : Int) ≤ 48 * 0 + ct g t ∧ (48 * 0 : Int) + ct g t < 96 := by omega
    have ct48 : ct g t ≤ 48 := by omega
    apply g_X12_touches_140
    rw [H6.1.f56.1, H6.1.f34.1, H6.1.f55.1, h89, hc, h30, tc_w0 ct48]
    refine fun _ _ _ _ _ => ⟨fun q => ⟨H6.1.k, H6.1.f56.2.1, by decide, by rw [H6.1.f56.2.2]; decide, H6.1.f34.2.1, t0, by rw [H6.1.f34.2.2]; exact t1, H6.1.f55.2.1, ctI.1, by rw [H6.1.f55.2.2]; exact ctI.2, fun μ7 m7 μ8 m8 => ?_⟩, fun q => ?_⟩
    · have z0 : z = 0 := by
        by_cases y : z = 0
        · exact y
        · rw [if_neg y] at q; exact absurd rfl q
      have gtt : g t = true := by rw [gt, z0]; decide
      have e89 : μ7 (M + 89) 0 = ct g t := by rw [m7, sx_oa (by omega), h89]; exact hc
      rw [e89, tc_s ct48] at m8
      have F8 : FT M 0 μ6 μ8 := by
        intro b j _ x1 x2
        rw [m8, m7]
        unfold st
        rw [if_neg x2, if_neg (fun e => x1 ⟨e.1, by omega, by omega⟩)]
      refine next μ8 _ ((by rw [m8, m7]; exact (H6.st (by decide) (by decide)).st (by decide) (by decide))) (W6.ft F8) ?_ ?_ fr6 (F6.trans F8)
      · rw [m8, sx_same, ct_at, if_pos gtt]; rfl
      · refine hl.add gtt (fun j => ?_)
        rw [m8, sx_oa (by omega), m7]
        unfold st
        rw [h88]
        by_cases y : j = 48 * 0 + ct g t
        · rw [if_pos ⟨rfl, y⟩, if_pos y]
        · rw [if_neg (fun e => y e.2), if_neg y]
    · have z0 : z ≠ 0 := by
        intro y
        rw [if_pos y] at q; exact absurd q (by decide)
      have gtt : g t = false := by rw [gt]; exact decide_eq_false z0
      refine next μ6 _ H6 W6 ?_ ?_ fr6 F6
      · rw [h89, hc, ct_at, gtt]; simp
      · rw [h88]; exact hl.skip gtt
theorem rg_touches_0 {Q X : m_Po} {ε : m_E} {M : Int} {μ0 : m_M} {R0 h v m c code : Int → Int} {n : Nat} (H : RG ε μ0 M R0) (W : RW μ0 M n h v m c) (hn : n ≤ 48) (B : RB h v m c n) (b0 : bd (R0 48) 64) (b1 : bd (R0 61) 64) (b2 : bd (R0 50) 108) (b3 : bd (R0 63) 84) (b4 : bd (R0 52) 194) (b5 : bd (R0 65) 168) (hcode : ∀ k, μ0 (M + 30) k = code k)
    (hh : ∀ μ' R', RG ε μ' M R' → μ' (M + 89) 0 = ct (fun i => decide (KT h v m c (R0 48) (R0 61) (R0 50) (R0 63) (R0 52) (R0 65) i = 0)) n → TL (fun i => decide (KT h v m c (R0 48) (R0 61) (R0 50) (R0 63) (R0 52) (R0 65) i = 0)) code n (μ' (M + 88)) (48 * 0) → (∀ s, ¬ tme s → R' s = R0 s) → FT M 0 μ0 μ' → Q 0 ε μ') : o_X12_touches [(2, M), (0, 0)] ε μ0 Q X := by
  apply e_X12_touches
  rw [H.1.f56.1]
  refine fun _ _ v2 e2 => ⟨H.1.k, H.1.f56.2.1, by decide, by rw [H.1.f56.2.2]; decide, fun μ1 m1 v3 e3 => ?_⟩
  have e2' : v2 = 0 := by rw [e2]; decide
  rw [e2', e3]
  have F1 : FT M 0 μ0 μ1 := by
    intro b j _ _ x2
    rw [m1]
    exact if_neg x2
  refine tc_loop_0 hn B b0 b1 b2 b3 b4 b5 hcode hh n 0 μ1 R0 (by omega) (by rw [m1]; exact H.st (by decide) (by decide)) (W.ft F1) (by rw [m1, sx_same]; rfl) (fun i hi => by omega) (fun _ _ => rfl) F1
theorem tc_loop_3 {Q X : m_Po} {ε : m_E} {M : Int} {μ0 : m_M} {R0 h v m c code : Int → Int} {n : Nat} (hn : n ≤ 48) (B : RB h v m c n) (b0 : bd (R0 54) 64) (b1 : bd (R0 67) 64) (b2 : bd (R0 56) 108) (b3 : bd (R0 69) 84) (b4 : bd (R0 58) 194) (b5 : bd (R0 71) 168) (hcode : ∀ k, μ0 (M + 30) k = code k)
    (hh : ∀ μ' R', RG ε μ' M R' → μ' (M + 89) 1 = ct (fun i => decide (KT h v m c (R0 54) (R0 67) (R0 56) (R0 69) (R0 58) (R0 71) i = 0)) n → TL (fun i => decide (KT h v m c (R0 54) (R0 67) (R0 56) (R0 69) (R0 58) (R0 71) i = 0)) code n (μ' (M + 88)) (48 * 1) → (∀ s, ¬ tme s → R' s = R0 s) → FT M 1 μ0 μ' → Q 0 ε μ') :
    ∀ (d t : Nat) (μ : m_M) (R : Int → Int), t + d = n → RG ε μ M R → RW μ M n h v m c → μ (M + 89) 1 = ct (fun i => decide (KT h v m c (R0 54) (R0 67) (R0 56) (R0 69) (R0 58) (R0 71) i = 0)) t → TL (fun i => decide (KT h v m c (R0 54) (R0 67) (R0 56) (R0 69) (R0 58) (R0 71) i = 0)) code t (μ (M + 88)) (48 * 1) → (∀ s, ¬ tme s → R s = R0 s) → FT M 1 μ0 μ → G cd_X12_touches Q X 13 [(0, (2, M)), (1, (0, 1)), (2, (0, 3)), (3, (0, t))] [] ε μ := by
  have nu : ¬ tme 54 := by unfold tme tmp; decide
  have nl : ¬ tme 67 := by unfold tme tmp; decide
  have nu1 : ¬ tme 56 := by unfold tme tmp; decide
  have nl1 : ¬ tme 69 := by unfold tme tmp; decide
  have nu2 : ¬ tme 58 := by unfold tme tmp; decide
  have nl2 : ¬ tme 71 := by unfold tme tmp; decide
  intro d
  induction d with
  | zero =>
    intro t μ R hd H0 W0 hc hl fr ft
    have ht : t = n := by omega
    subst ht
    have tn : ¬ (t : Int) < t := by omega
    apply g_X12_touches_13
    rw [W0.1]
    exact fun _ _ _ _ => ⟨H0.1.k, fun _ => hh μ R H0 hc hl fr ft, fun z => absurd z tn⟩
  | succ d ih =>
    intro t μ R hd H0 W0 hc hl fr ft
    have t0 : (0 : Int) ≤ t := by omega
    have t1 : (t : Int) < 48 := by omega
    have t2 : (t : Int) < n := by omega
    have tN : ¬ (n : Int) ≤ t := by omega
    have tm : t < 2147483647 := by omega
    have hd' : t + 1 + d = n := by omega
    obtain ⟨c1, c2, c3, c4⟩ := B t t0 t2
    have eu : R 54 = R0 54 := fr 54 nu
    have el : R 67 = R0 67 := fr 67 nl
    have eu1 : R 56 = R0 56 := fr 56 nu1
    have el1 : R 69 = R0 69 := fr 69 nl1
    have eu2 : R 58 = R0 58 := fr 58 nu2
    have el2 : R 71 = R0 71 := fr 71 nl2
    have ctb := ct_le (fun i => decide (KT h v m c (R0 54) (R0 67) (R0 56) (R0 69) (R0 58) (R0 71) i = 0)) t
    have next : ∀ (μ' : m_M) (R' : Int → Int), RG ε μ' M R' → RW μ' M n h v m c → μ' (M + 89) 1 = ct (fun i => decide (KT h v m c (R0 54) (R0 67) (R0 56) (R0 69) (R0 58) (R0 71) i = 0)) (t + 1) → TL (fun i => decide (KT h v m c (R0 54) (R0 67) (R0 56) (R0 69) (R0 58) (R0 71) i = 0)) code (t + 1) (μ' (M + 88)) (48 * 1) → (∀ s, ¬ tme s → R' s = R0 s) → FT M 1 μ0 μ' → G cd_X12_touches Q X 178 [(0, (2, M)), (1, (0, 1)), (2, (0, 3)), (3, (0, t))] [] ε μ' := by
      intro μ' R' a1 a2 a3 a4 a5 a6
      apply g_X12_touches_178
      refine fun _ _ _ _ v3 e3 => ?_
      rw [w32_succ tm e3]
      exact ih (t + 1) μ' R' hd' a1 a2 a3 a4 a5 a6
    apply g_X12_touches_13
    simp only [H0.1.k, H0.1.f30.1, H0.1.f30.2.1, H0.1.f30.2.2, H0.1.f31.1, H0.1.f31.2.1, H0.1.f31.2.2, H0.1.f32.1, H0.1.f32.2.1, H0.1.f32.2.2, H0.1.f33.1, H0.1.f33.2.1, H0.1.f33.2.2, H0.1.f39.1, H0.1.f39.2.1, H0.1.f39.2.2, H0.1.f40.1, H0.1.f40.2.1, H0.1.f40.2.2, H0.1.f41.1, H0.1.f41.2.1, H0.1.f41.2.2, H0.1.f50.1, H0.1.f50.2.1, H0.1.f50.2.2, H0.1.f51.1, H0.1.f51.2.1, H0.1.f51.2.2, H0.1.f52.1, H0.1.f52.2.1, H0.1.f52.2.2, H0.1.f58.1, H0.1.f58.2.1, H0.1.f58.2.2, H0.u0, H0.u1, H0.u2, H0.u3, H0.u4, H0.u5, H0.l0, H0.l1, H0.l2, H0.l3, H0.l4, H0.l5, H0.e0, H0.e1, H0.e2, H0.e3, H0.e4, H0.e5, H0.e6, H0.t0, H0.t1, H0.t2, H0.t3, H0.t4, H0.b48, H0.b50, H0.b52, H0.b54, H0.b56, H0.b58, H0.b61, H0.b63, H0.b65, H0.b67, H0.b69, H0.b71, H0.b74, H0.b76, H0.b78, H0.b80, H0.b82, H0.b84, H0.b86, H0.b92, H0.b94, H0.b96, H0.b98, H0.b100, eq_self, true_and, and_true, Int.reduceLT, Int.reduceLE, Int.reduceAdd, w32_1, w32_2, w32_4, w32_5, Int.le_refl, W0.1]
    refine fun _ _ _ _ => ⟨fun z => absurd z tN, fun _ => ?_⟩
    refine rg_known_3 H0 W0 t0 t1 c1 c2 c4 (by rw [eu]; exact b0) (by rw [el]; exact b1) (by rw [eu1]; exact b2) (by rw [el1]; exact b3) (fun μ1 R1 H1 e80 e82 fr1 f1 => ?_)
    rw [eu, el, eu1, el1] at e80
    rw [el, el1] at e82
    have W1 := W0.fb f1
    have e80' : R1 80 = KP h v c (R0 54) (R0 67) (R0 56) (R0 69) t := e80
    have g1 : bd (KP h v c (R0 54) (R0 67) (R0 56) (R0 69) t) 194 := kp_bd c1 c2 c4 b0 b1 b2 b3
    have r1u : R1 58 = R0 58 := by rw [fr1 _ (by decide) (by decide) (by decide) (by decide) (by decide)]; exact eu2
    have r1l : R1 71 = R0 71 := by rw [fr1 _ (by decide) (by decide) (by decide) (by decide) (by decide)]; exact el2
    apply g_X12_touches_27
    simp only [H1.1.k, H1.1.f30.1, H1.1.f30.2.1, H1.1.f30.2.2, H1.1.f31.1, H1.1.f31.2.1, H1.1.f31.2.2, H1.1.f32.1, H1.1.f32.2.1, H1.1.f32.2.2, H1.1.f33.1, H1.1.f33.2.1, H1.1.f33.2.2, H1.1.f39.1, H1.1.f39.2.1, H1.1.f39.2.2, H1.1.f40.1, H1.1.f40.2.1, H1.1.f40.2.2, H1.1.f41.1, H1.1.f41.2.1, H1.1.f41.2.2, H1.1.f50.1, H1.1.f50.2.1, H1.1.f50.2.2, H1.1.f51.1, H1.1.f51.2.1, H1.1.f51.2.2, H1.1.f52.1, H1.1.f52.2.1, H1.1.f52.2.2, H1.1.f58.1, H1.1.f58.2.1, H1.1.f58.2.2, H1.u0, H1.u1, H1.u2, H1.u3, H1.u4, H1.u5, H1.l0, H1.l1, H1.l2, H1.l3, H1.l4, H1.l5, H1.e0, H1.e1, H1.e2, H1.e3, H1.e4, H1.e5, H1.e6, H1.t0, H1.t1, H1.t2, H1.t3, H1.t4, H1.b48, H1.b50, H1.b52, H1.b54, H1.b56, H1.b58, H1.b61, H1.b63, H1.b65, H1.b67, H1.b69, H1.b71, H1.b74, H1.b76, H1.b78, H1.b80, H1.b82, H1.b84, H1.b86, H1.b92, H1.b94, H1.b96, H1.b98, H1.b100, eq_self, true_and, and_true, Int.reduceLT, Int.reduceLE, Int.reduceAdd, w32_1, w32_2, w32_4, w32_5, Int.le_refl]
    intros
    refine rg_prod H1 (by decide) (by decide) (by decide) (by decide) (by decide) (by rw [e80', r1l]; exact pb_mul g1 b5 (by decide)) (fun μ2 H2 f2 => ?_)
    rw [e80', r1l] at H2
    have W2 := W1.fb f2
    apply g_X12_touches_50
    simp only [H2.1.k, H2.1.f30.1, H2.1.f30.2.1, H2.1.f30.2.2, H2.1.f31.1, H2.1.f31.2.1, H2.1.f31.2.2, H2.1.f32.1, H2.1.f32.2.1, H2.1.f32.2.2, H2.1.f33.1, H2.1.f33.2.1, H2.1.f33.2.2, H2.1.f39.1, H2.1.f39.2.1, H2.1.f39.2.2, H2.1.f40.1, H2.1.f40.2.1, H2.1.f40.2.2, H2.1.f41.1, H2.1.f41.2.1, H2.1.f41.2.2, H2.1.f50.1, H2.1.f50.2.1, H2.1.f50.2.2, H2.1.f51.1, H2.1.f51.2.1, H2.1.f51.2.2, H2.1.f52.1, H2.1.f52.2.1, H2.1.f52.2.2, H2.1.f58.1, H2.1.f58.2.1, H2.1.f58.2.2, H2.u0, H2.u1, H2.u2, H2.u3, H2.u4, H2.u5, H2.l0, H2.l1, H2.l2, H2.l3, H2.l4, H2.l5, H2.e0, H2.e1, H2.e2, H2.e3, H2.e4, H2.e5, H2.e6, H2.t0, H2.t1, H2.t2, H2.t3, H2.t4, H2.b48, H2.b50, H2.b52, H2.b54, H2.b56, H2.b58, H2.b61, H2.b63, H2.b65, H2.b67, H2.b69, H2.b71, H2.b74, H2.b76, H2.b78, H2.b80, H2.b82, H2.b84, H2.b86, H2.b92, H2.b94, H2.b96, H2.b98, H2.b100, eq_self, true_and, and_true, Int.reduceLT, Int.reduceLE, Int.reduceAdd, w32_1, w32_2, w32_4, w32_5, Int.le_refl, W2.2.2.2.1, t0, t1]
    intros
    refine rg_set H2 (by decide) (bd_i64 c3 (by decide)) (fun μ3 H3 f3 => ?_)
    have W3 := W2.fb f3
    apply g_X12_touches_65
    simp only [H3.1.k, H3.1.f30.1, H3.1.f30.2.1, H3.1.f30.2.2, H3.1.f31.1, H3.1.f31.2.1, H3.1.f31.2.2, H3.1.f32.1, H3.1.f32.2.1, H3.1.f32.2.2, H3.1.f33.1, H3.1.f33.2.1, H3.1.f33.2.2, H3.1.f39.1, H3.1.f39.2.1, H3.1.f39.2.2, H3.1.f40.1, H3.1.f40.2.1, H3.1.f40.2.2, H3.1.f41.1, H3.1.f41.2.1, H3.1.f41.2.2, H3.1.f50.1, H3.1.f50.2.1, H3.1.f50.2.2, H3.1.f51.1, H3.1.f51.2.1, H3.1.f51.2.2, H3.1.f52.1, H3.1.f52.2.1, H3.1.f52.2.2, H3.1.f58.1, H3.1.f58.2.1, H3.1.f58.2.2, H3.u0, H3.u1, H3.u2, H3.u3, H3.u4, H3.u5, H3.l0, H3.l1, H3.l2, H3.l3, H3.l4, H3.l5, H3.e0, H3.e1, H3.e2, H3.e3, H3.e4, H3.e5, H3.e6, H3.t0, H3.t1, H3.t2, H3.t3, H3.t4, H3.b48, H3.b50, H3.b52, H3.b54, H3.b56, H3.b58, H3.b61, H3.b63, H3.b65, H3.b67, H3.b69, H3.b71, H3.b74, H3.b76, H3.b78, H3.b80, H3.b82, H3.b84, H3.b86, H3.b92, H3.b94, H3.b96, H3.b98, H3.b100, eq_self, true_and, and_true, Int.reduceLT, Int.reduceLE, Int.reduceAdd, w32_1, w32_2, w32_4, w32_5, Int.le_refl]
    intros
    refine rg_prod H3 (by decide) (by decide) (by decide) (by decide) (by decide) (by simp only [up, reduceIte, Int.reduceEq, r1u]; exact pb_mul c3 b4 (by decide)) (fun μ4 H4 f4 => ?_)
    simp only [up, reduceIte, Int.reduceEq, r1u] at H4
    have W4 := W3.fb f4
    apply g_X12_touches_88
    simp only [H4.1.k, H4.1.f30.1, H4.1.f30.2.1, H4.1.f30.2.2, H4.1.f31.1, H4.1.f31.2.1, H4.1.f31.2.2, H4.1.f32.1, H4.1.f32.2.1, H4.1.f32.2.2, H4.1.f33.1, H4.1.f33.2.1, H4.1.f33.2.2, H4.1.f39.1, H4.1.f39.2.1, H4.1.f39.2.2, H4.1.f40.1, H4.1.f40.2.1, H4.1.f40.2.2, H4.1.f41.1, H4.1.f41.2.1, H4.1.f41.2.2, H4.1.f50.1, H4.1.f50.2.1, H4.1.f50.2.2, H4.1.f51.1, H4.1.f51.2.1, H4.1.f51.2.2, H4.1.f52.1, H4.1.f52.2.1, H4.1.f52.2.2, H4.1.f58.1, H4.1.f58.2.1, H4.1.f58.2.2, H4.u0, H4.u1, H4.u2, H4.u3, H4.u4, H4.u5, H4.l0, H4.l1, H4.l2, H4.l3, H4.l4, H4.l5, H4.e0, H4.e1, H4.e2, H4.e3, H4.e4, H4.e5, H4.e6, H4.t0, H4.t1, H4.t2, H4.t3, H4.t4, H4.b48, H4.b50, H4.b52, H4.b54, H4.b56, H4.b58, H4.b61, H4.b63, H4.b65, H4.b67, H4.b69, H4.b71, H4.b74, H4.b76, H4.b78, H4.b80, H4.b82, H4.b84, H4.b86, H4.b92, H4.b94, H4.b96, H4.b98, H4.b100, eq_self, true_and, and_true, Int.reduceLT, Int.reduceLE, Int.reduceAdd, w32_1, w32_2, w32_4, w32_5, Int.le_refl]
    intros
    refine rg_prod H4 (by decide) (by decide) (by decide) (by decide) (by decide) (by simp only [up, reduceIte, Int.reduceEq, e82]; exact pb_mul (bd_mul c3 b4) (bd_mul b1 b3) (by decide)) (fun μ5 H5 f5 => ?_)
    simp only [up, reduceIte, Int.reduceEq, e82] at H5
    have W5 := W4.fb f5
    apply g_X12_touches_109
    simp only [H5.1.k, H5.1.f30.1, H5.1.f30.2.1, H5.1.f30.2.2, H5.1.f31.1, H5.1.f31.2.1, H5.1.f31.2.2, H5.1.f32.1, H5.1.f32.2.1, H5.1.f32.2.2, H5.1.f33.1, H5.1.f33.2.1, H5.1.f33.2.2, H5.1.f39.1, H5.1.f39.2.1, H5.1.f39.2.2, H5.1.f40.1, H5.1.f40.2.1, H5.1.f40.2.2, H5.1.f41.1, H5.1.f41.2.1, H5.1.f41.2.2, H5.1.f50.1, H5.1.f50.2.1, H5.1.f50.2.2, H5.1.f51.1, H5.1.f51.2.1, H5.1.f51.2.2, H5.1.f52.1, H5.1.f52.2.1, H5.1.f52.2.2, H5.1.f58.1, H5.1.f58.2.1, H5.1.f58.2.2, H5.u0, H5.u1, H5.u2, H5.u3, H5.u4, H5.u5, H5.l0, H5.l1, H5.l2, H5.l3, H5.l4, H5.l5, H5.e0, H5.e1, H5.e2, H5.e3, H5.e4, H5.e5, H5.e6, H5.t0, H5.t1, H5.t2, H5.t3, H5.t4, H5.b48, H5.b50, H5.b52, H5.b54, H5.b56, H5.b58, H5.b61, H5.b63, H5.b65, H5.b67, H5.b69, H5.b71, H5.b74, H5.b76, H5.b78, H5.b80, H5.b82, H5.b84, H5.b86, H5.b92, H5.b94, H5.b96, H5.b98, H5.b100, eq_self, true_and, and_true, Int.reduceLT, Int.reduceLE, Int.reduceAdd, w32_1, w32_2, w32_4, w32_5, Int.le_refl]
    intros
    refine rg_sum H5 (by decide) (by decide) (by decide) (Or.inl rfl) (by simp only [up, reduceIte, Int.reduceEq]; exact pb_add (bd_mono (bd_mul g1 b5) (by decide : 194 + 168 ≤ 362)) (bd_mono (bd_mul (bd_mul c3 b4) (bd_mul b1 b3)) (by decide : 20 + 194 + (64 + 84) ≤ 362)) (by decide)) (fun μ6 H6 f6 => ?_)
    simp only [up, reduceIte, Int.reduceEq] at H6
    have W6 := W5.fb f6
    have F6 : FT M 1 μ0 μ6 := ft.trans (FT.of (((((f1.trans f2).trans f3).trans f4).trans f5).trans f6))
    have F06 : FB M μ μ6 := ((((f1.trans f2).trans f3).trans f4).trans f5).trans f6
    have fr6 : ∀ s, ¬ tme s → up (up (up (up (up R1 76 (KP h v c (R0 54) (R0 67) (R0 56) (R0 69) t * R0 71)) 74 (m t)) 78 (m t * R0 58)) 84 (m t * R0 58 * (R0 67 * R0 69))) 76 (KP h v c (R0 54) (R0 67) (R0 56) (R0 69) t * R0 71 + m t * R0 58 * (R0 67 * R0 69)) s = R0 s := by
      intro s s1
      have q := tme.no s1
      rw [up_ne q.2.2.1, up_ne q.2.2.2.2.2.2.1, up_ne q.2.2.2.1, up_ne q.2.1, up_ne q.2.2.1, fr1 s q.2.1 q.2.2.1 q.2.2.2.1 q.2.2.2.2.1 q.2.2.2.2.2.1]
      exact fr s s1
    have h89 : ∀ j, μ6 (M + 89) j = μ (M + 89) j := fun j => F06 _ j (nbc (by decide))
    have h88 : μ6 (M + 88) = μ (M + 88) := funext (fun j => F06 _ j (nbc (by decide)))
    have h30 : ∀ j, μ6 (M + 30) j = code j := fun j => by rw [F6 _ j (nbc (by decide)) (by omega) (by omega)]; exact hcode j
    apply g_X12_touches_131
    simp only [H6.1.k, H6.1.f30.1, H6.1.f30.2.1, H6.1.f30.2.2, H6.1.f31.1, H6.1.f31.2.1, H6.1.f31.2.2, H6.1.f32.1, H6.1.f32.2.1, H6.1.f32.2.2, H6.1.f33.1, H6.1.f33.2.1, H6.1.f33.2.2, H6.1.f39.1, H6.1.f39.2.1, H6.1.f39.2.2, H6.1.f40.1, H6.1.f40.2.1, H6.1.f40.2.2, H6.1.f41.1, H6.1.f41.2.1, H6.1.f41.2.2, H6.1.f50.1, H6.1.f50.2.1, H6.1.f50.2.2, H6.1.f51.1, H6.1.f51.2.1, H6.1.f51.2.2, H6.1.f52.1, H6.1.f52.2.1, H6.1.f52.2.2, H6.1.f58.1, H6.1.f58.2.1, H6.1.f58.2.2, H6.u0, H6.u1, H6.u2, H6.u3, H6.u4, H6.u5, H6.l0, H6.l1, H6.l2, H6.l3, H6.l4, H6.l5, H6.e0, H6.e1, H6.e2, H6.e3, H6.e4, H6.e5, H6.e6, H6.t0, H6.t1, H6.t2, H6.t3, H6.t4, H6.b48, H6.b50, H6.b52, H6.b54, H6.b56, H6.b58, H6.b61, H6.b63, H6.b65, H6.b67, H6.b69, H6.b71, H6.b74, H6.b76, H6.b78, H6.b80, H6.b82, H6.b84, H6.b86, H6.b92, H6.b94, H6.b96, H6.b98, H6.b100, eq_self, true_and, and_true, Int.reduceLT, Int.reduceLE, Int.reduceAdd, w32_1, w32_2, w32_4, w32_5, Int.le_refl]
    intros
    refine rg_no H6 (by decide) ?_
    simp only [up, reduceIte, Int.reduceEq]
    generalize hg : (fun i => decide (KT h v m c (R0 54) (R0 67) (R0 56) (R0 69) (R0 58) (R0 71) i = 0)) = g at *
    have gt : g t = decide (KP h v c (R0 54) (R0 67) (R0 56) (R0 69) t * R0 71 + m t * R0 58 * (R0 67 * R0 69) = 0) := by rw [← hg]; rfl
    generalize hz : KP h v c (R0 54) (R0 67) (R0 56) (R0 69) t * R0 71 + m t * R0 58 * (R0 67 * R0 69) = z at *
    have ctI : (0 : Int) ≤ 48 * 1 + ct g t ∧ (48 * 1 : Int) + ct g t < 96 := by omega
    have ct48 : ct g t ≤ 48 := by omega
    apply g_X12_touches_140
    rw [H6.1.f56.1, H6.1.f34.1, H6.1.f55.1, h89, hc, h30, tc_w1 ct48]
    refine fun _ _ _ _ _ => ⟨fun q => ⟨H6.1.k, H6.1.f56.2.1, by decide, by rw [H6.1.f56.2.2]; decide, H6.1.f34.2.1, t0, by rw [H6.1.f34.2.2]; exact t1, H6.1.f55.2.1, ctI.1, by rw [H6.1.f55.2.2]; exact ctI.2, fun μ7 m7 μ8 m8 => ?_⟩, fun q => ?_⟩
    · have z0 : z = 0 := by
        by_cases y : z = 0
        · exact y
        · rw [if_neg y] at q; exact absurd rfl q
      have gtt : g t = true := by rw [gt, z0]; decide
      have e89 : μ7 (M + 89) 1 = ct g t := by rw [m7, sx_oa (by omega), h89]; exact hc
      rw [e89, tc_s ct48] at m8
      have F8 : FT M 1 μ6 μ8 := by
        intro b j _ x1 x2
        rw [m8, m7]
        unfold st
        rw [if_neg x2, if_neg (fun e => x1 ⟨e.1, by omega, by omega⟩)]
      refine next μ8 _ ((by rw [m8, m7]; exact (H6.st (by decide) (by decide)).st (by decide) (by decide))) (W6.ft F8) ?_ ?_ fr6 (F6.trans F8)
      · rw [m8, sx_same, ct_at, if_pos gtt]; rfl
      · refine hl.add gtt (fun j => ?_)
        rw [m8, sx_oa (by omega), m7]
        unfold st
        rw [h88]
        by_cases y : j = 48 * 1 + ct g t
        · rw [if_pos ⟨rfl, y⟩, if_pos y]
        · rw [if_neg (fun e => y e.2), if_neg y]
    · have z0 : z ≠ 0 := by
        intro y
        rw [if_pos y] at q; exact absurd q (by decide)
      have gtt : g t = false := by rw [gt]; exact decide_eq_false z0
      refine next μ6 _ H6 W6 ?_ ?_ fr6 F6
      · rw [h89, hc, ct_at, gtt]; simp
      · rw [h88]; exact hl.skip gtt
theorem rg_touches_3 {Q X : m_Po} {ε : m_E} {M : Int} {μ0 : m_M} {R0 h v m c code : Int → Int} {n : Nat} (H : RG ε μ0 M R0) (W : RW μ0 M n h v m c) (hn : n ≤ 48) (B : RB h v m c n) (b0 : bd (R0 54) 64) (b1 : bd (R0 67) 64) (b2 : bd (R0 56) 108) (b3 : bd (R0 69) 84) (b4 : bd (R0 58) 194) (b5 : bd (R0 71) 168) (hcode : ∀ k, μ0 (M + 30) k = code k)
    (hh : ∀ μ' R', RG ε μ' M R' → μ' (M + 89) 1 = ct (fun i => decide (KT h v m c (R0 54) (R0 67) (R0 56) (R0 69) (R0 58) (R0 71) i = 0)) n → TL (fun i => decide (KT h v m c (R0 54) (R0 67) (R0 56) (R0 69) (R0 58) (R0 71) i = 0)) code n (μ' (M + 88)) (48 * 1) → (∀ s, ¬ tme s → R' s = R0 s) → FT M 1 μ0 μ' → Q 0 ε μ') : o_X12_touches [(2, M), (0, 1)] ε μ0 Q X := by
  apply e_X12_touches
  rw [H.1.f56.1]
  refine fun _ _ v2 e2 => ⟨H.1.k, H.1.f56.2.1, by decide, by rw [H.1.f56.2.2]; decide, fun μ1 m1 v3 e3 => ?_⟩
  have e2' : v2 = 3 := by rw [e2]; decide
  rw [e2', e3]
  have F1 : FT M 1 μ0 μ1 := by
    intro b j _ _ x2
    rw [m1]
    exact if_neg x2
  refine tc_loop_3 hn B b0 b1 b2 b3 b4 b5 hcode hh n 0 μ1 R0 (by omega) (by rw [m1]; exact H.st (by decide) (by decide)) (W.ft F1) (by rw [m1, sx_same]; rfl) (fun i hi => by omega) (fun _ _ => rfl) F1
