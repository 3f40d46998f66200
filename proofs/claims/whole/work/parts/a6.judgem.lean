/-! ===== the reference's judge, a line (by judgem.py) ===== -/
theorem bd_i {x : Int} (h : i64 x) : bd x 64 := by
  unfold i64 at h
  unfold bd
  omega
/-- the reference's three fractions are the point that is lexicographically least for g; the rows that are 0 there -/
def MLc (μ : m_M) (M w g : Int) (R h v m c code : Int → Int) (n : Nat) (u l u1 l1 u2 l2 : Int) : Prop := 0 < R l ∧ 0 < R l1 ∧ 0 < R l2 ∧ bd (R u) 64 ∧ bd (R l) 64 ∧ bd (R u1) 108 ∧ bd (R l1) 84 ∧ bd (R u2) 194 ∧ bd (R l2) 168 ∧
  ∀ X Y Z D, LX h v m c n g X Y Z D → X * R l = R u * D ∧ Y * R l1 = R u1 * D ∧ Z * R l2 = R u2 * D ∧ μ (M + 89) w = ct (fun b => decide (wo h v m c b X Y Z D = 0)) n ∧ TL (fun b => decide (wo h v m c b X Y Z D = 0)) code n (μ (M + 88)) (48 * w)
theorem rg_worth_0 {Q X : m_Po} {ε : m_E} {μ0 : m_M} {M p q : Int} {R : Int → Int} (H0 : RG ε μ0 M R) (hp : -9223372036854775808 < p) (hq : -9223372036854775808 < q) (hh : ∀ μ', RG ε μ' M (up (up R 48 p) 61 q) → FB M μ0 μ' → Q 0 ε μ') : o_X12_worth [(2, M), (0, 0), (1, p), (1, q)] ε μ0 Q X := by
  apply e_X12_worth
  simp only [H0.1.k, H0.1.f30.1, H0.1.f30.2.1, H0.1.f30.2.2, H0.1.f31.1, H0.1.f31.2.1, H0.1.f31.2.2, H0.1.f32.1, H0.1.f32.2.1, H0.1.f32.2.2, H0.1.f33.1, H0.1.f33.2.1, H0.1.f33.2.2, H0.1.f39.1, H0.1.f39.2.1, H0.1.f39.2.2, H0.1.f40.1, H0.1.f40.2.1, H0.1.f40.2.2, H0.1.f41.1, H0.1.f41.2.1, H0.1.f41.2.2, H0.1.f50.1, H0.1.f50.2.1, H0.1.f50.2.2, H0.1.f51.1, H0.1.f51.2.1, H0.1.f51.2.2, H0.1.f52.1, H0.1.f52.2.1, H0.1.f52.2.2, H0.1.f58.1, H0.1.f58.2.1, H0.1.f58.2.2, H0.u0, H0.u1, H0.u2, H0.u3, H0.u4, H0.u5, H0.l0, H0.l1, H0.l2, H0.l3, H0.l4, H0.l5, H0.e0, H0.e1, H0.e2, H0.e3, H0.e4, H0.e5, H0.e6, H0.t0, H0.t1, H0.t2, H0.t3, H0.t4, H0.b48, H0.b50, H0.b52, H0.b54, H0.b56, H0.b58, H0.b61, H0.b63, H0.b65, H0.b67, H0.b69, H0.b71, H0.b74, H0.b76, H0.b78, H0.b80, H0.b82, H0.b84, H0.b86, H0.b92, H0.b94, H0.b96, H0.b98, H0.b100, eq_self, true_and, and_true, Int.reduceLT, Int.reduceLE, Int.reduceAdd, w32_1, w32_2, w32_4, w32_5, Int.le_refl]
  intros
  refine rg_set H0 (by decide) hp (fun μ1 H1 f1 => ?_)
  apply g_X12_worth_10
  simp only [H1.1.k, H1.1.f30.1, H1.1.f30.2.1, H1.1.f30.2.2, H1.1.f31.1, H1.1.f31.2.1, H1.1.f31.2.2, H1.1.f32.1, H1.1.f32.2.1, H1.1.f32.2.2, H1.1.f33.1, H1.1.f33.2.1, H1.1.f33.2.2, H1.1.f39.1, H1.1.f39.2.1, H1.1.f39.2.2, H1.1.f40.1, H1.1.f40.2.1, H1.1.f40.2.2, H1.1.f41.1, H1.1.f41.2.1, H1.1.f41.2.2, H1.1.f50.1, H1.1.f50.2.1, H1.1.f50.2.2, H1.1.f51.1, H1.1.f51.2.1, H1.1.f51.2.2, H1.1.f52.1, H1.1.f52.2.1, H1.1.f52.2.2, H1.1.f58.1, H1.1.f58.2.1, H1.1.f58.2.2, H1.u0, H1.u1, H1.u2, H1.u3, H1.u4, H1.u5, H1.l0, H1.l1, H1.l2, H1.l3, H1.l4, H1.l5, H1.e0, H1.e1, H1.e2, H1.e3, H1.e4, H1.e5, H1.e6, H1.t0, H1.t1, H1.t2, H1.t3, H1.t4, H1.b48, H1.b50, H1.b52, H1.b54, H1.b56, H1.b58, H1.b61, H1.b63, H1.b65, H1.b67, H1.b69, H1.b71, H1.b74, H1.b76, H1.b78, H1.b80, H1.b82, H1.b84, H1.b86, H1.b92, H1.b94, H1.b96, H1.b98, H1.b100, eq_self, true_and, and_true, Int.reduceLT, Int.reduceLE, Int.reduceAdd, w32_1, w32_2, w32_4, w32_5, Int.le_refl]
  intros
  refine rg_set H1 (by decide) hq (fun μ2 H2 f2 => ?_)
  apply g_X12_worth_21
  exact fun _ => hh μ2 H2 (f1.trans f2)
theorem jl_0 {Q X : m_Po} {ε : m_E} {μ0 : m_M} {M p q : Int} {n T : Nat} {h v m c code vh vv v1 R0 : Int → Int} (H0 : RG ε μ0 M R0) (W0 : RW μ0 M n h v m c) (V0 : RV μ0 M T vh vv v1) (hcode : ∀ x, μ0 (M + 30) x = code x) (n48 : n ≤ 48) (hT : T ≤ 672) (B : RB h v m c n) (P : PF h v m n) (TTh : TT h v m c (Zi n) (Di n n) vh vv v1 T) (A : gLs h v m c n (1) p q) (p0 : 0 ≤ p) (ip : i64 p) (iq : i64 q) (ep : (if (0 : Int) = 0 then μ0 M 44 else μ0 M 46) = p) (eq : (if (0 : Int) = 0 then μ0 M 45 else μ0 M 47) = q)
    (nxt : ∀ μ' R', RG ε μ' M R' → FT M 0 μ0 μ' → (∀ s, ¬ tme s → s ≠ 48 → s ≠ 61 → s ≠ 50 → s ≠ 63 → s ≠ 52 → s ≠ 65 → R' s = R0 s) → MLc μ' M 0 (1) R' h v m c code n 48 61 50 63 52 65 → G cd_X12_judge Q X 84 [(0, (2, M)), (3, (0, 0 + 1))] [] ε μ') : G cd_X12_judge Q X 84 [(0, (2, M)), (3, (0, 0))] [] ε μ0 := by
  have q0 := A.1
  have hg : (1 : Int) = 1 ∨ (1 : Int) = -1 := by decide
  have tu : ¬ tme 48 := by unfold tme tmp; decide
  have tl : ¬ tme 61 := by unfold tme tmp; decide
  have tu1 : ¬ tme 50 := by unfold tme tmp; decide
  have tl1 : ¬ tme 63 := by unfold tme tmp; decide
  have tu2 : ¬ tme 52 := by unfold tme tmp; decide
  have tl2 : ¬ tme 65 := by unfold tme tmp; decide
  have hexV : ∃ t, 0 ≤ t ∧ t < (T : Int) ∧ 0 < vv t := by
    obtain ⟨t, t1, t2, t3, t4⟩ := P.2.2.2
    obtain ⟨s, s1, s2, _, s4, _⟩ := TTh.2.1.1 t ⟨t1, t2⟩ t3
    exact ⟨s, s1, s2, by rw [s4]; exact t4⟩
  apply g_X12_judge_84
  rw [ep, eq, show w32 (3 * 0) = 0 by decide]
  refine fun _ _ => ⟨fun z => absurd z (by decide), fun _ v4 e4 => ⟨⟨fun _ => H0.1.k, fun _ => H0.1.k⟩, fun t et => ⟨⟨fun _ => H0.1.k, fun _ => H0.1.k⟩, fun t1 et1 => ⟨H0.1.k, ?_⟩⟩⟩⟩
  rw [e4, et, et1]
  refine rg_worth_0 H0 (by omega) (by omega) (fun μ1 H1 f1 => ?_)
  have r1u : up (up R0 48 p) 61 q 48 = p := by simp only [up, reduceIte, Int.reduceEq]
  have r1l : up (up R0 48 p) 61 q 61 = q := by simp only [up, reduceIte, Int.reduceEq]
  have fr1 : ∀ s, s ≠ 48 → s ≠ 61 → up (up R0 48 p) 61 q s = R0 s := fun s s1 s2 => by rw [up_ne s2, up_ne s1]
  generalize hR1 : up (up R0 48 p) 61 q = R1 at *
  apply g_X12_judge_130
  refine fun _ _ _ => ⟨H1.1.k, rg_leastV_0 H1 (V0.fb f1) hT TTh.2.2 (by rw [r1u]; exact bd_i ip) (by rw [r1l]; exact bd_i iq) (by rw [r1l]; exact q0) hexV (fun μ2 R2 H2 y0 b2 b3 mxV fr2 f2 => ?_)⟩
  rw [r1u, r1l] at mxV
  have r2u : R2 48 = p := (fr2 _ tu (by decide) (by decide)).trans r1u
  have r2l : R2 61 = q := (fr2 _ tl (by decide) (by decide)).trans r1l
  apply g_X12_judge_136
  refine fun _ _ _ => ⟨H2.1.k, rg_leastM_0 H2 ((W0.fb f1).fb f2) n48 B (by rw [r2u]; exact bd_i ip) (by rw [r2l]; exact bd_i iq) b2 b3 (by rw [r2l]; exact q0) y0 P.1 (fun μ3 R3 H3 w0 b4 b5 mxM fr3 f3 => ?_)⟩
  rw [r2u, r2l] at mxM
  have r3u : R3 48 = p := (fr3 _ tu (by decide) (by decide)).trans r2u
  have r3l : R3 61 = q := (fr3 _ tl (by decide) (by decide)).trans r2l
  have r3u1 : R3 50 = R2 50 := fr3 _ tu1 (by decide) (by decide)
  have r3l1 : R3 63 = R2 63 := fr3 _ tl1 (by decide) (by decide)
  have F3 : FB M μ0 μ3 := (f1.trans f2).trans f3
  apply g_X12_judge_142
  refine fun _ _ => ⟨H3.1.k, rg_touches_0 H3 (W0.fb F3) n48 B (by rw [r3u]; exact bd_i ip) (by rw [r3l]; exact bd_i iq) (by rw [r3u1]; exact b2) (by rw [r3l1]; exact b3) b4 b5 (fun x => (F3 _ x (nbc (by decide))).trans (hcode x)) (fun μ4 R4 H4 k89 k88 fr4 f4 => ?_)⟩
  apply g_X12_judge_147
  refine fun _ _ v3 e3 => ?_
  rw [e3, show w32 ((0 : Int) + 1) = 0 + 1 by decide]
  clear e3
  refine nxt μ4 R4 H4 ((FT.of F3).trans f4) (fun s s0 s1 s2 s3 s4 s5 s6 => ?_) ?_
  · rw [fr4 s s0, fr3 s s0 s5 s6, fr2 s s0 s3 s4]; exact fr1 s s1 s2
  · rw [r3u, r3l, r3u1, r3l1] at k89 k88
    have e4u : R4 48 = p := (fr4 _ tu).trans r3u
    have e4l : R4 61 = q := (fr4 _ tl).trans r3l
    have e4u1 : R4 50 = R2 50 := (fr4 _ tu1).trans r3u1
    have e4l1 : R4 63 = R2 63 := (fr4 _ tl1).trans r3l1
    have e4u2 : R4 52 = R3 52 := fr4 _ tu2
    have e4l2 : R4 65 = R3 65 := fr4 _ tl2
    unfold MLc
    rw [e4u, e4l, e4u1, e4l1, e4u2, e4l2]
    refine ⟨q0, y0, w0, bd_i ip, bd_i iq, b2, b3, b4, b5, fun X' Y' Z' D' lx => ?_⟩
    have xh := lx_h hg lx A
    have xv := lx_v P lx TTh q0 xh y0 mxV
    have xm := lx_m lx q0 xh y0 xv w0 mxM
    have eg : (fun b => decide (KT h v m c p q (R2 50) (R2 63) (R3 52) (R3 65) b = 0)) = (fun b => decide (wo h v m c b X' Y' Z' D' = 0)) := funext (fun b => by
      have := lx_t (h := h) (v := v) (m := m) (c := c) (i := b) lx.1.1 q0 xh y0 xv w0 xm
      exact decide_eq_decide.mpr this)
    rw [eg] at k89 k88
    exact ⟨xh, xv, xm, k89, k88⟩
theorem rg_worth_3 {Q X : m_Po} {ε : m_E} {μ0 : m_M} {M p q : Int} {R : Int → Int} (H0 : RG ε μ0 M R) (hp : -9223372036854775808 < p) (hq : -9223372036854775808 < q) (hh : ∀ μ', RG ε μ' M (up (up R 54 p) 67 q) → FB M μ0 μ' → Q 0 ε μ') : o_X12_worth [(2, M), (0, 3), (1, p), (1, q)] ε μ0 Q X := by
  apply e_X12_worth
  simp only [H0.1.k, H0.1.f30.1, H0.1.f30.2.1, H0.1.f30.2.2, H0.1.f31.1, H0.1.f31.2.1, H0.1.f31.2.2, H0.1.f32.1, H0.1.f32.2.1, H0.1.f32.2.2, H0.1.f33.1, H0.1.f33.2.1, H0.1.f33.2.2, H0.1.f39.1, H0.1.f39.2.1, H0.1.f39.2.2, H0.1.f40.1, H0.1.f40.2.1, H0.1.f40.2.2, H0.1.f41.1, H0.1.f41.2.1, H0.1.f41.2.2, H0.1.f50.1, H0.1.f50.2.1, H0.1.f50.2.2, H0.1.f51.1, H0.1.f51.2.1, H0.1.f51.2.2, H0.1.f52.1, H0.1.f52.2.1, H0.1.f52.2.2, H0.1.f58.1, H0.1.f58.2.1, H0.1.f58.2.2, H0.u0, H0.u1, H0.u2, H0.u3, H0.u4, H0.u5, H0.l0, H0.l1, H0.l2, H0.l3, H0.l4, H0.l5, H0.e0, H0.e1, H0.e2, H0.e3, H0.e4, H0.e5, H0.e6, H0.t0, H0.t1, H0.t2, H0.t3, H0.t4, H0.b48, H0.b50, H0.b52, H0.b54, H0.b56, H0.b58, H0.b61, H0.b63, H0.b65, H0.b67, H0.b69, H0.b71, H0.b74, H0.b76, H0.b78, H0.b80, H0.b82, H0.b84, H0.b86, H0.b92, H0.b94, H0.b96, H0.b98, H0.b100, eq_self, true_and, and_true, Int.reduceLT, Int.reduceLE, Int.reduceAdd, w32_1, w32_2, w32_4, w32_5, Int.le_refl]
  intros
  refine rg_set H0 (by decide) hp (fun μ1 H1 f1 => ?_)
  apply g_X12_worth_10
  simp only [H1.1.k, H1.1.f30.1, H1.1.f30.2.1, H1.1.f30.2.2, H1.1.f31.1, H1.1.f31.2.1, H1.1.f31.2.2, H1.1.f32.1, H1.1.f32.2.1, H1.1.f32.2.2, H1.1.f33.1, H1.1.f33.2.1, H1.1.f33.2.2, H1.1.f39.1, H1.1.f39.2.1, H1.1.f39.2.2, H1.1.f40.1, H1.1.f40.2.1, H1.1.f40.2.2, H1.1.f41.1, H1.1.f41.2.1, H1.1.f41.2.2, H1.1.f50.1, H1.1.f50.2.1, H1.1.f50.2.2, H1.1.f51.1, H1.1.f51.2.1, H1.1.f51.2.2, H1.1.f52.1, H1.1.f52.2.1, H1.1.f52.2.2, H1.1.f58.1, H1.1.f58.2.1, H1.1.f58.2.2, H1.u0, H1.u1, H1.u2, H1.u3, H1.u4, H1.u5, H1.l0, H1.l1, H1.l2, H1.l3, H1.l4, H1.l5, H1.e0, H1.e1, H1.e2, H1.e3, H1.e4, H1.e5, H1.e6, H1.t0, H1.t1, H1.t2, H1.t3, H1.t4, H1.b48, H1.b50, H1.b52, H1.b54, H1.b56, H1.b58, H1.b61, H1.b63, H1.b65, H1.b67, H1.b69, H1.b71, H1.b74, H1.b76, H1.b78, H1.b80, H1.b82, H1.b84, H1.b86, H1.b92, H1.b94, H1.b96, H1.b98, H1.b100, eq_self, true_and, and_true, Int.reduceLT, Int.reduceLE, Int.reduceAdd, w32_1, w32_2, w32_4, w32_5, Int.le_refl]
  intros
  refine rg_set H1 (by decide) hq (fun μ2 H2 f2 => ?_)
  apply g_X12_worth_21
  exact fun _ => hh μ2 H2 (f1.trans f2)
theorem jl_1 {Q X : m_Po} {ε : m_E} {μ0 : m_M} {M p q : Int} {n T : Nat} {h v m c code vh vv v1 R0 : Int → Int} (H0 : RG ε μ0 M R0) (W0 : RW μ0 M n h v m c) (V0 : RV μ0 M T vh vv v1) (hcode : ∀ x, μ0 (M + 30) x = code x) (n48 : n ≤ 48) (hT : T ≤ 672) (B : RB h v m c n) (P : PF h v m n) (TTh : TT h v m c (Zi n) (Di n n) vh vv v1 T) (A : gLs h v m c n (-1) p q) (p0 : 0 ≤ p) (ip : i64 p) (iq : i64 q) (ep : (if (1 : Int) = 0 then μ0 M 44 else μ0 M 46) = p) (eq : (if (1 : Int) = 0 then μ0 M 45 else μ0 M 47) = q)
    (nxt : ∀ μ' R', RG ε μ' M R' → FT M 1 μ0 μ' → (∀ s, ¬ tme s → s ≠ 54 → s ≠ 67 → s ≠ 56 → s ≠ 69 → s ≠ 58 → s ≠ 71 → R' s = R0 s) → MLc μ' M 1 (-1) R' h v m c code n 54 67 56 69 58 71 → G cd_X12_judge Q X 84 [(0, (2, M)), (3, (0, 1 + 1))] [] ε μ') : G cd_X12_judge Q X 84 [(0, (2, M)), (3, (0, 1))] [] ε μ0 := by
  have q0 := A.1
  have hg : (-1 : Int) = 1 ∨ (-1 : Int) = -1 := by decide
  have tu : ¬ tme 54 := by unfold tme tmp; decide
  have tl : ¬ tme 67 := by unfold tme tmp; decide
  have tu1 : ¬ tme 56 := by unfold tme tmp; decide
  have tl1 : ¬ tme 69 := by unfold tme tmp; decide
  have tu2 : ¬ tme 58 := by unfold tme tmp; decide
  have tl2 : ¬ tme 71 := by unfold tme tmp; decide
  have hexV : ∃ t, 0 ≤ t ∧ t < (T : Int) ∧ 0 < vv t := by
    obtain ⟨t, t1, t2, t3, t4⟩ := P.2.2.2
    obtain ⟨s, s1, s2, _, s4, _⟩ := TTh.2.1.1 t ⟨t1, t2⟩ t3
    exact ⟨s, s1, s2, by rw [s4]; exact t4⟩
  apply g_X12_judge_84
  rw [ep, eq, show w32 (3 * 1) = 3 by decide]
  refine fun _ _ => ⟨fun z => absurd z (by decide), fun _ v4 e4 => ⟨⟨fun _ => H0.1.k, fun _ => H0.1.k⟩, fun t et => ⟨⟨fun _ => H0.1.k, fun _ => H0.1.k⟩, fun t1 et1 => ⟨H0.1.k, ?_⟩⟩⟩⟩
  rw [e4, et, et1]
  refine rg_worth_3 H0 (by omega) (by omega) (fun μ1 H1 f1 => ?_)
  have r1u : up (up R0 54 p) 67 q 54 = p := by simp only [up, reduceIte, Int.reduceEq]
  have r1l : up (up R0 54 p) 67 q 67 = q := by simp only [up, reduceIte, Int.reduceEq]
  have fr1 : ∀ s, s ≠ 54 → s ≠ 67 → up (up R0 54 p) 67 q s = R0 s := fun s s1 s2 => by rw [up_ne s2, up_ne s1]
  generalize hR1 : up (up R0 54 p) 67 q = R1 at *
  apply g_X12_judge_130
  refine fun _ _ _ => ⟨H1.1.k, rg_leastV_3 H1 (V0.fb f1) hT TTh.2.2 (by rw [r1u]; exact bd_i ip) (by rw [r1l]; exact bd_i iq) (by rw [r1l]; exact q0) hexV (fun μ2 R2 H2 y0 b2 b3 mxV fr2 f2 => ?_)⟩
  rw [r1u, r1l] at mxV
  have r2u : R2 54 = p := (fr2 _ tu (by decide) (by decide)).trans r1u
  have r2l : R2 67 = q := (fr2 _ tl (by decide) (by decide)).trans r1l
  apply g_X12_judge_136
  refine fun _ _ _ => ⟨H2.1.k, rg_leastM_3 H2 ((W0.fb f1).fb f2) n48 B (by rw [r2u]; exact bd_i ip) (by rw [r2l]; exact bd_i iq) b2 b3 (by rw [r2l]; exact q0) y0 P.1 (fun μ3 R3 H3 w0 b4 b5 mxM fr3 f3 => ?_)⟩
  rw [r2u, r2l] at mxM
  have r3u : R3 54 = p := (fr3 _ tu (by decide) (by decide)).trans r2u
  have r3l : R3 67 = q := (fr3 _ tl (by decide) (by decide)).trans r2l
  have r3u1 : R3 56 = R2 56 := fr3 _ tu1 (by decide) (by decide)
  have r3l1 : R3 69 = R2 69 := fr3 _ tl1 (by decide) (by decide)
  have F3 : FB M μ0 μ3 := (f1.trans f2).trans f3
  apply g_X12_judge_142
  refine fun _ _ => ⟨H3.1.k, rg_touches_3 H3 (W0.fb F3) n48 B (by rw [r3u]; exact bd_i ip) (by rw [r3l]; exact bd_i iq) (by rw [r3u1]; exact b2) (by rw [r3l1]; exact b3) b4 b5 (fun x => (F3 _ x (nbc (by decide))).trans (hcode x)) (fun μ4 R4 H4 k89 k88 fr4 f4 => ?_)⟩
  apply g_X12_judge_147
  refine fun _ _ v3 e3 => ?_
  rw [e3, show w32 ((1 : Int) + 1) = 1 + 1 by decide]
  clear e3
  refine nxt μ4 R4 H4 ((FT.of F3).trans f4) (fun s s0 s1 s2 s3 s4 s5 s6 => ?_) ?_
  · rw [fr4 s s0, fr3 s s0 s5 s6, fr2 s s0 s3 s4]; exact fr1 s s1 s2
  · rw [r3u, r3l, r3u1, r3l1] at k89 k88
    have e4u : R4 54 = p := (fr4 _ tu).trans r3u
    have e4l : R4 67 = q := (fr4 _ tl).trans r3l
    have e4u1 : R4 56 = R2 56 := (fr4 _ tu1).trans r3u1
    have e4l1 : R4 69 = R2 69 := (fr4 _ tl1).trans r3l1
    have e4u2 : R4 58 = R3 58 := fr4 _ tu2
    have e4l2 : R4 71 = R3 71 := fr4 _ tl2
    unfold MLc
    rw [e4u, e4l, e4u1, e4l1, e4u2, e4l2]
    refine ⟨q0, y0, w0, bd_i ip, bd_i iq, b2, b3, b4, b5, fun X' Y' Z' D' lx => ?_⟩
    have xh := lx_h hg lx A
    have xv := lx_v P lx TTh q0 xh y0 mxV
    have xm := lx_m lx q0 xh y0 xv w0 mxM
    have eg : (fun b => decide (KT h v m c p q (R2 56) (R2 69) (R3 58) (R3 71) b = 0)) = (fun b => decide (wo h v m c b X' Y' Z' D' = 0)) := funext (fun b => by
      have := lx_t (h := h) (v := v) (m := m) (c := c) (i := b) lx.1.1 q0 xh y0 xv w0 xm
      exact decide_eq_decide.mpr this)
    rw [eg] at k89 k88
    exact ⟨xh, xv, xm, k89, k88⟩
