set_option maxHeartbeats 2000000
/-! ===== pair of calls: load ===== -/
theorem mnF_congr {f g : Int → Int} : ∀ n : Nat, (∀ i : Int, 0 ≤ i → i < n → f i = g i) → mnF f n = mnF g n ∧ mxF f n = mxF g n := by
  intro n
  induction n with
  | zero => intro _; exact ⟨rfl, rfl⟩
  | succ n ih =>
    intro h
    obtain ⟨i1, i2⟩ := ih (fun i i0 i1 => h i i0 (by omega))
    have hn := h n (by omega) (by omega)
    unfold mnF mxF
    rw [i1, i2, hn]
    exact ⟨rfl, rfl⟩
theorem sp_X12_load_ok {Q Y : m_Po} {ε : m_E} {μ σ : m_M} {M a p x g : Int} (L : LM ε M) (S : SF μ M σ) (A : MA σ a) (G' : MG σ a) (ha : a < μ M 27) (a27 : μ M 27 ≤ 12) (p0 : 0 ≤ p) (p1 : p < σ 15 a) (g0 : 1 ≤ g) (g1 : g ≤ 100000)
    (h0 : (σ 19 a = 6 ∨ σ 16 (10 * a + p) < 0 ∨ (0 ≤ σ 16 (10 * a + p) ∧ (x < 10 * mnF (fun i => σ 6 (12 * σ 16 (10 * a + p) + i)) (σ 5 (σ 16 (10 * a + p))).toNat ∨ 10 * mxF (fun i => σ 6 (12 * σ 16 (10 * a + p) + i)) (σ 5 (σ 16 (10 * a + p))).toNat < x))) → Q (-1) ε (st μ M 0 0))
    (h1 : σ 19 a ≠ 6 → 0 ≤ σ 16 (10 * a + p) → 10 * mnF (fun i => σ 6 (12 * σ 16 (10 * a + p) + i)) (σ 5 (σ 16 (10 * a + p))).toNat ≤ x → x ≤ 10 * mxF (fun i => σ 6 (12 * σ 16 (10 * a + p) + i)) (σ 5 (σ 16 (10 * a + p))).toNat → ∀ μ' : m_M, (∀ b j, ¬ (b = M ∧ j = 0) → ¬ ((b = M + 20 ∨ b = M + 21 ∨ b = M + 22) ∧ j = 6 * a + σ 19 a) → ¬ (b = M + 19 ∧ j = a) → μ' b j = μ b j) → μ' M 0 = 0 → μ' (M + 20) (6 * a + σ 19 a) = p → μ' (M + 21) (6 * a + σ 19 a) = x → μ' (M + 22) (6 * a + σ 19 a) = g → μ' (M + 19) a = σ 19 a + 1 → Q (σ 19 a + 1) ε μ') : o_X12_load [(2, M), (0, a), (0, p), (0, x), (0, g)] ε μ Q Y := by
  have A' := A
  obtain ⟨a0, a1, n1, n2, s', l0, l1⟩ := A
  have sp := s' p p0 p1
  apply e_X12_load
  refine fun _ _ _ _ _ => ⟨L.k, sp_X12_isPlace L a27 (fun _ _ _ _ => ?_) (fun y => ?_)⟩
  · apply g_X12_load_6
    refine fun _ _ _ _ _ _ => ⟨fun _ t1 ht1 => ⟨L.k, fun μ1 m1 => ⟨L.k, ?_⟩⟩, fun z => absurd z (by decide)⟩
    rw [if_neg (by omega), if_pos g1] at ht1
    rw [ht1, st_st] at m1
    have S1 : SF μ1 M σ := fun o j o1 o2 => by rw [m1, sx_oa (by omega)]; exact S o j o1 o2
    have z1 : μ1 M 0 = 0 := by rw [m1, sx_same]
    rw [← m1] at h0
    rw [z1, L.f18.1, L.f21.1, w32_id (show i32 (10 * a) by unfold i32; omega), w32_id (show i32 (10 * a + p) by unfold i32; omega), S1 16 _ (by decide) (by decide), S1 19 _ (by decide) (by decide)]
    refine ⟨fun _ => ⟨L.f18.2.1, by omega, by rw [L.f18.2.2]; omega, fun v5 h5 => ⟨L.f21.2.1, a0, by rw [L.f21.2.2]; exact a1, fun q => h0 (Or.inl q), fun q => ⟨fun r v6 h6 v7 h7 v8 h8 => ?_, fun r => h0 (Or.inr (Or.inl (by rw [← h5]; exact r)))⟩⟩⟩, fun y => absurd y (by decide)⟩
    subst h5
    rw [w32_id (show i32 (12 * σ 16 (10 * a + p)) by unfold i32; omega)] at h8
    rw [h6, h7, h8]
    obtain ⟨n3, n12, gg⟩ := G'.1 p p0 p1 r
    have e5 : μ1 (M + 5) (σ 16 (10 * a + p)) = (((σ 5 (σ 16 (10 * a + p))).toNat : Nat) : Int) := by rw [S1 5 _ (by decide) (by decide)]; omega
    have e6 : (fun i => μ1 (M + 6) (12 * σ 16 (10 * a + p) + i)) = fun i => σ 6 (12 * σ 16 (10 * a + p) + i) := by funext i; exact S1 6 _ (by decide) (by decide)
    have e19 : μ1 (M + 19) a = σ 19 a := S1 19 _ (by decide) (by decide)
    refine load_88 L a0 a1 r sp e5 (by omega) (fun i i0 i1 => ?_) (by omega) (by omega) (fun y => ?_) (fun y1 y2 μ2 g2 w1 w2 w3 w4 => ?_)
    · rw [S1 6 _ (by decide) (by decide)]; exact (gg i i0 (by omega)).1
    · rw [e6] at y; exact h0 (Or.inr (Or.inr ⟨r, y⟩))
    · rw [e6] at y1 y2
      rw [e19] at g2 w1 w2 w3 w4 ⊢
      refine h1 q r y1 y2 μ2 (fun b j h h' h'' => ?_) ?_ w1 w2 w3 w4
      · rw [g2 b j h' h'', m1, st, if_neg h]
      · rw [g2 _ _ (by omega) (by omega)]; exact z1
  · rw [S 15 _ (by decide) (by decide)] at y; omega
theorem sp_X0_burden {Q Y : m_Po} {ε : m_E} {μ σ : m_M} {a A p x g : Int} (F : AF ε μ σ a A) (G' : MG σ a) (hf : ∀ i, 0 ≤ σ 16 (10 * a + p) → 0 ≤ i → i < σ 5 (σ 16 (10 * a + p)) → μ (fn ε (μ (A + 7) p) 1) (2 * i) = σ 6 (12 * σ 16 (10 * a + p) + i)) (hl : 0 ≤ σ 16 (10 * a + p) → kd ε (fn ε (μ (A + 7) p) 1) = 100 ∧ ln ε (fn ε (μ (A + 7) p) 1) = 2 * σ 5 (σ 16 (10 * a + p))) (p0 : 0 ≤ p) (p1 : p < σ 15 a)
    (h0 : (σ 19 a = 6 ∨ σ 16 (10 * a + p) < 0 ∨ (0 ≤ σ 16 (10 * a + p) ∧ (x < 10 * mnF (fun i => σ 6 (12 * σ 16 (10 * a + p) + i)) (σ 5 (σ 16 (10 * a + p))).toNat ∨ 10 * mxF (fun i => σ 6 (12 * σ 16 (10 * a + p) + i)) (σ 5 (σ 16 (10 * a + p))).toNat < x))) → Q (-1) ε μ)
    (h1 : σ 19 a ≠ 6 → 0 ≤ σ 16 (10 * a + p) → 10 * mnF (fun i => σ 6 (12 * σ 16 (10 * a + p) + i)) (σ 5 (σ 16 (10 * a + p))).toNat ≤ x → x ≤ 10 * mxF (fun i => σ 6 (12 * σ 16 (10 * a + p) + i)) (σ 5 (σ 16 (10 * a + p))).toNat → ∀ μ' : m_M, (∀ b j, ¬ ((b = A + 3 ∨ b = A + 4 ∨ b = A + 5) ∧ j = σ 19 a) → ¬ (b = A ∧ j = 13) → μ' b j = μ b j) → μ' (A + 3) (σ 19 a) = p → μ' (A + 4) (σ 19 a) = x → μ' (A + 5) (σ 19 a) = g → μ' A 13 = σ 19 a + 1 → Q (σ 19 a + 1) ε μ') : o_X0_burden [(2, A), (0, p), (0, x), (0, g)] ε μ Q Y := by
  obtain ⟨B, _⟩ := F
  have L := B.1
  have c13 := B.2.2.1
  have c0 := B.2.2.2.2.2.2.1
  have c6 := B.2.2.2.2.2.2.2
  apply e_X0_burden
  refine fun _ _ _ _ => ⟨L.k, sp_X0_blockAt B (fun nb' => ?_) (fun _ _ q2 q3 q4 => ?_)⟩
  · apply g_X0_burden_5
    intro _ _ _ _ v4 h4
    refine ⟨fun _ => h0 (Or.inr (Or.inl ?_)), fun z => absurd z (by omega)⟩
    unfold nb at nb'; omega
  · obtain ⟨n3, n12, gg⟩ := G'.1 p p0 p1 q2
    apply g_X0_burden_5
    intro _ _ _ _ v4 h4
    rw [h4, c13]
    refine ⟨fun z => absurd z (by omega), fun _ => ⟨L.k, fun y => h0 (Or.inl (by omega)), fun y => ⟨q4.1, sp_X7_spans (f := fun i => σ 6 (12 * σ 16 (10 * a + p) + i)) (n := (σ 5 (σ 16 (10 * a + p))).toNat) q4.1 (hl q2).1 (by rw [(hl q2).2]; omega) (by omega) (fun i i0 i1 => ⟨hf i q2 i0 (by omega), (gg i i0 (by omega)).1⟩) (fun y1 y2 => ?_) (fun y1 => ?_)⟩⟩⟩
    · apply g_X0_burden_27
      rw [L.f5.1, L.f6.1, L.f7.1, c13]
      refine fun _ _ _ _ _ => ⟨fun _ => ⟨L.k, L.f5.2.1, c0, by rw [L.f5.2.2]; exact y, fun μ1 m1 => ?_⟩, fun z => absurd z (by decide)⟩
      generalize hc : σ 19 a = c at *
      have e1 : μ1 A 13 = c := by rw [m1, sx_oa (by omega)]; exact c13
      rw [e1]
      refine ⟨L.f6.2.1, c0, by rw [L.f6.2.2]; exact y, fun μ2 m2 => ?_⟩
      have e2 : μ2 A 13 = c := by rw [m2, sx_oa (by omega)]; exact e1
      rw [e2]
      refine ⟨L.f7.2.1, c0, by rw [L.f7.2.2]; exact y, fun μ3 m3 μ4 m4 => ?_⟩
      have e3 : μ3 A 13 = c := by rw [m3, sx_oa (by omega)]; exact e2
      rw [e3, w32_id (show i32 (c + 1) by unfold i32; omega)] at m4
      have e4 : μ4 A 13 = c + 1 := by rw [m4, sx_same]
      rw [e4]
      refine h1 (by omega) q2 y1 y2 μ4 (fun b j h h' => ?_) ?_ ?_ ?_ e4
      · rw [m4, st, if_neg h', m3, st, if_neg (fun z => h ⟨Or.inr (Or.inr z.1), z.2⟩), m2, st, if_neg (fun z => h ⟨Or.inr (Or.inl z.1), z.2⟩), m1, st, if_neg (fun z => h ⟨Or.inl z.1, z.2⟩)]
      · rw [m4, sx_oa (by omega), m3, sx_oa (by omega), m2, sx_oa (by omega), m1, sx_same]
      · rw [m4, sx_oa (by omega), m3, sx_oa (by omega), m2, sx_same]
      · rw [m4, sx_oa (by omega), m3, sx_same]
    · apply g_X0_burden_27
      exact fun _ _ _ _ _ => ⟨fun z => absurd rfl z, fun _ => h0 (Or.inr (Or.inr ⟨q2, y1⟩))⟩
theorem pr_load {ε : m_E} {μ : m_M} {X a p x g : Int} {codes : Int → Int} (c1 : codes 1 = 1) (c2 : codes 2 = 2) (H : Rel ε μ X) : PAIR (fun ε μ Q Y => o_X10_load [(2, X), (0, a), (0, p), (0, x), (0, g)] ε μ Q Y) (fun ε μ Q Y => o_X12_load [(2, X + 34), (0, a), (0, p), (0, x), (0, g)] ε μ Q Y) codes ε μ X := by
  intro QC XC hq hx
  have H' := H
  obtain ⟨ow, R, S, G', J, P, C⟩ := H
  have e27 : sgM μ (X + 34) 0 27 = μ (X + 34) 27 := by unfold sgM; rw [Int.add_zero]
  have e15 : sgM μ (X + 34) 15 a = μ (X + 34 + 15) a := rfl
  have a12 := C.2.2.2.1.2.2.1
  apply e_X10_load
  intro T _ _ _ _
  refine ⟨S.1.k, sp_X10_archWithPlace S C.2.2.2.1 (fun q z hz => hx 1 _ _ (by rw [c1]; decide) ?_) (fun a0 a1 p0 p1 K => ?_)⟩
  · rw [c1]
    refine aft_thr H' (by decide) EX.nx (fun μ2 Q Y f2 G2 K => ?_)
    have f27 : μ2 (X + 34) 27 = μ (X + 34) 27 := f2 _ _ (by omega)
    have f15 : μ2 (X + 34 + 15) a = μ (X + 34 + 15) a := f2 _ _ (by omega)
    apply e_X12_load
    refine fun _ _ _ _ _ => ⟨G2.1.k, sp_X12_isPlace G2.1 (by omega) (fun y1 y2 y3 y4 => by omega) (fun y => ?_)⟩
    apply g_X12_load_6
    exact fun _ _ _ _ _ _ => ⟨fun z => absurd rfl z, fun _ => K⟩
  · obtain ⟨na, ng, nB, nf⟩ := K.need T C.2.2.1 a0 (by omega)
    have xx := K.2.1
    have n10 := K.n
    have thr : (g < 1 ∨ 100000 < g) → ∀ z : Int, nx ε ≤ z → XC 2 (enx ε z) μ := fun why z hz => by
      refine hx 2 _ _ (by rw [c2]; decide) ?_
      rw [c2]
      refine aft_thr H' (by decide) EX.nx (fun μ2 Q Y f2 G2 K' => ?_)
      have f27 : μ2 (X + 34) 27 = μ (X + 34) 27 := f2 _ _ (by omega)
      have f15 : μ2 (X + 34 + 15) a = μ (X + 34 + 15) a := f2 _ _ (by omega)
      apply e_X12_load
      refine fun _ _ _ _ _ => ⟨G2.1.k, sp_X12_isPlace G2.1 (by omega) (fun y1 y2 y3 y4 => ?_) (fun y => by omega)⟩
      apply g_X12_load_6
      refine fun _ _ _ _ _ _ => ⟨fun _ t1 ht1 => ⟨G2.1.k, fun μ3 m3 => ⟨G2.1.k, ?_⟩⟩, fun z => absurd z (by decide)⟩
      have et : t1 = 2 := by
        rw [ht1]
        by_cases y : g < 1
        · rw [if_pos y]
        · rw [if_neg y, if_neg (by omega)]
      rw [m3, et, sx_same, st_st]
      exact ⟨fun y => absurd y (by decide), fun _ => K'⟩
    have ret : ∀ z ε' μ', QC z ε' μ' → G cd_X10_load QC XC 40 [] [(0, z)] ε' μ' := fun z ε' μ' hz => by
      apply g_X10_load_40
      exact fun _ _ => hz
    have hC : 0 ≤ sgM μ (X + 34) 16 (10 * a + p) → SCr ε μ X ow (sgM μ (X + 34)) (sgM μ (X + 34) 16 (10 * a + p)) (fn ε (μ (μ (X + 3) a + 7) p) 1) := fun z => by
      have q := K.2.2.2.1 p p0 p1
      rw [q.2.2.2.2 z]
      exact (C.2.2.1.2.2.2 _ z q.2.2.1).2.2
    apply g_X10_load_6
    intro _ _ _ _ v5 h5
    subst h5
    refine ⟨fun y => thr (Or.inl y), fun g0 => ⟨fun g1 => ⟨K.1.k, ?_⟩, fun y => thr (Or.inr y)⟩⟩
    refine sp_X0_burden nf ng (fun i z i0 i1 => ((hC z).2.2.2.2.2.2 i i0 i1).1) (fun z => ⟨(hC z).1, (hC z).2.1⟩) p0 p1 (fun why => ret _ _ _ (hq _ _ _ ⟨EX.rf, fun _ _ _ => rfl, fun μ2 f2 Q Y K2 => ?_⟩)) (fun n6 z y1 y2 μ1 g1' w3 w4 w5 w13 => ret _ _ _ (hq _ _ _ ⟨EX.rf, fun b j h => g1' _ _ (by omega) (by omega), fun μ2 f2 Q Y K2 => ?_⟩))
    · have f27 : μ2 (X + 34) 27 = μ (X + 34) 27 := f2 _ _ (by omega)
      refine sp_X12_load_ok G'.1 (σ := sgM μ (X + 34)) (fun o j o1 o2 => f2 _ _ (by omega)) na ng (by omega) (by omega) p0 p1 g0 g1 (fun _ => K2 _ _ (fun c j h => sx_oa (by omega)) (Rel.st0 S G' J P C (fun b j h1 h2 => by rw [st, if_neg h2]; exact f2 b j h1)) sx_same (fun _ => rfl) (fun j => sx_oa (by omega))) (fun n6 z y1 y2 => ?_)
      rcases why with w | w | w
      · exact absurd w n6
      · omega
      · omega
    · have m2 : ∀ b j, X + 34 ≤ b → b ≤ X + 140 → μ2 b j = μ b j := fun b j h h' => by rw [f2 _ _ (by omega), g1' _ _ (by omega) (by omega)]
      have f27 : μ2 (X + 34) 27 = μ (X + 34) 27 := m2 _ _ (by omega) (by omega)
      refine sp_X12_load_ok G'.1 (σ := sgM μ (X + 34)) (fun o j o1 o2 => m2 _ _ (by omega) (by omega)) na ng (by omega) (by omega) p0 p1 g0 g1 (fun why => ?_) (fun _ _ _ _ μ3 g3 z3 u20 u21 u22 u19 => ?_)
      · rcases why with w | w | w
        · exact absurd w n6
        · omega
        · omega
      · obtain ⟨n3, n12, gg⟩ := ng.1 p p0 p1 z
        have bx := mF_rng (f := fun i => sgM μ (X + 34) 6 (12 * sgM μ (X + 34) 16 (10 * a + p) + i)) (sgM μ (X + 34) 5 (sgM μ (X + 34) 16 (10 * a + p))).toNat (fun i i0 i1 => (gg i i0 (by omega)).1)
        have c06 := K.parts.2.2.2.2.2.1
        exact K2 _ _ (fun c j h => g3 _ _ (by omega) (by omega) (by omega)) (load_fin S G' J P C K rfl rfl c06.2.1 (by have := c06.2.2.1; omega) ⟨by omega, by omega⟩ (by obtain ⟨⟨b1, b2⟩, b3, b4⟩ := bx; exact ⟨by omega, by omega⟩) g1' w3 w4 w5 w13 f2 g3 u20 u21 u22 u19) z3 (fun _ => rfl) (fun j => g3 _ _ (by omega) (by omega) (by omega))
