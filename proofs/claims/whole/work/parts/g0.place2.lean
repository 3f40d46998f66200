set_option maxHeartbeats 2000000
/-! ===== pair of calls: place ===== -/
theorem place_fin {ε : m_E} {μ μ1 μ2 μ3 : m_M} {X a A p s SS : Int} {ow R : Int → Int} (S : SL ε X) (G' : RG ε μ (X + 34) R) (J : JV μ (X + 20) (X + 34) R) (P : PG μ (X + 29) (X + 34)) (C : Core ε μ X ow (sgM μ (X + 34))) (K : CAa ε μ X ow (sgM μ (X + 34)) a A) (hA : μ (X + 3) a = A) (p0 : 0 ≤ p) (p1 : p < sgM μ (X + 34) 15 a) (s0 : -2 ≤ s) (s1 : s < sgM μ (X + 34) 0 14) (hS0 : s < 0 → SS = 0) (hS1 : 0 ≤ s → SS = μ (X + 2) s)
    (g1 : ∀ b j, ¬ ((b = A + 6 ∨ b = A + 7) ∧ j = p) → ¬ (b = A ∧ (j = 13 ∨ j = 16 ∨ j = 17)) → b ≠ A + 3 → b ≠ A + 4 → b ≠ A + 5 → μ1 b j = μ b j) (v6 : μ1 (A + 6) p = s) (v7 : μ1 (A + 7) p = SS) (v16 : μ1 A 16 = 0) (v17 : μ1 A 17 = 0) (f2 : ∀ b j, b ≠ X + 141 → μ2 b j = μ1 b j)
    (g3 : ∀ b j, ¬ (b = X + 34 ∧ (j = 0 ∨ j = 66)) → ¬ (b = X + 34 + 16 ∧ j = 10 * a + p) → ¬ ((b = X + 34 + 20 ∨ b = X + 34 + 21 ∨ b = X + 34 + 22) ∧ 6 * a ≤ j ∧ j < 6 * a + 6) → ¬ (b = X + 34 + 19 ∧ j = a) → μ3 b j = μ2 b j) (w66 : μ3 (X + 34) 66 = -1) (w16 : μ3 (X + 34 + 16) (10 * a + p) = s) (klo' : LOa μ3 (sgM μ3 (X + 34)) a A) : Rel ε μ3 X := by
  obtain ⟨kL, xx, ko, kpl, kpi, klo, ksl, ksp, kor⟩ := K.parts
  have n10 := K.n
  have o0 := ko 0 (by decide) (by decide)
  rw [Int.add_zero] at o0
  have od : ∀ d, 0 ≤ d → d ≤ 10 → ow (A + d) = 3 * a + 2 := ko
  have m3 : ∀ b j, X + 141 < b → μ3 b j = μ1 b j := fun b j h => by rw [g3 b j (by omega) (by omega) (by omega) (by omega), f2 b j (by omega)]
  have lo : ∀ b j, b ≤ X + 140 → ¬ (b = X + 34 ∧ (j = 0 ∨ j = 66)) → ¬ (b = X + 34 + 16 ∧ j = 10 * a + p) → ¬ ((b = X + 34 + 20 ∨ b = X + 34 + 21 ∨ b = X + 34 + 22) ∧ 6 * a ≤ j ∧ j < 6 * a + 6) → ¬ (b = X + 34 + 19 ∧ j = a) → μ3 b j = μ b j := fun b j h h1 h2 h3 h4 => by rw [g3 b j h1 h2 h3 h4, f2 b j (by omega), g1 b j (by omega) (by omega) (by omega) (by omega) (by omega)]
  have hi : ∀ b j, X + 141 < b → ¬ ((b = A + 6 ∨ b = A + 7) ∧ j = p) → ¬ (b = A ∧ (j = 13 ∨ j = 16 ∨ j = 17)) → b ≠ A + 3 → b ≠ A + 4 → b ≠ A + 5 → μ3 b j = μ b j := fun b j h h1 h2 h3 h4 h5 => by rw [m3 b j h, g1 b j h1 h2 h3 h4 h5]
  have sg : ∀ o j, (1 ≤ o ∧ o ≤ 15) ∨ o = 17 ∨ o = 18 ∨ o = 23 ∨ o = 24 → sgM μ3 (X + 34) o j = sgM μ (X + 34) o j := fun o j o1 => lo _ _ (by omega) (by omega) (by omega) (by omega) (by omega)
  have s14 : sgM μ3 (X + 34) 0 14 = sgM μ (X + 34) 0 14 := lo _ _ (by omega) (by omega) (by omega) (by omega) (by omega)
  clear f2 g1 g3
  refine Rel.mk' (ow := ow) S G' J P EX.rf (fun b j h => ?_) (C.arch (a := a) EX.rf (fun b j h1 h2 h3 => ?_) (fun _ _ => ?_) (C.2.2.2.2.no (lo _ _ (by omega) (by omega) (by omega) (by omega) (by omega)) (fun i _ => sg 18 i (by decide)) (by show μ3 (X + 34 + 0) 66 = -1; rw [Int.add_zero]; exact w66)))
  · unfold kpt at h
    exact lo _ _ (by omega) (by omega) (by omega) (by omega) (by omega)
  · rcases Int.lt_or_le (X + 141) b with y | y
    · have nA : ∀ d, 0 ≤ d → d ≤ 10 → b ≠ A + d := fun d d0 d1 z => h3 ⟨y, by rw [z]; exact od d d0 d1⟩
      refine hi b j y (fun z => ?_) (fun z => h3 ⟨y, by rw [z.1]; exact o0⟩) (nA 3 (by decide) (by decide)) (nA 4 (by decide) (by decide)) (nA 5 (by decide) (by decide))
      rcases z.1 with e | e
      · exact nA 6 (by decide) (by decide) e
      · exact nA 7 (by decide) (by decide) e
    · refine lo b j ?_ (fun z => ?_) (fun z => h2 (Or.inr (Or.inl ⟨z.1, by omega, by omega⟩))) (fun z => h2 (Or.inr (Or.inr (Or.inr (Or.inr (Or.inr (Or.inl z))))))) (fun z => h2 (Or.inr (Or.inr (Or.inr (Or.inr (Or.inl z))))))
      · have : b ≠ X + 141 := fun z => h1 (Or.inr (Or.inl z))
        omega
      · rcases z.2 with e | e
        · exact h1 (Or.inr (Or.inr (Or.inr (Or.inr (Or.inr (Or.inr ⟨z.1, Or.inl e⟩))))))
        · exact h2 (Or.inr (Or.inr (Or.inr (Or.inr (Or.inr (Or.inr (Or.inr (Or.inl ⟨z.1, Or.inl e⟩))))))))
  · rw [hA]
    refine CAa.of (by rw [sg 15 a (by decide)]; exact kL) xx ko ?_ (kpi.go ⟨sg _ _ (by decide), sg _ _ (by decide)⟩ (fun i _ _ => sg _ _ (by decide)) (fun b j h => hi _ _ (by omega) (by omega) (by omega) (by omega) (by omega) (by omega))) klo' (ksl.go ⟨sg _ _ (by decide), sg _ _ (by decide)⟩ (fun b j h => hi _ _ (by omega) (by omega) (by omega) (by omega) (by omega) (by omega))) (Or.inl (by rw [m3 _ _ (by omega)]; exact v16)) (Or.inl (by rw [m3 _ _ (by omega)]; exact v17))
    intro t t0 t1
    rw [sg 15 a (by decide)] at t1
    have mX : ∀ j, μ3 (X + 2) j = μ (X + 2) j := fun j => lo _ _ (by omega) (by omega) (by omega) (by omega) (by omega)
    by_cases z : t = p
    · have e16 : sgM μ3 (X + 34) 16 (10 * a + t) = s := by rw [z]; exact w16
      have e6 : μ3 (A + 6) t = s := by rw [m3 _ _ (by omega), z]; exact v6
      have e7 : μ3 (A + 7) t = SS := by rw [m3 _ _ (by omega), z]; exact v7
      rw [e16, e6, e7, s14, mX]
      exact ⟨rfl, s0, s1, hS0, hS1⟩
    · have e16 : sgM μ3 (X + 34) 16 (10 * a + t) = sgM μ (X + 34) 16 (10 * a + t) := lo _ _ (by omega) (by omega) (by omega) (by omega) (by omega)
      rw [e16, s14, mX, hi (A + 6) t (by omega) (by omega) (by omega) (by omega) (by omega) (by omega), hi (A + 7) t (by omega) (by omega) (by omega) (by omega) (by omega) (by omega)]
      exact kpl t t0 t1
theorem LOa.cmp {μ' σ σ' μ : m_M} {a A : Int} {n : Nat} {g : Int → Bool} (H : LOa μ σ a A) (hn : σ 19 a = n) (c13 : μ' A 13 = ct g n) (c19 : σ' 19 a = ct g n) (t3 : TL g (fun j => σ 20 (6 * a + j)) n (μ' (A + 3)) 0) (t4 : TL g (fun j => σ 21 (6 * a + j)) n (μ' (A + 4)) 0) (t5 : TL g (fun j => σ 22 (6 * a + j)) n (μ' (A + 5)) 0) (u3 : TL g (fun j => σ 20 (6 * a + j)) n (σ' 20) (6 * a)) (u4 : TL g (fun j => σ 21 (6 * a + j)) n (σ' 21) (6 * a)) (u5 : TL g (fun j => σ 22 (6 * a + j)) n (σ' 22) (6 * a)) : LOa μ' σ' a A := by
  obtain ⟨h1, h2, h3, h4⟩ := H
  have cl := ct_le g n
  refine ⟨by rw [c13, c19], by rw [c19]; omega, by rw [c19]; omega, fun i i0 i1 => ?_⟩
  rw [c19] at i1
  obtain ⟨j, hj, hgj, hcj⟩ := ct_hit (g := g) (q := i.toNat) (n := n) (by omega)
  have ei : i = (ct g j : Int) := by omega
  have a3 := t3 j hj hgj
  have a4 := t4 j hj hgj
  have a5 := t5 j hj hgj
  have b3 := u3 j hj hgj
  have b4 := u4 j hj hgj
  have b5 := u5 j hj hgj
  rw [Int.zero_add] at a3 a4 a5
  rw [ei, a3, a4, a5, b3, b4, b5]
  exact ⟨⟨rfl, rfl, rfl⟩, (h4 j (by omega) (by omega)).2⟩
theorem pr_place {ε : m_E} {μ : m_M} {X a p s : Int} {codes : Int → Int} (c1 : codes 1 = 1) (H : Rel ε μ X) : PAIR (fun ε μ Q Y => o_X10_place [(2, X), (0, a), (0, p), (0, s)] ε μ Q Y) (fun ε μ Q Y => o_X12_place [(2, X + 34), (0, a), (0, p), (0, s)] ε μ Q Y) codes ε μ X := by
  intro QC XC hq hx
  have H' := H
  obtain ⟨ow, R, S, G', J, P, C⟩ := H
  have e27 : sgM μ (X + 34) 0 27 = μ (X + 34) 27 := by unfold sgM; rw [Int.add_zero]
  have e14 : sgM μ (X + 34) 0 14 = μ (X + 34) 14 := by unfold sgM; rw [Int.add_zero]
  have e15 : sgM μ (X + 34) 15 a = μ (X + 34 + 15) a := rfl
  have a12 := C.2.2.2.1.2.2.1
  apply e_X10_place
  intro T _ _ _
  refine ⟨S.1.k, sp_X10_archWithPlace S C.2.2.2.1 (fun q z hz => hx 1 _ _ (by rw [c1]; decide) ?_) (fun a0 a1 p0 p1 K => ?_)⟩
  · rw [c1]
    refine aft_thr H' (by decide) EX.nx (fun μ2 Q Y f2 G2 K => ?_)
    have f27 : μ2 (X + 34) 27 = μ (X + 34) 27 := f2 _ _ (by omega)
    have f15 : μ2 (X + 34 + 15) a = μ (X + 34 + 15) a := f2 _ _ (by omega)
    apply e_X12_place
    refine fun _ _ _ _ => ⟨G2.1.k, sp_X12_isPlace G2.1 (by omega) (fun y1 y2 y3 y4 => by omega) (fun y => ?_)⟩
    apply g_X12_place_6
    exact fun _ _ _ _ _ => ⟨fun z => absurd rfl z, fun _ => K⟩
  · have xx := K.2.1
    have n10 := K.n
    have thr : (s < -2 ∨ sgM μ (X + 34) 0 14 ≤ s) → ∀ z : Int, nx ε ≤ z → XC 1 (enx ε z) μ := fun why z hz => by
      refine hx 1 _ _ (by rw [c1]; decide) ?_
      rw [c1]
      refine aft_thr H' (by decide) EX.nx (fun μ2 Q Y f2 G2 K' => ?_)
      have f27 : μ2 (X + 34) 27 = μ (X + 34) 27 := f2 _ _ (by omega)
      have f15 : μ2 (X + 34 + 15) a = μ (X + 34 + 15) a := f2 _ _ (by omega)
      have f14 : st μ2 (X + 34) 0 0 (X + 34) 14 = μ (X + 34) 14 := by rw [sx_oi (by decide)]; exact f2 _ _ (by omega)
      apply e_X12_place
      refine fun _ _ _ _ => ⟨G2.1.k, sp_X12_isPlace G2.1 (by omega) (fun y1 y2 y3 y4 => ?_) (fun y => by omega)⟩
      apply g_X12_place_6
      rw [f14]
      refine fun _ _ _ _ _ => ⟨fun _ => ⟨fun _ => G2.1.k, fun t1 ht1 => ⟨G2.1.k, fun μ3 m3 => ⟨G2.1.k, ?_⟩⟩⟩, fun z => absurd z (by decide)⟩
      have et : t1 = 1 := by
        rw [ht1]
        by_cases y : s < -2
        · rw [if_pos y]
        · rw [if_neg y, if_neg (by omega)]
      rw [m3, et, sx_same, st_st]
      exact ⟨fun y => absurd y (by decide), fun _ => K'⟩
    -- the reference, up to its loads
    have mid : -2 ≤ s → s < sgM μ (X + 34) 0 14 → ∀ {μ2 : m_M} {Q Y : m_Po}, (∀ b j, X + 34 ≤ b → b ≤ X + 140 → μ2 b j = μ b j) → (∀ μ3 : m_M, (∀ b j, ¬ (b = X + 34 ∧ (j = 0 ∨ j = 66)) → ¬ (b = X + 34 + 16 ∧ j = 10 * a + p) → μ3 b j = μ2 b j) → μ3 (X + 34) 0 = 0 → μ3 (X + 34) 66 = -1 → μ3 (X + 34 + 16) (10 * a + p) = s → (s < 0 → G cd_X12_place Q Y 72 [(0, (2, X + 34)), (1, (0, a)), (2, (0, p)), (4, (0, 0)), (5, (0, 6 * a))] [] ε μ3) ∧ (0 ≤ s → Q 0 ε μ3)) → o_X12_place [(2, X + 34), (0, a), (0, p), (0, s)] ε μ2 Q Y := fun s0 s1 {μ2 Q Y} m2 hG => by
      have LM2 := G'.1
      have f27 : μ2 (X + 34) 27 = μ (X + 34) 27 := m2 _ _ (by omega) (by omega)
      have f15 : μ2 (X + 34 + 15) a = μ (X + 34 + 15) a := m2 _ _ (by omega) (by omega)
      have f14 : st μ2 (X + 34) 0 0 (X + 34) 14 = μ (X + 34) 14 := by rw [sx_oi (by decide)]; exact m2 _ _ (by omega) (by omega)
      apply e_X12_place
      refine fun _ _ _ _ => ⟨LM2.k, sp_X12_isPlace LM2 (by omega) (fun y1 y2 y3 y4 => ?_) (fun y => by omega)⟩
      apply g_X12_place_6
      rw [f14]
      refine fun _ _ _ _ _ => ⟨fun _ => ⟨fun _ => LM2.k, fun t1 ht1 => ⟨LM2.k, fun μ3 m3 => ⟨LM2.k, ?_⟩⟩⟩, fun z => absurd z (by decide)⟩
      rw [if_neg (by omega), if_pos (by omega)] at ht1
      rw [ht1, st_st] at m3
      have z3 : μ3 (X + 34) 0 = 0 := by rw [m3, sx_same]
      rw [z3, LM2.f18.1, w32_id (show i32 (10 * a) by unfold i32; omega), w32_id (show i32 (10 * a + p) by unfold i32; omega), w32_id (show i32 (6 * a) by unfold i32; omega)]
      refine ⟨fun _ => ⟨LM2.f18.2.1, by omega, by rw [LM2.f18.2.2]; omega, fun μ4 m4 μ5 m5 => ?_⟩, fun y => absurd y (by decide)⟩
      obtain ⟨k1, k2⟩ := hG μ5 (fun b j h h' => by rw [m5, st, if_neg (fun z => h ⟨z.1, Or.inr z.2⟩), m4, st, if_neg h', m3, st, if_neg (fun z => h ⟨z.1, Or.inl z.2⟩)]) (by rw [m5, sx_oi (by decide), m4, sx_oa (by omega)]; exact z3) (by rw [m5, sx_same]) (by rw [m5, sx_oa (by omega), m4, sx_same])
      exact ⟨fun q v4 h4 v5 h5 => by rw [h4, h5]; exact k1 q, k2⟩
    have ret : ∀ ε' μ', QC 0 ε' μ' → G cd_X10_place QC XC 41 [] [] ε' μ' := fun ε' μ' hz => by
      apply g_X10_place_41
      exact fun _ => hz
    obtain ⟨kL, _, ko, kpl, kpi, klo, ksl, ksp, kor⟩ := K.parts
    have T19 : (s = -1 ∨ s = -2) → G cd_X10_place QC XC 19 [(2, (0, p)), (3, (0, s)), (4, (2, μ (X + 3) a))] [] ε μ := fun hs => by
      have n14 := C.2.2.1.2.1
      obtain ⟨n, hn⟩ : ∃ n : Nat, sgM μ (X + 34) 19 a = n := ⟨(sgM μ (X + 34) 19 a).toNat, by have := klo.2.1; omega⟩
      have n6 : n ≤ 6 := by have := klo.2.2.1; omega
      apply g_X10_place_19
      refine fun _ _ _ => ⟨kL.k, ?_⟩
      apply e_X0_empty
      refine fun _ _ _ => ⟨kL.k, sp_X0_set kL p0 p1 (Or.inl rfl) (fun μ1 g1 v6 v7 v16 v17 => ?_)⟩
      apply g_X0_empty_7
      intro _ _ v3 h3 v4 h4
      rw [h3, h4]
      have cp : ∀ d o, (d = 3 ∧ o = 20) ∨ (d = 4 ∧ o = 21) ∨ (d = 5 ∧ o = 22) → CP (fun j => decide (sgM μ (X + 34) 20 (6 * a + j) ≠ p)) (fun j => sgM μ (X + 34) o (6 * a + j)) 0 n (μ1 (μ (X + 3) a + d)) 0 := fun d o hd => by
        refine ⟨fun j hj => absurd hj (by omega), fun j _ hj => ?_⟩
        rw [Int.zero_add, g1 _ _ (by omega) (by omega)]
        have := (klo.2.2.2 j (by omega) (by omega)).1
        rcases hd with ⟨h1, h2⟩ | ⟨h1, h2⟩ | ⟨h1, h2⟩ <;> subst h1 h2
        · exact this.1
        · exact this.2.1
        · exact this.2.2
      refine em_12 (n := n) (g := fun j => decide (sgM μ (X + 34) 20 (6 * a + j) ≠ p)) (k3 := fun j => sgM μ (X + 34) 20 (6 * a + j)) (k4 := fun j => sgM μ (X + 34) 21 (6 * a + j)) (k5 := fun j => sgM μ (X + 34) 22 (6 * a + j)) kL n6 (fun _ => rfl) n 0 (by omega) μ1 (by rw [g1 _ _ (by omega) (by omega), klo.1, hn]) (cp 3 20 (by decide)) (cp 4 21 (by decide)) (cp 5 22 (by decide)) (fun μC gC w13 t3 t4 t5 => ?_)
      apply g_X10_place_26
      intro _
      refine ret _ _ (hq _ _ _ ⟨EX.rf, fun b j h => by rw [gC _ _ (by omega) (by omega) (by omega) (by omega), g1 _ _ (by omega) (by omega)], fun μ2 f2 Q Y K2 => ?_⟩)
      have gA : ∀ b j, ¬ ((b = μ (X + 3) a + 6 ∨ b = μ (X + 3) a + 7) ∧ j = p) → ¬ (b = μ (X + 3) a ∧ (j = 13 ∨ j = 16 ∨ j = 17)) → b ≠ μ (X + 3) a + 3 → b ≠ μ (X + 3) a + 4 → b ≠ μ (X + 3) a + 5 → μC b j = μ b j := fun b j h h1 h2 h3 h4 => by rw [gC b j h2 h3 h4 (fun z => h1 ⟨z.1, Or.inl z.2⟩), g1 b j h (fun z => h1 ⟨z.1, Or.inr z.2⟩)]
      have m2 : ∀ b j, X + 34 ≤ b → b ≤ X + 140 → μ2 b j = μ b j := fun b j h h' => by rw [f2 _ _ (by omega), gA _ _ (by omega) (by omega) (by omega) (by omega) (by omega)]
      refine mid (by omega) (by omega) m2 (fun μ3 g3 z3 w66 w16 => ⟨fun _ => ?_, fun y => by omega⟩)
      have dp : ∀ o, o = 20 ∨ o = 21 ∨ o = 22 → CP (fun j => decide (sgM μ (X + 34) 20 (6 * a + j) ≠ p)) (fun j => sgM μ (X + 34) o (6 * a + j)) 0 n (μ3 (X + 34 + o)) (6 * a) := fun o ho => by
        refine ⟨fun j hj => absurd hj (by omega), fun j _ hj => ?_⟩
        rw [g3 _ _ (by omega) (by omega), m2 _ _ (by omega) (by omega)]; rfl
      have e19 : μ3 (X + 34 + 19) a = n := by rw [g3 _ _ (by omega) (by omega), m2 _ _ (by omega) (by omega)]; exact hn
      have W := pl_72 (Q := Q) (Y := Y) (n := n) (g := fun j => decide (sgM μ (X + 34) 20 (6 * a + j) ≠ p)) (k3 := fun j => sgM μ (X + 34) 20 (6 * a + j)) (k4 := fun j => sgM μ (X + 34) 21 (6 * a + j)) (k5 := fun j => sgM μ (X + 34) 22 (6 * a + j)) G'.1 a0 (by omega) n6 (fun _ => rfl) n 0 (by omega) μ3 e19 (dp 20 (by decide)) (dp 21 (by decide)) (dp 22 (by decide)) (fun μ4 g4 w19 u3 u4 u5 => ?_)
      · rw [show 6 * a + ((0 : Nat) : Int) = 6 * a by omega] at W
        exact W
      · have q4 : ∀ b j, ¬ (b = X + 34 ∧ (j = 0 ∨ j = 66)) → ¬ (b = X + 34 + 16 ∧ j = 10 * a + p) → ¬ ((b = X + 34 + 20 ∨ b = X + 34 + 21 ∨ b = X + 34 + 22) ∧ 6 * a ≤ j ∧ j < 6 * a + 6) → ¬ (b = X + 34 + 19 ∧ j = a) → μ4 b j = μ2 b j := fun b j h h1 h2 h3 => by rw [g4 b j h2 h3, g3 b j h h1]
        have hiA : ∀ d, 0 ≤ d → μ4 (μ (X + 3) a + d) = μC (μ (X + 3) a + d) := fun d d0 => by funext j; rw [q4 _ _ (by omega) (by omega) (by omega) (by omega), f2 _ _ (by omega)]
        have hiA0 : μ4 (μ (X + 3) a) 13 = μC (μ (X + 3) a) 13 := by rw [q4 _ _ (by omega) (by omega) (by omega) (by omega), f2 _ _ (by omega)]
        refine K2 _ _ (fun c j h => q4 _ _ (by omega) (by omega) (by omega) (by omega)) (place_fin (s := s) (SS := 0) S G' J P C K rfl p0 p1 (by omega) (by omega) (fun _ => rfl) (fun y => by omega) gA (by rw [gC _ _ (by omega) (by omega) (by omega) (by omega)]; exact v6) (by rw [gC _ _ (by omega) (by omega) (by omega) (by omega)]; exact v7) (by rw [gC _ _ (by omega) (by omega) (by omega) (by omega)]; exact v16) (by rw [gC _ _ (by omega) (by omega) (by omega) (by omega)]; exact v17) f2 q4 (by rw [g4 _ _ (by omega) (by omega)]; exact w66) (by rw [g4 _ _ (by omega) (by omega)]; exact w16) (klo.cmp hn (by rw [hiA0]; exact w13) w19 (by rw [hiA 3 (by decide)]; exact t3) (by rw [hiA 4 (by decide)]; exact t4) (by rw [hiA 5 (by decide)]; exact t5) u3 u4 u5)) (by rw [g4 _ _ (by omega) (by omega)]; exact z3) (fun _ => rfl) (fun j => q4 _ _ (by omega) (by omega) (by omega) (by omega))
    apply g_X10_place_6
    intro _ _ _ v4 h4
    subst h4
    refine ⟨fun y => T19 (Or.inl y), fun y1 => ⟨fun y2 => ⟨S.1.k, sp_X10_stoneAt S C.2.2.1 (fun w => thr (by omega)) (fun s0 s1 => ?_)⟩, fun y => T19 (Or.inr y)⟩⟩
    have st' := C.2.2.1.2.2.2 s s0 s1
    apply g_X10_place_38
    refine fun _ _ _ => ⟨kL.k, sp_X0_set kL p0 p1 (Or.inr st'.2.1.1) (fun μ1 g1 v6 v7 v16 v17 => ret _ _ (hq _ _ _ ⟨EX.rf, fun b j h => g1 _ _ (by omega) (by omega), fun μ2 f2 Q Y K2 => ?_⟩))⟩
    have m2 : ∀ b j, X + 34 ≤ b → b ≤ X + 140 → μ2 b j = μ b j := fun b j h h' => by rw [f2 _ _ (by omega), g1 _ _ (by omega) (by omega)]
    refine mid (by omega) s1 m2 (fun μ3 g3 z3 w66 w16 => ⟨fun y => by omega, fun _ => ?_⟩)
    refine K2 _ _ (fun c j h => g3 _ _ (by omega) (by omega)) (place_fin (s := s) (SS := μ (X + 2) s) S G' J P C K rfl p0 p1 (by omega) s1 (fun y => by omega) (fun _ => rfl) (fun b j h h1 _ _ _ => g1 b j h (fun z => h1 ⟨z.1, Or.inr z.2⟩)) v6 v7 v16 v17 f2 (fun b j h h1 _ _ => g3 b j h h1) w66 w16 (klo.go ?_ (fun i _ _ => ⟨?_, ?_, ?_⟩) (fun b j h => ?_))) z3 (fun _ => rfl) (fun j => g3 _ _ (by omega) (by omega))
    · show μ3 (X + 34 + 19) a = μ (X + 34 + 19) a
      rw [g3 _ _ (by omega) (by omega), m2 _ _ (by omega) (by omega)]
    · show μ3 (X + 34 + 20) _ = μ (X + 34 + 20) _
      rw [g3 _ _ (by omega) (by omega), m2 _ _ (by omega) (by omega)]
    · show μ3 (X + 34 + 21) _ = μ (X + 34 + 21) _
      rw [g3 _ _ (by omega) (by omega), m2 _ _ (by omega) (by omega)]
    · show μ3 (X + 34 + 22) _ = μ (X + 34 + 22) _
      rw [g3 _ _ (by omega) (by omega), m2 _ _ (by omega) (by omega)]
    · rw [g3 _ _ (by omega) (by omega), f2 _ _ (by omega), g1 _ _ (by omega) (by omega)]
