/-! ===== Corner.report ===== -/
theorem RC.frr {μ μ' : m_M} {C V w B n : Int} {h v m c : Int → Int} (hC : C = B + 6) (hV : V = C + 10) (H : RC μ B n h v m c) (f : FR C V w μ μ') : RC μ' B n h v m c := H.fr (fun b t _ _ => f b t (by omega) (by omega) (by omega) (by omega) (by omega))
theorem CS.frr {μ μ' : m_M} {C V w i j k s : Int} {h v m : Int → Int} (hV : V = C + 10) (S : CS μ C h v m i j k s) (f : FR C V w μ μ') : CS μ' C h v m i j k s := S.fr (fun b t _ _ => f b t (by omega) (by omega) (by omega) (by omega) (by omega))
theorem rp_loop {Q X : m_Po} {ε : m_E} {μ0 : m_M} {C B V w i j k s : Int} {n : Nat} {h v m c code : Int → Int} (L : LC ε C) (LB' : LB ε B) (L' : LV ε V) (hC : C = B + 6) (hV : V = C + 10) (hn : n ≤ 48) (hw : w = 0 ∨ w = 1) (W0 : RC μ0 B n h v m c) (R : RB h v m c n) (hi : 0 ≤ i ∧ i < n) (hj : 0 ≤ j ∧ j < n) (hk : 0 ≤ k ∧ k < n) (S0 : CS μ0 C h v m i j k s) (hcode : ∀ q, μ0 (B + 5) q = code q)
    (hh : ∀ μ', FR C V w μ0 μ' → (∀ b y, b ≠ C + 3 → b ≠ C + 4 → b ≠ V + 4 → b ≠ V + 5 → μ' b y = μ0 b y) → μ' (V + 5) w = ct (fun b => decide (wc h v m c i j k s b = 0)) n → TL (fun b => decide (wc h v m c i j k s b = 0)) code n (μ' (V + 4)) (48 * w) → Q 0 ε μ') :
    ∀ (d t : Nat) (μ : m_M), t + d = n → FR C V w μ0 μ → (∀ b y, b ≠ C + 3 → b ≠ C + 4 → b ≠ V + 4 → b ≠ V + 5 → μ b y = μ0 b y) → μ (V + 5) w = ct (fun b => decide (wc h v m c i j k s b = 0)) t → TL (fun b => decide (wc h v m c i j k s b = 0)) code t (μ (V + 4)) (48 * w) → G cd_X2_report Q X 95 [(0, (2, C)), (1, (2, B)), (2, (2, V)), (3, (0, w)), (4, (0, t))] [] ε μ := by
  intro d
  induction d with
  | zero =>
    intro t μ hd f f' hc hl
    have ht : t = n := by omega
    subst ht
    have W := W0.frr hC hV f
    have tn : ¬ (t : Int) < t := by omega
    apply g_X2_report_95
    rw [W.1]
    exact fun _ _ _ => ⟨LB'.k, fun _ => hh μ f f' hc hl, fun z => absurd z tn⟩
  | succ d ih =>
    intro t μ hd f f' hc hl
    have t0 : (0 : Int) ≤ t := by omega
    have t1 : ¬ (48 : Int) ≤ t := by omega
    have t2 : (t : Int) < n := by omega
    have tN : ¬ (n : Int) ≤ t := by omega
    have tm : t < 2147483647 := by omega
    have hd' : t + 1 + d = n := by omega
    have n48 : (n : Int) ≤ 48 := by omega
    have W := W0.frr hC hV f
    have S := S0.frr hV f
    have ctb := ct_le (fun b => decide (wc h v m c i j k s b = 0)) t
    have next : ∀ μ', FR C V w μ0 μ' → (∀ b y, b ≠ C + 3 → b ≠ C + 4 → b ≠ V + 4 → b ≠ V + 5 → μ' b y = μ0 b y) → μ' (V + 5) w = ct (fun b => decide (wc h v m c i j k s b = 0)) (t + 1) → TL (fun b => decide (wc h v m c i j k s b = 0)) code (t + 1) (μ' (V + 4)) (48 * w) → G cd_X2_report Q X 139 [(0, (2, C)), (1, (2, B)), (2, (2, V)), (3, (0, w)), (4, (0, t))] [] ε μ' := by
      intro μ' a1 a2 a3 a4
      apply g_X2_report_139
      refine fun _ _ _ v4 e4 => ?_
      rw [w32_succ tm e4]
      exact ih (t + 1) μ' hd' a1 a2 a3 a4
    apply g_X2_report_95
    rw [W.1]
    refine fun _ _ _ => ⟨LB'.k, fun z => absurd z tN, fun _ => ⟨fun z => absurd z t1, fun _ => ⟨L.k, sp_X2_weighBound L LB' hC n48 W R hi hj hk ⟨t0, t2⟩ S (fun μ1 f1 _ w1 => ?_)⟩⟩⟩
    have F1 : FR C V w μ0 μ1 := f.trans (FR.of2 f1)
    have F1' : ∀ b y, b ≠ C + 3 → b ≠ C + 4 → b ≠ V + 4 → b ≠ V + 5 → μ1 b y = μ0 b y := fun b y h1 h2 h3 h4 => (f1 b y h1 h2).trans (f' b y h1 h2 h3 h4)
    have c5 : ∀ y, μ1 (V + 5) y = μ (V + 5) y := fun y => f1 _ y (by omega) (by omega)
    have c4 : μ1 (V + 4) = μ (V + 4) := funext (fun y => f1 _ y (by omega) (by omega))
    apply g_X2_report_118
    rw [L.f3.1]
    refine fun _ _ _ => ⟨L.k, L.f3.2.1, sp_X9_sign L.f3.2.1 ?_⟩
    rw [w1]
    generalize hg : (fun b => decide (wc h v m c i j k s b = 0)) = g at *
    have gt : g t = decide (wc h v m c i j k s t = 0) := by rw [← hg]
    have wz : wo h v m c t (cnH v m c i j k s) (cnV h m c i j k s) (cnM h v c i j k s) (s * dt3 h v m i j k) = wc h v m c i j k s t := rfl
    rw [wz]
    generalize wc h v m c i j k s t = z at *
    apply g_X2_report_125
    refine fun _ _ _ _ => ⟨fun q => ?_, fun q => ⟨LB'.k, ?_⟩⟩
    · have z0 : z ≠ 0 := fun y => q (by rw [y]; rfl)
      have gf' : g t = false := by rw [gt]; exact decide_eq_false z0
      refine next μ1 F1 F1' ?_ ?_
      · rw [c5, hc, ct_at, gf']; simp
      · rw [c4]; exact hl.skip gf'
    · have z0 : z = 0 := by
        have a := sg_npos (by omega : sg z ≤ 0)
        have b := sg_nneg (by omega : 0 ≤ sg z)
        omega
      have gtt : g t = true := by rw [gt, z0]; decide
      refine sp_X1_codeAt LB' (n := n) (by rw [F1' _ _ (by omega) (by omega) (by omega) (by omega)]; exact W0.1) t0 t2 n48 (c := code t) (by rw [F1' _ _ (by omega) (by omega) (by omega) (by omega)]; exact hcode t) ?_
      apply g_X2_report_136
      refine fun _ _ _ _ _ => ⟨L'.k, sp_X8_keepTouched (C := C) L' hw ((c5 w).trans hc) (by omega) (by omega) (fun μ2 f2 f2' e5 e4 => ?_)⟩
      refine next μ2 (F1.trans f2) (fun b y h1 h2 h3 h4 => (f2' b y h3 h4).trans (F1' b y h1 h2 h3 h4)) ?_ ?_
      · rw [e5, ct_at, if_pos gtt]; rfl
      · refine hl.add gtt (fun y => ?_)
        rw [e4 y, c4]
theorem sp_X2_report {Q X : m_Po} {ε : m_E} {μ : m_M} {C B V w i j k s : Int} {n : Nat} {h v m c code : Int → Int} (L : LC ε C) (LB' : LB ε B) (L' : LV ε V) (hC : C = B + 6) (hV : V = C + 10) (hn : n ≤ 48) (hw : w = 0 ∨ w = 1) (W : RC μ B n h v m c) (R : RB h v m c n) (hi : 0 ≤ i ∧ i < n) (hj : 0 ≤ j ∧ j < n) (hk : 0 ≤ k ∧ k < n) (S : CS μ C h v m i j k s) (hcode : ∀ q, μ (B + 5) q = code q)
    (hh : ∀ μ', FR C V w μ μ' → μ' V 8 = 0 → μ' V 9 = 1 → μ' (V + 3) w = s * dt3 h v m i j k → W2 (μ' (V + 1) (3 * w)) (μ' (V + 2) (3 * w)) = cnH v m c i j k s → W2 (μ' (V + 1) (3 * w + 1)) (μ' (V + 2) (3 * w + 1)) = cnV h m c i j k s → W2 (μ' (V + 1) (3 * w + 2)) (μ' (V + 2) (3 * w + 2)) = cnM h v c i j k s →
      μ' (V + 5) w = ct (fun b => decide (wc h v m c i j k s b = 0)) n → TL (fun b => decide (wc h v m c i j k s b = 0)) code n (μ' (V + 4)) (48 * w) → Q 0 ε μ') : o_X2_report [(2, C), (2, B), (2, V), (0, w)] ε μ Q X := by
  have S' := S
  obtain ⟨⟨e0, e1, e2⟩, ⟨E0, E1, E2, E3, E4, E5, E6, E7, E8⟩, ev, hs, hp⟩ := S'
  obtain ⟨a1, a2, a3, a4⟩ := R i hi.1 hi.2
  obtain ⟨b1, b2, b3, b4⟩ := R j hj.1 hj.2
  obtain ⟨d1, d2, d3, d4⟩ := R k hk.1 hk.2
  have x0 : bd (crH v m j k) 41 := cr_bd b2 d3 b3 d2
  have x1 : bd (crV h m j k) 41 := cr_bd b3 d1 b1 d3
  have x2 : bd (crM h v j k) 41 := cr_bd b1 d2 b2 d1
  have y0 : bd (crH v m k i) 41 := cr_bd d2 a3 d3 a2
  have y1 : bd (crV h m k i) 41 := cr_bd d3 a1 d1 a3
  have y2 : bd (crM h v k i) 41 := cr_bd d1 a2 d2 a1
  have z0 : bd (crH v m i j) 41 := cr_bd a2 b3 a3 b2
  have z1 : bd (crV h m i j) 41 := cr_bd a3 b1 a1 b3
  have z2 : bd (crM h v i j) 41 := cr_bd a1 b2 a2 b1
  obtain ⟨p0, p1, p2, _⟩ := pa_bd hs a1 a2 a3 x0 x1 x2
  obtain ⟨q0, q1, q2, _⟩ := pa_bd hs a1 a2 a3 y0 y1 y2
  obtain ⟨r0, r1, r2, _⟩ := pa_bd hs a1 a2 a3 z0 z1 z2
  have n48 : (n : Int) ≤ 48 := by omega
  apply e_X2_report
  rw [ev]
  refine fun _ _ => ⟨L.k, L'.k, sp_X8_beginLine (C := C) L' hw (fun μ1 f1 g8 g9 g3 g5 => ?_)⟩
  apply g_X2_report_9
  refine fun _ _ v4 e4 => ?_
  rw [e4]
  have A1 : ∀ o y, o = 1 ∨ o = 2 → μ1 (C + o) y = μ (C + o) y := fun o y ho => f1 _ y (by omega) (by omega) (by omega) (by omega) (by omega)
  have c1 : ∀ q, μ1 (B + 4) q = c q := fun q => (f1 _ q (by omega) (by omega) (by omega) (by omega) (by omega)).trans (W.2.2.2.2 q)
  refine rp_num (t := 0) L LB' L' hC hV n48 (Or.inl rfl) hw hi hj hk (by rw [A1 _ _ (Or.inl rfl)]; exact e0) (by rw [A1 _ _ (Or.inl rfl)]; exact e1) (by rw [A1 _ _ (Or.inl rfl)]; exact e2) (by rw [A1 _ _ (Or.inr rfl)]; exact E0) (by rw [A1 _ _ (Or.inr rfl)]; exact E3) (by rw [A1 _ _ (Or.inr rfl)]; exact E6) c1 p0 q0 r0 a4 b4 d4 (fun μ2 f2 f2' w2 => ?_)
  have A2 : ∀ o y, o = 1 ∨ o = 2 → μ2 (C + o) y = μ (C + o) y := fun o y ho => (f2 _ y (by omega) (by omega) (by omega) (by omega) (by omega)).trans (A1 o y ho)
  have c2 : ∀ q, μ2 (B + 4) q = c q := fun q => (f2 _ q (by omega) (by omega) (by omega) (by omega) (by omega)).trans (c1 q)
  refine rp_num (t := 1) L LB' L' hC hV n48 (Or.inr (Or.inl rfl)) hw hi hj hk (by rw [A2 _ _ (Or.inl rfl)]; exact e0) (by rw [A2 _ _ (Or.inl rfl)]; exact e1) (by rw [A2 _ _ (Or.inl rfl)]; exact e2) (by rw [A2 _ _ (Or.inr rfl)]; exact E1) (by rw [A2 _ _ (Or.inr rfl)]; exact E4) (by rw [A2 _ _ (Or.inr rfl)]; exact E7) c2 p1 q1 r1 a4 b4 d4 (fun μ3 f3 f3' w3 => ?_)
  have A3 : ∀ o y, o = 1 ∨ o = 2 → μ3 (C + o) y = μ (C + o) y := fun o y ho => (f3 _ y (by omega) (by omega) (by omega) (by omega) (by omega)).trans (A2 o y ho)
  have c3 : ∀ q, μ3 (B + 4) q = c q := fun q => (f3 _ q (by omega) (by omega) (by omega) (by omega) (by omega)).trans (c2 q)
  refine rp_num (t := 2) L LB' L' hC hV n48 (Or.inr (Or.inr rfl)) hw hi hj hk (by rw [A3 _ _ (Or.inl rfl)]; exact e0) (by rw [A3 _ _ (Or.inl rfl)]; exact e1) (by rw [A3 _ _ (Or.inl rfl)]; exact e2) (by rw [A3 _ _ (Or.inr rfl)]; exact E2) (by rw [A3 _ _ (Or.inr rfl)]; exact E5) (by rw [A3 _ _ (Or.inr rfl)]; exact E8) c3 p2 q2 r2 a4 b4 d4 (fun μ4 f4 f4' w4 => ?_)
  have F4 : FR C V w μ μ4 := ((f1.trans f2).trans f3).trans f4
  have W4 := W.frr hC hV F4
  have S4 := S.frr hV F4
  have code4 : ∀ q, μ4 (B + 5) q = code q := fun q => (F4 _ q (by omega) (by omega) (by omega) (by omega) (by omega)).trans (hcode q)
  have k5 : μ4 (V + 5) w = 0 := by rw [f4' _ _ (by omega) (by omega), f3' _ _ (by omega) (by omega), f2' _ _ (by omega) (by omega)]; exact g5
  apply g_X2_report_12
  refine fun _ _ _ => ⟨fun _ v4 e4 => ?_, fun z => absurd z (by decide)⟩
  rw [e4]
  refine rp_loop L LB' L' hC hV hn hw W4 R hi hj hk S4 code4 (fun μ5 f5 f5' k6 k7 => ?_) n 0 μ4 (by omega) FR.rf (fun _ _ _ _ _ _ => rfl) (by rw [k5]; rfl) (fun q hq => by omega)
  have G4 : ∀ b y, b ≠ C + 3 → b ≠ C + 4 → b ≠ V + 4 → b ≠ V + 5 → μ5 b y = μ4 b y := f5'
  refine hh μ5 (F4.trans f5) ?_ ?_ ?_ ?_ ?_ ?_ k6 k7
  · rw [G4 _ _ (by omega) (by omega) (by omega) (by omega), f4' _ _ (by omega) (by omega), f3' _ _ (by omega) (by omega), f2' _ _ (by omega) (by omega)]; exact g8
  · rw [G4 _ _ (by omega) (by omega) (by omega) (by omega), f4' _ _ (by omega) (by omega), f3' _ _ (by omega) (by omega), f2' _ _ (by omega) (by omega)]; exact g9
  · rw [G4 _ _ (by omega) (by omega) (by omega) (by omega), f4' _ _ (by omega) (by omega), f3' _ _ (by omega) (by omega), f2' _ _ (by omega) (by omega)]; exact g3
  · rw [G4 _ _ (by omega) (by omega) (by omega) (by omega), G4 _ _ (by omega) (by omega) (by omega) (by omega), f4' _ _ (by omega) (by omega), f4' _ _ (by omega) (by omega), f3' _ _ (by omega) (by omega), f3' _ _ (by omega) (by omega)]
    rw [Int.add_zero] at w2
    exact w2
  · rw [G4 _ _ (by omega) (by omega) (by omega) (by omega), G4 _ _ (by omega) (by omega) (by omega) (by omega), f4' _ _ (by omega) (by omega), f4' _ _ (by omega) (by omega)]
    exact w3
  · rw [G4 _ _ (by omega) (by omega) (by omega) (by omega), G4 _ _ (by omega) (by omega) (by omega) (by omega)]
    exact w4
