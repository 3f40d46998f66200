set_option maxHeartbeats 2000000
/-! ===== pairs of calls: room, strike ===== -/
theorem CAa.wh {ε : m_E} {μ μ1 σ : m_M} {X a P : Int} {ow : Int → Int} (T : TY ε μ) (K : CAa ε μ X ow σ a P) (C : CSt ε μ X ow σ) (a0 : 0 ≤ a) (a1 : a < 12) (f1 : FA2 P μ μ1) (s1 : SPc μ1 σ a P) (h : ho σ a = -1) (s16 : μ1 P 16 = 1) : WH ε μ1 σ X a P := by
  obtain ⟨na, ng, nB, nf⟩ := K.need T C a0 a1
  obtain ⟨_, x, _, c4, _, _, _, _, _, _, _, _, _, _, p0, p1, q0, q1, _, _⟩ := K
  refine ⟨na, ng, nB, h, p0, p1, q0, q1, x, nf.fa f1, s1, s16, fun p p0 p1 p2 => ?_⟩
  rw [f1 (P + 7) p (by omega) (by omega) (by omega), (c4 p p0 p1).2.2.2.2 p2]
  exact (C.2.2.2 _ p2 (c4 p p0 p1).2.2.1).2.2.2.2.2.2.1
/-- the class has used its rows and corner alone; so does the reference -/
theorem aft5 {om : m_E → m_M → m_Po → m_Po → Prop} {ε : m_E} {μ μ1 μC : m_M} {X a z : Int} {ow R : Int → Int} (S : SL ε X) (G' : RG ε μ (X + 34) R) (J : JV μ (X + 20) (X + 34) R) (P : PG μ (X + 29) (X + 34)) (C : Core ε μ X ow (sgM μ (X + 34))) (a0 : 0 ≤ a) (a1 : a < sgM μ (X + 34) 0 27) (f1 : FA2 (μ (X + 3) a) μ μ1) (s1 : SPc μ1 (sgM μ (X + 34)) a (μ (X + 3) a)) (fC : FC5 X μ1 μC)
    (hm : ∀ (μ2 : m_M) (Q Y : m_Po), (∀ b j, X + 34 ≤ b → b ≤ X + 140 → μ2 b j = μ b j) → (∀ μ5, (∀ b j, b ≠ X + 34 + 25 → (b < X + 34 + 26 ∨ X + 34 + 30 < b) → b ≠ X + 34 + 44 → b ≠ X + 34 + 45 → b ≠ X + 34 + 46 → ¬ (b = X + 34 ∧ (j = 0 ∨ j = 35 ∨ (42 ≤ j ∧ j ≤ 49))) → μ5 b j = μ2 b j) → μ5 (X + 34) 0 = 0 → Q z ε μ5) → om ε μ2 Q Y) : AFT om X 0 z ε μ ε μC := by
  have x := (C.2.2.2.1.2.2.2 a a0 a1).2.1
  refine ⟨EX.rf, fun b j h => ?_, fun μ2 f2 Q Y K => ?_⟩
  · rw [fC _ _ (by omega), f1 _ _ (by omega) (by omega) (by omega)]
  have m2 : ∀ b j, (b < X + 4 ∨ (X + 14 < b ∧ b ≠ X + 141)) → b ≠ μ (X + 3) a + 8 → b ≠ μ (X + 3) a + 9 → ¬ (b = μ (X + 3) a ∧ j = 16) → μ2 b j = μ b j := fun b j h h1 h2 h3 => by rw [f2 _ _ (by omega), fC _ _ (by omega), f1 _ _ h1 h2 h3]
  refine hm μ2 Q Y (fun b j h h' => m2 b j (by omega) (by omega) (by omega) (by omega)) (fun μ5 f5 z5 => ?_)
  refine K _ _ (fun c j h => f5 _ _ (by omega) (by omega) (by omega) (by omega) (by omega) (by omega)) (Rel.fin S G' J P C EX.rf a0 a1 (fun b j h h1 h2 h3 => ?_) (s1.fr (fun b j h => ?_))) z5 (fun _ => rfl) (fun j => f5 _ _ (by omega) (by omega) (by omega) (by omega) (by omega) (by omega))
  · unfold sc2 at h
    rw [f5 b j (by omega) (by omega) (by omega) (by omega) (by omega) (by omega), m2 b j (by omega) h1 h2 h3]
  · rw [f5 _ _ (by omega) (by omega) (by omega) (by omega) (by omega) (by omega), f2 _ _ (by omega), fC _ _ (by omega)]
theorem pr_room {ε : m_E} {μ : m_M} {X i : Int} {codes : Int → Int} (c1 : codes 1 = 1) (c3 : codes 3 = 2) (H : Rel ε μ X) : PAIR (fun ε μ Q Y => o_X10_room [(2, X), (0, i)] ε μ Q Y) (fun ε μ Q Y => o_X12_room [(2, X + 34), (0, i)] ε μ Q Y) codes ε μ X := by
  intro QC XC hq hx
  have H' := H
  obtain ⟨ow, R, S, G', J, P, C⟩ := H
  have e27 : sgM μ (X + 34) 0 27 = μ (X + 34) 27 := by unfold sgM; rw [Int.add_zero]
  apply e_X10_room
  intro T _
  have a12 := C.2.2.2.1.2.2.1
  refine ⟨S.1.k, sp_X10_archAt S C.2.2.2.1 (fun q z hz => hx 1 _ _ (by rw [c1]; decide) ?_) (fun q r K => ?_)⟩
  · rw [c1]
    refine aft_thr H' (by decide) EX.nx (fun μ2 Q Y f2 G2 K => ?_)
    apply e_X12_room
    refine fun _ _ => ⟨G2.1.k, sp_X12_isArch G2.1 (fun a b => ?_) (fun _ => ?_)⟩
    · rw [f2 _ _ (by omega)] at b; omega
    · apply g_X12_room_5
      exact fun _ _ _ => ⟨fun z => absurd rfl z, fun _ => K⟩
  · obtain ⟨na, ng, nB, nf⟩ := K.need T C.2.2.1 q (by omega)
    have x := K.2.1
    have sp0 := K.2.2.2.2.2.2.2.2.2.2.2.2.2.2.2.2.2.2.1
    apply g_X10_room_5
    intro _ v2 h2
    subst h2
    refine sp_X10_requireWhole nf ng sp0 (fun μ1 f1 s1 hho s16 => ?_) (fun μ1 f1 s1 hho z hz => hx 3 _ _ (by rw [c3]; decide) ?_)
    · have W := K.wh T C.2.2.1 q (by omega) f1 s1 hho s16
      obtain ⟨o, ho'⟩ := orc_ex (sgM μ (X + 34)) i
      have fin : ∀ μC, FC5 X μ1 μC → QC (rmA o) ε μC := fun μC fC => by
        refine hq _ _ _ (aft5 S G' J P C q r f1 s1 fC (fun μ2 Q Y m2 K2 => ?_))
        have LM2 := G'.1
        apply e_X12_room
        refine fun _ _ => ⟨LM2.k, sp_X12_isArch LM2 (fun _ _ => ?_) (fun z => ?_)⟩
        · apply g_X12_room_5
          refine fun _ _ _ => ⟨fun _ => ⟨LM2.k, sp_X12_holeOf (σ := sgM μ (X + 34)) LM2 (fun o j o1 o2 => ?_) na ng (fun μ3 f3 k3 => ?_)⟩, fun z => absurd z (by decide)⟩
          · rw [sx_oa (by omega)]; exact m2 _ _ (by omega) (by omega)
          · apply g_X12_room_16
            intro _ _ _ t2 ht2
            rw [if_pos hho] at ht2
            refine ⟨LM2.k, fun μ4 m4 => ⟨LM2.k, ?_⟩⟩
            rw [ht2] at m4
            have z4 : μ4 (X + 34) 0 = 0 := by rw [m4, sx_same]
            rw [z4]
            have g4 : ∀ b j, b ≠ X + 34 + 25 → ¬ (b = X + 34 ∧ j = 0) → μ4 b j = μ2 b j := fun b j h h' => by rw [m4, st, if_neg h', f3 b j h, st, if_neg h']
            refine ⟨fun _ v2 h2 v3 h3 => ?_, fun z => absurd z (by decide)⟩
            rw [h2, h3]
            have e25 : μ4 (X + 34 + 25) = μ3 (X + 34 + 25) := by funext j; rw [m4]; exact sx_oa (by omega)
            have K' := K
            obtain ⟨_, _, _, _, _, _, _, _, _, _, _, _, _, _, p0, p1, q0, q1, _, _⟩ := K'
            refine room_all LM2 ho' ⟨na, ng, nB, hho, p0, p1, q0, q1, fun o j o1 o2 => ?_, by rw [e25]; exact k3 hho⟩ (fun μ5 f5 => K2 μ5 (fun b j h1 h2 h3 h4 h5 h6 => ?_) (by rw [f5 _ _ (by omega) (by omega) (by omega) (by omega) (by omega), z4]))
            · rw [g4 _ _ (by omega) (by omega)]; exact m2 _ _ (by omega) (by omega)
            · rw [f5 b j h2 h3 h4 h5 (by omega), g4 b j h1 (by omega)]
        · rw [m2 _ _ (by omega) (by omega)] at z; omega
      apply g_X10_room_10
      refine fun _ => ⟨S.1.k, sp_X10_isSafeNarrowed S W ⟨by decide, by decide⟩ (fun μ3 f3 sf => ?_) (fun μ3 f3 nsf => ?_)⟩
      · apply g_X10_room_16
        refine fun _ _ => ⟨fun _ v3 h3 v4 h4 => ?_, fun z => absurd z (by decide)⟩
        rw [h3, h4]
        refine room_c S ho' 6 0 32 μ3 (by decide) (by decide) (by decide) (by decide) (W.c5 f3) (fun μ' f' => ?_)
        have := fin μ' (f3.trans f')
        unfold rmA at this
        rcases ho' 0 with ⟨o1, _⟩ | ⟨_, o2⟩
        · rw [if_neg (by rw [o1]; decide)] at this; exact this
        · exact absurd sf o2
      · apply g_X10_room_16
        refine fun _ _ => ⟨fun z => absurd rfl z, fun _ => ?_⟩
        have := fin μ3 f3
        unfold rmA at this
        rcases ho' 0 with ⟨_, o2⟩ | ⟨o1, _⟩
        · exact absurd o2 nsf
        · rw [if_pos o1] at this; exact this
    · rw [c3]
      refine aft_hole S G' J P C EX.nx q r f1 s1 (by decide) (fun μ2 Q Y m2 G2 K3 => ?_)
      apply e_X12_room
      refine fun _ _ => ⟨G2.1.k, sp_X12_isArch G2.1 (fun _ _ => ?_) (fun z => ?_)⟩
      · apply g_X12_room_5
        refine fun _ _ _ => ⟨fun _ => ⟨G2.1.k, sp_X12_holeOf (σ := sgM μ (X + 34)) G2.1 (fun o j o1 o2 => ?_) na ng (fun μ3 f3 k3 => ?_)⟩, fun z => absurd z (by decide)⟩
        · rw [sx_oa (by omega)]; exact m2 _ _ (by omega)
        · apply g_X12_room_16
          intro _ _ _ t2 ht2
          rw [if_neg hho] at ht2
          refine ⟨G2.1.k, fun μ4 m4 => ⟨G2.1.k, ?_⟩⟩
          rw [ht2] at m4
          rw [m4, sx_same]
          exact ⟨fun z => absurd z (by decide), fun _ => K3 μ3 f3⟩
      · rw [m2 _ _ (by omega)] at z; omega
theorem sp_X12_isPlace {Q Y : m_Po} {ε : m_E} {μ : m_M} {M i p : Int} (L : LM ε M) (a12 : μ M 27 ≤ 12) (h0 : 0 ≤ i → i < μ M 27 → 0 ≤ p → p < μ (M + 15) i → Q 1 ε (st μ M 0 0)) (h1 : i < 0 ∨ μ M 27 ≤ i ∨ p < 0 ∨ μ (M + 15) i ≤ p → Q 0 ε (st μ M 0 1)) : o_X12_isPlace [(2, M), (0, i), (0, p)] ε μ Q Y := by
  apply e_X12_isPlace
  rw [L.f17.1]
  refine fun _ _ _ => ⟨fun q => ⟨L.k, fun r _ => ⟨L.f17.2.1, q, by rw [L.f17.2.2]; omega⟩⟩, fun t ht => ⟨L.k, fun μ1 m1 => ⟨L.k, fun t1 ht1 => ?_⟩⟩⟩
  rw [m1, sx_same] at ht1
  rw [m1]
  have bad' : (i < 0 ∨ μ M 27 ≤ i ∨ p < 0 ∨ μ (M + 15) i ≤ p) → t = 1 → Q t1 ε (st μ M 0 t) := fun w e => by
    rw [e] at ht1 ⊢
    rw [if_neg (by decide)] at ht1
    rw [ht1]; exact h1 w
  by_cases a : i < 0
  · rw [if_pos a] at ht; exact bad' (Or.inl a) ht
  · rw [if_neg a] at ht
    by_cases b : μ M 27 ≤ i
    · rw [if_pos b] at ht; exact bad' (Or.inr (Or.inl b)) ht
    · rw [if_neg b] at ht
      by_cases c : p < 0
      · rw [if_pos c] at ht; exact bad' (Or.inr (Or.inr (Or.inl c))) ht
      · rw [if_neg c] at ht
        by_cases d : p < μ (M + 15) i
        · rw [if_pos d] at ht
          rw [ht] at ht1 ⊢
          rw [if_pos rfl] at ht1
          rw [ht1]; exact h0 (by omega) (by omega) (by omega) d
        · rw [if_neg d] at ht; exact bad' (Or.inr (Or.inr (Or.inr (by omega)))) ht
theorem sp_X0_hasPlace {Q Y : m_Po} {ε : m_E} {μ : m_M} {P n p : Int} (L : LA ε P n) (h1 : 0 ≤ p → p < n → Q 1 ε μ) (h0 : p < 0 ∨ n ≤ p → Q 0 ε μ) : o_X0_hasPlace [(2, P), (0, p)] ε μ Q Y := by
  apply e_X0_hasPlace
  rw [L.2.1]
  refine fun _ _ => ⟨fun _ => L.k, fun t ht => ?_⟩
  by_cases a : p < 0
  · rw [if_pos a] at ht; rw [ht]; exact h0 (Or.inl a)
  · rw [if_neg a] at ht
    by_cases b : n ≤ p
    · rw [if_pos b] at ht; rw [ht]; exact h0 (Or.inr b)
    · rw [if_neg b] at ht; rw [ht]; exact h1 (by omega) (by omega)
theorem sp_X10_archWithPlace {Q Y : m_Po} {ε : m_E} {μ σ : m_M} {X i p : Int} {ow : Int → Int} (S : SL ε X) (C : CAr ε μ X ow σ) (h1 : (i < 0 ∨ σ 0 27 ≤ i) ∨ (0 ≤ i ∧ i < σ 0 27 ∧ (p < 0 ∨ σ 15 i ≤ p)) → ∀ z : Int, nx ε ≤ z → Y 1 (enx ε z) μ) (h0 : 0 ≤ i → i < σ 0 27 → 0 ≤ p → p < σ 15 i → CAa ε μ X ow σ i (μ (X + 3) i) → Q (μ (X + 3) i) ε μ) : o_X10_archWithPlace [(2, X), (0, i), (0, p)] ε μ Q Y := by
  apply e_X10_archWithPlace
  refine fun _ _ _ => ⟨S.1.k, sp_X10_archAt S C (fun q => h1 (Or.inl q)) (fun q r K => ?_)⟩
  apply g_X10_archWithPlace_5
  intro _ _ v3 h3
  subst h3
  refine ⟨K.1.k, sp_X0_hasPlace K.1 (fun a b => ?_) (fun a => ?_)⟩
  · apply g_X10_archWithPlace_11
    exact fun _ _ => ⟨fun _ => h0 q r a b K, fun z => absurd z (by decide)⟩
  · apply g_X10_archWithPlace_11
    exact fun _ _ => ⟨fun z => absurd rfl z, fun _ => h1 (Or.inr ⟨q, r, a⟩)⟩
theorem pr_strike {ε : m_E} {μ : m_M} {X a i j : Int} {codes : Int → Int} (c1 : codes 1 = 1) (c2 : codes 2 = 2) (c3 : codes 3 = 3) (H : Rel ε μ X) : PAIR (fun ε μ Q Y => o_X10_strike [(2, X), (0, a), (0, i), (0, j)] ε μ Q Y) (fun ε μ Q Y => o_X12_strike [(2, X + 34), (0, a), (0, i), (0, j)] ε μ Q Y) codes ε μ X := by
  intro QC XC hq hx
  have H' := H
  obtain ⟨ow, R, S, G', J, P, C⟩ := H
  have e27 : sgM μ (X + 34) 0 27 = μ (X + 34) 27 := by unfold sgM; rw [Int.add_zero]
  have e15 : sgM μ (X + 34) 15 a = μ (X + 34 + 15) a := rfl
  apply e_X10_strike
  intro T _ _ _
  have a12 := C.2.2.2.1.2.2.1
  -- refusals for a place
  have thr : (a < 0 ∨ sgM μ (X + 34) 0 27 ≤ a) ∨ (0 ≤ a ∧ a < sgM μ (X + 34) 0 27 ∧ ((i < 0 ∨ sgM μ (X + 34) 15 a ≤ i) ∨ (j < 0 ∨ sgM μ (X + 34) 15 a ≤ j))) → ∀ z : Int, nx ε ≤ z → XC 1 (enx ε z) μ := fun why z hz => by
    refine hx 1 _ _ (by rw [c1]; decide) ?_
    rw [c1]
    refine aft_thr H' (by decide) EX.nx (fun μ2 Q Y f2 G2 K => ?_)
    have f27 : μ2 (X + 34) 27 = μ (X + 34) 27 := f2 _ _ (by omega)
    have f15 : μ2 (X + 34 + 15) a = μ (X + 34 + 15) a := f2 _ _ (by omega)
    apply e_X12_strike
    refine fun _ _ _ _ => ⟨G2.1.k, sp_X12_isPlace G2.1 (by omega) (fun y1 y2 y3 y4 => ?_) (fun y => ?_)⟩
    · apply g_X12_strike_6
      have s27 : st μ2 (X + 34) 0 0 (X + 34) 27 = μ2 (X + 34) 27 := sx_oi (by decide)
      have s15 : st μ2 (X + 34) 0 0 (X + 34 + 15) a = μ2 (X + 34 + 15) a := sx_oa (by omega)
      refine fun _ _ _ _ _ => ⟨fun z => absurd z (by decide), fun _ => ⟨G2.1.k, sp_X12_isPlace G2.1 (by omega) (fun y1 y2 y3 y4 => by omega) (fun y => ?_)⟩⟩
      apply g_X12_strike_15
      rw [st_st]
      exact fun _ _ _ _ _ => ⟨fun z => absurd rfl z, fun _ => K⟩
    · apply g_X12_strike_6
      exact fun _ _ _ _ _ => ⟨fun _ => K, fun z => absurd rfl z⟩
  refine ⟨S.1.k, sp_X10_archWithPlace S C.2.2.2.1 (fun q => thr (by omega)) (fun q r i0 i1 K => ?_)⟩
  obtain ⟨na, ng, nB, nf⟩ := K.need T C.2.2.1 q (by omega)
  have x := K.2.1
  have sp0 := K.2.2.2.2.2.2.2.2.2.2.2.2.2.2.2.2.2.2.1
  apply g_X10_strike_6
  intro _ _ _ v4 h4
  subst h4
  refine ⟨K.1.k, sp_X0_hasPlace K.1 (fun j0 j1 => ?_) (fun jj => ?_)⟩
  · -- the reference, up to its own look at the order of i and j
    have mid : ∀ {ε1 : m_E} {μ2 : m_M} {Q Y : m_Po}, LM ε1 (X + 34) → (∀ b j, X + 34 ≤ b → b ≤ X + 140 → μ2 b j = μ b j) → G cd_X12_strike Q Y 15 [(0, (2, X + 34)), (1, (0, a)), (2, (0, i)), (3, (0, j))] [(0, 1)] ε1 (st μ2 (X + 34) 0 0) → o_X12_strike [(2, X + 34), (0, a), (0, i), (0, j)] ε1 μ2 Q Y := fun {ε1 μ2 Q Y} L2' m2 hG => by
      have f27 : μ2 (X + 34) 27 = μ (X + 34) 27 := m2 _ _ (by omega) (by omega)
      have f15 : μ2 (X + 34 + 15) a = μ (X + 34 + 15) a := m2 _ _ (by omega) (by omega)
      apply e_X12_strike
      refine fun _ _ _ _ => ⟨L2'.k, sp_X12_isPlace L2' (by omega) (fun y1 y2 y3 y4 => ?_) (fun y => by omega)⟩
      apply g_X12_strike_6
      have s27 : st μ2 (X + 34) 0 0 (X + 34) 27 = μ2 (X + 34) 27 := sx_oi (by decide)
      have s15 : st μ2 (X + 34) 0 0 (X + 34 + 15) a = μ2 (X + 34 + 15) a := sx_oa (by omega)
      refine fun _ _ _ _ _ => ⟨fun z => absurd z (by decide), fun _ => ⟨L2'.k, sp_X12_isPlace L2' (by omega) (fun y1 y2 y3 y4 => ?_) (fun y => by omega)⟩⟩
      rw [st_st]; exact hG
    apply g_X10_strike_14
    refine fun _ _ _ _ => ⟨fun _ => ⟨fun ij => sp_X10_requireWhole nf ng sp0 (fun μ1 f1 s1 hho s16 => ?_) (fun μ1 f1 s1 hho z hz => hx 3 _ _ (by rw [c3]; decide) ?_), fun ij z hz => hx 2 _ _ (by rw [c2]; decide) ?_⟩, fun z => absurd z (by decide)⟩
    · have W := K.wh T C.2.2.1 q (by omega) f1 s1 hho s16
      have fin : ∀ μC z, FC5 X μ1 μC → ((z = 1 ∧ Stk (sgM μ (X + 34)) a i j) ∨ (z = 0 ∧ ¬ Stk (sgM μ (X + 34)) a i j)) → QC z ε μC := fun μC z fC hz => by
        refine hq _ _ _ (aft5 S G' J P C q r f1 s1 fC (fun μ2 Q Y m2 K2 => mid G'.1 m2 ?_))
        have LM2 := G'.1
        apply g_X12_strike_15
        refine fun _ _ _ _ _ => ⟨fun _ => ⟨fun _ => ⟨LM2.k, sp_X12_holeOf (σ := sgM μ (X + 34)) LM2 (fun o j o1 o2 => ?_) na ng (fun μ3 f3 k3 => ?_)⟩, fun z => absurd z (by omega)⟩, fun z => absurd z (by decide)⟩
        · rw [sx_oa (by omega)]; exact m2 _ _ (by omega) (by omega)
        · apply g_X12_strike_35
          intro _ _ _ _ _ t2 ht2
          rw [if_pos hho] at ht2
          rw [ht2]
          apply g_X12_strike_44
          refine fun _ _ _ _ _ => ⟨LM2.k, fun μ4 m4 => ⟨LM2.k, ?_⟩⟩
          have z4 : μ4 (X + 34) 0 = 0 := by rw [m4, sx_same]
          rw [z4]
          have g4 : ∀ b j, b ≠ X + 34 + 25 → ¬ (b = X + 34 ∧ j = 0) → μ4 b j = μ2 b j := fun b j h h' => by rw [m4, st, if_neg h', f3 b j h, st, if_neg h']
          have e25 : μ4 (X + 34 + 25) = μ3 (X + 34 + 25) := by funext j; rw [m4]; exact sx_oa (by omega)
          have K' := K
          obtain ⟨_, _, _, _, _, _, _, _, _, _, _, _, _, _, p0, p1, q0, q1, _, _⟩ := K'
          have done : ∀ μ5, FR5 (X + 34) μ4 μ5 → Q z ε μ5 := fun μ5 f5 => K2 μ5 (fun b j h1 h2 h3 h4 h5 h6 => by rw [f5 b j h2 h3 h4 h5 (by omega), g4 b j h1 (by omega)]) (by rw [f5 _ _ (by omega) (by omega) (by omega) (by omega) (by omega), z4])
          refine ⟨fun y => absurd rfl y, fun _ => sp_X12_strikes (σ := sgM μ (X + 34)) LM2 ⟨na, ng, nB, hho, p0, p1, q0, q1, fun o j o1 o2 => ?_, by rw [e25]; exact k3 hho⟩ i0 ij j1 (fun μ5 f5 sk => ?_) (fun μ5 f5 nsk => ?_)⟩
          · rw [g4 _ _ (by omega) (by omega)]; exact m2 _ _ (by omega) (by omega)
          · apply g_X12_strike_61
            refine fun _ _ => ⟨fun y => absurd y (by decide), fun _ => ?_⟩
            rcases hz with ⟨h1, _⟩ | ⟨_, h2⟩
            · rw [← h1]; exact done μ5 f5
            · exact absurd sk h2
          · apply g_X12_strike_61
            refine fun _ _ => ⟨fun _ => ?_, fun y => absurd rfl y⟩
            apply g_X12_strike_68
            intro _
            rcases hz with ⟨_, h2⟩ | ⟨h1, _⟩
            · exact absurd h2 nsk
            · rw [← h1]; exact done μ5 f5
      apply g_X10_strike_49
      refine fun _ _ _ => ⟨S.1.k, sp_X10_isStruck S W i0 ij j1 (fun μ3 f3 sk => ?_) (fun μ3 f3 nsk => ?_)⟩
      · apply g_X10_strike_57
        exact fun _ _ => ⟨Or.inr rfl, fin μ3 1 f3 (Or.inl ⟨rfl, sk⟩)⟩
      · apply g_X10_strike_57
        exact fun _ _ => ⟨Or.inl rfl, fin μ3 0 f3 (Or.inr ⟨rfl, nsk⟩)⟩
    · rw [c3]
      refine aft_hole S G' J P C EX.nx q r f1 s1 (by decide) (fun μ2 Q Y m2 G2 K3 => mid G2.1 (fun b j h h' => m2 b j (by omega)) ?_)
      apply g_X12_strike_15
      refine fun _ _ _ _ _ => ⟨fun _ => ⟨fun _ => ⟨G2.1.k, sp_X12_holeOf (σ := sgM μ (X + 34)) G2.1 (fun o j o1 o2 => ?_) na ng (fun μ3 f3 k3 => ?_)⟩, fun z => absurd z (by omega)⟩, fun z => absurd z (by decide)⟩
      · rw [sx_oa (by omega)]; exact m2 _ _ (by omega)
      · apply g_X12_strike_35
        intro _ _ _ _ _ t2 ht2
        rw [if_neg hho] at ht2
        rw [ht2]
        apply g_X12_strike_44
        refine fun _ _ _ _ _ => ⟨G2.1.k, fun μ4 m4 => ⟨G2.1.k, ?_⟩⟩
        rw [m4, sx_same]
        refine ⟨fun _ => ?_, fun y => absurd y (by decide)⟩
        apply g_X12_strike_68
        exact fun _ => K3 μ3 f3
    · rw [c2]
      refine aft_thr H' (by decide) EX.nx (fun μ2 Q Y f2 G2 K3 => mid G2.1 (fun b j h h' => f2 b j (by omega)) ?_)
      apply g_X12_strike_15
      refine fun _ _ _ _ _ => ⟨fun _ => ⟨fun y => absurd y (by omega), fun _ => ?_⟩, fun z => absurd z (by decide)⟩
      apply g_X12_strike_44
      refine fun _ _ _ _ _ => ⟨G2.1.k, fun μ4 m4 => ⟨G2.1.k, ?_⟩⟩
      rw [m4, sx_same, st_st]
      refine ⟨fun _ => ?_, fun y => absurd y (by decide)⟩
      apply g_X12_strike_68
      exact fun _ => K3
  · apply g_X10_strike_14
    exact fun _ _ _ _ => ⟨fun z => absurd rfl z, fun _ => thr (Or.inr ⟨q, r, Or.inr jj⟩)⟩
