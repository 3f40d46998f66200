set_option maxHeartbeats 2000000
/-! ===== pair of calls: load ===== -/
def mnF (f : Int → Int) : Nat → Int
  | 0 => 100
  | k + 1 => if f k < mnF f k then f k else mnF f k
def mxF (f : Int → Int) : Nat → Int
  | 0 => -100
  | k + 1 => if mxF f k < f k then f k else mxF f k
theorem mF_rng {f : Int → Int} : ∀ n : Nat, (∀ i : Int, 0 ≤ i → i < n → ab (f i) 100) → ab (mnF f n) 100 ∧ ab (mxF f n) 100 := by
  intro n
  induction n with
  | zero =>
    intro _
    show ab (100 : Int) 100 ∧ ab (-100 : Int) 100
    exact ⟨⟨by decide, by decide⟩, ⟨by decide, by decide⟩⟩
  | succ n ih =>
    intro h
    obtain ⟨i1, i2⟩ := ih (fun i i0 i1 => h i i0 (by omega))
    have hn := h n (by omega) (by omega)
    constructor
    · unfold mnF; split
      · exact hn
      · exact i1
    · unfold mxF; split
      · exact hn
      · exact i2
theorem sp_X7_spans {Q Y : m_Po} {ε : m_E} {μ : m_M} {S x : Int} {f : Int → Int} {n : Nat} (hS : kd ε S = 6) (hC : kd ε (fn ε S 1) = 100) (hl : ln ε (fn ε S 1) = 2 * n) (n12 : n ≤ 12) (hf : ∀ i : Int, 0 ≤ i → i < n → μ (fn ε S 1) (2 * i) = f i ∧ ab (f i) 100) (h1 : 10 * mnF f n ≤ x → x ≤ 10 * mxF f n → Q 1 ε μ) (h0 : x < 10 * mnF f n ∨ 10 * mxF f n < x → Q 0 ε μ) : o_X7_spans [(2, S), (0, x)] ε μ Q Y := by
  have O : ∀ (d i : Nat), i + d = n → G cd_X7_spans Q Y 9 [(0, (2, S)), (1, (0, x)), (2, (0, mnF f i)), (3, (0, mxF f i)), (4, (0, 2 * (i : Int)))] [] ε μ := by
    intro d
    induction d with
    | zero =>
      intro i hi
      have : i = n := by omega
      subst this
      obtain ⟨b1, b2⟩ := mF_rng i (fun j j0 j1 => (hf j j0 j1).2)
      apply g_X7_spans_9
      rw [hl, w32_id (show i32 (10 * mnF f i) by unfold ab at b1; unfold i32; omega), w32_id (show i32 (10 * mxF f i) by unfold ab at b2; unfold i32; omega)]
      refine fun _ _ _ _ _ => ⟨hS, hC, fun _ t ht => ?_, fun q => absurd q (by omega)⟩
      by_cases a : x < 10 * mnF f i
      · rw [if_pos a] at ht; rw [ht]; exact h0 (Or.inl a)
      · rw [if_neg a] at ht
        by_cases b : 10 * mxF f i < x
        · rw [if_pos b] at ht; rw [ht]; exact h0 (Or.inr b)
        · rw [if_neg b] at ht; rw [ht]; exact h1 (by omega) (by omega)
    | succ d ih =>
      intro i hi
      have e := (hf i (by omega) (by omega)).1
      apply g_X7_spans_9
      rw [hl, e, w32_id (show i32 (2 * (i : Int) + 2) by unfold i32; omega)]
      refine fun _ _ _ _ _ => ⟨hS, hC, fun q => absurd q (by omega), fun _ => ⟨by omega, by omega, fun v2 h2 v3 h3 v4 h4 => ?_⟩⟩
      have e2 : v2 = mnF f (i + 1) := h2
      have e3 : v3 = mxF f (i + 1) := h3
      have e4 : v4 = 2 * ((i + 1 : Nat) : Int) := by rw [h4]; omega
      rw [e2, e3, e4]
      exact ih (i + 1) (by omega)
  apply e_X7_spans
  intro _ _ v2 h2 v3 h3 v4 h4
  rw [h2, h3, h4]
  exact O n 0 (by omega)
theorem load_88 {Q Y : m_Po} {ε : m_E} {μ : m_M} {M a p x g s : Int} {n : Nat} (L : LM ε M) (a0 : 0 ≤ a) (a1 : a < 12) (s0 : 0 ≤ s) (s1 : s < 120) (hn : μ (M + 5) s = n) (n12 : n ≤ 12) (hf : ∀ i : Int, 0 ≤ i → i < n → ab (μ (M + 6) (12 * s + i)) 100) (c0 : 0 ≤ μ (M + 19) a) (c5 : μ (M + 19) a < 6)
    (h0 : x < 10 * mnF (fun i => μ (M + 6) (12 * s + i)) n ∨ 10 * mxF (fun i => μ (M + 6) (12 * s + i)) n < x → Q (-1) ε μ)
    (h1 : 10 * mnF (fun i => μ (M + 6) (12 * s + i)) n ≤ x → x ≤ 10 * mxF (fun i => μ (M + 6) (12 * s + i)) n → ∀ μ' : m_M, (∀ b j, ¬ ((b = M + 20 ∨ b = M + 21 ∨ b = M + 22) ∧ j = 6 * a + μ (M + 19) a) → ¬ (b = M + 19 ∧ j = a) → μ' b j = μ b j) → μ' (M + 20) (6 * a + μ (M + 19) a) = p → μ' (M + 21) (6 * a + μ (M + 19) a) = x → μ' (M + 22) (6 * a + μ (M + 19) a) = g → μ' (M + 19) a = μ (M + 19) a + 1 → Q (μ (M + 19) a + 1) ε μ') :
    G cd_X12_load Q Y 88 [(0, (2, M)), (1, (0, a)), (2, (0, p)), (3, (0, x)), (4, (0, g)), (5, (0, s)), (6, (0, 100)), (7, (0, -100)), (8, (0, 12 * s))] [] ε μ := by
  have O : ∀ (d i : Nat), i + d = n → G cd_X12_load Q Y 88 [(0, (2, M)), (1, (0, a)), (2, (0, p)), (3, (0, x)), (4, (0, g)), (5, (0, s)), (6, (0, mnF (fun i => μ (M + 6) (12 * s + i)) i)), (7, (0, mxF (fun i => μ (M + 6) (12 * s + i)) i)), (8, (0, 12 * s + i))] [] ε μ := by
    intro d
    induction d with
    | zero =>
      intro i hi
      have : i = n := by omega
      subst this
      obtain ⟨b1, b2⟩ := mF_rng (f := fun i => μ (M + 6) (12 * s + i)) i hf
      generalize hmn : mnF (fun i => μ (M + 6) (12 * s + i)) i = mn at *
      generalize hmx : mxF (fun i => μ (M + 6) (12 * s + i)) i = mx at *
      clear hmn hmx hf
      apply g_X12_load_88
      rw [L.f6.1, L.f21.1, L.f22.1, L.f23.1, L.f24.1, hn, w32_id (show i32 (12 * s) by unfold i32; omega), w32_id (show i32 (12 * s + i) by unfold i32; omega), w32_id (show i32 (10 * mn) by unfold ab at b1; unfold i32; omega), w32_id (show i32 (10 * mx) by unfold ab at b2; unfold i32; omega), w32_id (show i32 (6 * a) by unfold i32; omega), w32_id (show i32 (6 * a + μ (M + 19) a) by unfold i32; omega)]
      refine fun _ _ _ _ _ _ _ _ _ => ⟨L.k, L.f6.2.1, s0, by rw [L.f6.2.2]; exact s1, fun _ => ⟨fun q => h0 (Or.inl q), fun q => ⟨fun r => ⟨L.f21.2.1, a0, by rw [L.f21.2.2]; exact a1, fun v8 h8 => ?_⟩, fun r => h0 (Or.inr r)⟩⟩, fun q => absurd q (by omega)⟩
      generalize hc : μ (M + 19) a = c at *
      refine ⟨L.f22.2.1, by omega, by rw [L.f22.2.2]; omega, fun μ1 m1 => ⟨L.f23.2.1, by rw [L.f23.2.2]; omega, fun μ2 m2 => ⟨L.f24.2.1, by rw [L.f24.2.2]; omega, fun μ3 m3 => ⟨L.f21.2.1, a0, by rw [L.f21.2.2]; exact a1, fun μ4 m4 => ⟨L.k, L.f21.2.1, a0, by rw [L.f21.2.2]; exact a1, ?_⟩⟩⟩⟩⟩
      have e3 : μ3 (M + 19) a = c := by rw [m3, sx_oa (by omega), m2, sx_oa (by omega), m1, sx_oa (by omega), hc]
      rw [e3, w32_id (show i32 (c + 1) by unfold i32; omega)] at m4
      have e4 : μ4 (M + 19) a = c + 1 := by rw [m4, sx_same]
      rw [e4]
      subst h8
      refine h1 q r μ4 (fun b j h h' => ?_) ?_ ?_ ?_ e4
      · rw [m4, st, if_neg h', m3, st, if_neg (fun z => h ⟨Or.inr (Or.inr z.1), z.2⟩), m2, st, if_neg (fun z => h ⟨Or.inr (Or.inl z.1), z.2⟩), m1, st, if_neg (fun z => h ⟨Or.inl z.1, z.2⟩)]
      · rw [m4, sx_oa (by omega), m3, sx_oa (by omega), m2, sx_oa (by omega), m1, sx_same]
      · rw [m4, sx_oa (by omega), m3, sx_oa (by omega), m2, sx_same]
      · rw [m4, sx_oa (by omega), m3, sx_same]
    | succ d ih =>
      intro i hi
      apply g_X12_load_88
      rw [L.f6.1, L.f7.1, hn, w32_id (show i32 (12 * s) by unfold i32; omega), w32_id (show i32 (12 * s + n) by unfold i32; omega), w32_id (show i32 (12 * s + (i : Int) + 1) by unfold i32; omega)]
      refine fun _ _ _ _ _ _ _ _ _ => ⟨L.k, L.f6.2.1, s0, by rw [L.f6.2.2]; exact s1, fun q => absurd q (by omega), fun _ => ⟨L.f7.2.1, by omega, by rw [L.f7.2.2]; omega, fun t ht v6 h6 => ⟨L.k, L.f7.2.1, by omega, by rw [L.f7.2.2]; omega, fun t1 ht1 v7 h7 v8 h8 => ?_⟩⟩⟩
      have e6 : v6 = mnF (fun i => μ (M + 6) (12 * s + i)) (i + 1) := by
        rw [h6, ht]
        show _ = if μ (M + 6) (12 * s + (i : Int)) < mnF (fun i => μ (M + 6) (12 * s + i)) i then μ (M + 6) (12 * s + (i : Int)) else mnF (fun i => μ (M + 6) (12 * s + i)) i
        by_cases z : mnF (fun i => μ (M + 6) (12 * s + i)) i ≤ μ (M + 6) (12 * s + (i : Int))
        · rw [if_pos z, if_neg (by omega)]
        · rw [if_neg z, if_pos (by omega)]
      have e7 : v7 = mxF (fun i => μ (M + 6) (12 * s + i)) (i + 1) := by
        rw [h7, ht1]
        show _ = if mxF (fun i => μ (M + 6) (12 * s + i)) i < μ (M + 6) (12 * s + (i : Int)) then μ (M + 6) (12 * s + (i : Int)) else mxF (fun i => μ (M + 6) (12 * s + i)) i
        by_cases z : μ (M + 6) (12 * s + (i : Int)) ≤ mxF (fun i => μ (M + 6) (12 * s + i)) i
        · rw [if_pos z, if_neg (by omega)]
        · rw [if_neg z, if_pos (by omega)]
      have e8 : v8 = 12 * s + ((i + 1 : Nat) : Int) := by rw [h8]; omega
      rw [e6, e7, e8]
      exact ih (i + 1) (by omega)
  have := O n 0 (by omega)
  rw [show 12 * s + ((0 : Nat) : Int) = 12 * s by omega] at this
  exact this
theorem Core.or2 {ε : m_E} {μ σ σ' : m_M} {X : Int} {ow : Int → Int} (H : Core ε μ X ow σ) (g : ∀ o j, (1 ≤ o ∧ o ≤ 12) ∨ (15 ≤ o ∧ o ≤ 18) ∨ o = 23 ∨ o = 24 ∨ o = 105 → σ' o j = σ o j) (h : ∀ j, (j = 27 ∨ j = 66 ∨ j = 67) → σ' 0 j = σ 0 j) : ORm σ' := by
  have O := H.2.2.2.2
  unfold ORm at *
  rw [h 66 (by decide), h 67 (by decide), h 27 (by decide)]
  refine ⟨fun i i0 i1 => by rw [g 18 i (by decide)]; exact O.1 i i0 i1, ?_⟩
  rcases O.2 with O | ⟨o1, o2, o3⟩
  · exact Or.inl O
  · have A : AGa σ σ' (σ 0 66) (σ 0 14) := (H.2.2.2.1.2.2.2 _ o1 o2).aga H.2.2.1 ⟨g _ _ (by decide), fun _ _ _ => g _ _ (by decide), g _ _ (by decide), g _ _ (by decide), fun _ _ _ => g _ _ (by decide), g _ _ (by decide), g _ _ (by decide), fun _ _ _ => ⟨g _ _ (by decide), g _ _ (by decide), g _ _ (by decide), g _ _ (by decide), fun _ _ _ => ⟨g _ _ (by decide), g _ _ (by decide)⟩⟩⟩
    have := A.od o3
    exact Or.inr ⟨o1, o2, this.1, this.2.congr rfl (fun t _ _ => g 105 t (by decide)) (by rw [A.1]; exact (H.2.2.2.1.2.2.2 _ o1 o2).n.1)⟩
theorem load_fin {ε : m_E} {μ μ1 μ2 μ3 : m_M} {X a A p x g c : Int} {ow R : Int → Int} (S : SL ε X) (G' : RG ε μ (X + 34) R) (J : JV μ (X + 20) (X + 34) R) (P : PG μ (X + 29) (X + 34)) (C : Core ε μ X ow (sgM μ (X + 34))) (K : CAa ε μ X ow (sgM μ (X + 34)) a A) (hA : μ (X + 3) a = A) (hc : sgM μ (X + 34) 19 a = c) (c0 : 0 ≤ c) (c5 : c < 6) (bg : ab g 100000) (bx : ab x 1000)
    (g1 : ∀ b j, ¬ ((b = A + 3 ∨ b = A + 4 ∨ b = A + 5) ∧ j = c) → ¬ (b = A ∧ j = 13) → μ1 b j = μ b j) (v3 : μ1 (A + 3) c = p) (v4 : μ1 (A + 4) c = x) (v5 : μ1 (A + 5) c = g) (v13 : μ1 A 13 = c + 1) (f2 : ∀ b j, b ≠ X + 141 → μ2 b j = μ1 b j)
    (g3 : ∀ b j, ¬ (b = X + 34 ∧ j = 0) → ¬ ((b = X + 34 + 20 ∨ b = X + 34 + 21 ∨ b = X + 34 + 22) ∧ j = 6 * a + c) → ¬ (b = X + 34 + 19 ∧ j = a) → μ3 b j = μ2 b j) (w20 : μ3 (X + 34 + 20) (6 * a + c) = p) (w21 : μ3 (X + 34 + 21) (6 * a + c) = x) (w22 : μ3 (X + 34 + 22) (6 * a + c) = g) (w19 : μ3 (X + 34 + 19) a = c + 1) : Rel ε μ3 X := by
  obtain ⟨kL, xx, ko, kpl, kpi, klo, ksl, ksp, kor⟩ := K.parts
  have n10 := K.n
  have o0 := ko 0 (by decide) (by decide)
  have o3 := ko 3 (by decide) (by decide)
  have o4 := ko 4 (by decide) (by decide)
  have o5 := ko 5 (by decide) (by decide)
  rw [Int.add_zero] at o0
  have m3 : ∀ b j, X + 141 < b → μ3 b j = μ1 b j := fun b j h => by rw [g3 b j (by omega) (by omega) (by omega), f2 b j (by omega)]
  have lo : ∀ b j, b ≤ X + 140 → ¬ (b = X + 34 ∧ j = 0) → ¬ ((b = X + 34 + 20 ∨ b = X + 34 + 21 ∨ b = X + 34 + 22) ∧ j = 6 * a + c) → ¬ (b = X + 34 + 19 ∧ j = a) → μ3 b j = μ b j := fun b j h h1 h2 h3 => by rw [g3 b j h1 h2 h3, f2 b j (by omega), g1 b j (by omega) (by omega)]
  have hi : ∀ b j, X + 141 < b → ¬ ((b = A + 3 ∨ b = A + 4 ∨ b = A + 5) ∧ j = c) → ¬ (b = A ∧ j = 13) → μ3 b j = μ b j := fun b j h h1 h2 => by rw [m3 b j h, g1 b j h1 h2]
  have sg : ∀ o j, (1 ≤ o ∧ o ≤ 18) ∨ o = 23 ∨ o = 24 ∨ o = 105 → sgM μ3 (X + 34) o j = sgM μ (X + 34) o j := fun o j o1 => lo _ _ (by omega) (by omega) (by omega) (by omega)
  have sg0 : ∀ j, j ≠ 0 → sgM μ3 (X + 34) 0 j = sgM μ (X + 34) 0 j := fun j h => lo _ _ (by omega) (by omega) (by omega) (by omega)
  have AG : AGa (sgM μ (X + 34)) (sgM μ3 (X + 34)) a (sgM μ (X + 34) 0 14) := K.aga C.2.2.1 ⟨sg _ _ (by decide), fun _ _ _ => sg _ _ (by decide), sg _ _ (by decide), sg _ _ (by decide), fun _ _ _ => sg _ _ (by decide), sg _ _ (by decide), sg _ _ (by decide), fun _ _ _ => ⟨sg _ _ (by decide), sg _ _ (by decide), sg _ _ (by decide), sg _ _ (by decide), fun _ _ _ => ⟨sg _ _ (by decide), sg _ _ (by decide)⟩⟩⟩
  clear f2 g1 g3
  refine Rel.mk' (ow := ow) S G' J P EX.rf (fun b j h => ?_) (C.arch (a := a) EX.rf (fun b j h1 h2 h3 => ?_) (fun _ _ => ?_) (C.or2 (fun o j h => sg o j (by omega)) (fun j h => sg0 j (by omega))))
  · unfold kpt at h
    exact lo _ _ (by omega) (by omega) (by omega) (by omega)
  · rcases Int.lt_or_le (X + 141) b with y | y
    · refine hi b j y (fun z => ?_) (fun z => h3 ⟨y, by rw [z.1]; exact o0⟩)
      rcases z.1 with e | e | e
      · exact h3 ⟨y, by rw [e]; exact o3⟩
      · exact h3 ⟨y, by rw [e]; exact o4⟩
      · exact h3 ⟨y, by rw [e]; exact o5⟩
    · refine lo b j ?_ (fun z => h1 (Or.inr (Or.inr (Or.inr (Or.inr (Or.inr (Or.inr ⟨z.1, Or.inl z.2⟩))))))) (fun z => h2 (Or.inr (Or.inr (Or.inr (Or.inr (Or.inr (Or.inl ⟨z.1, by omega, by omega⟩))))))) (fun z => h2 (Or.inr (Or.inr (Or.inr (Or.inr (Or.inl z))))))
      have : b ≠ X + 141 := fun z => h1 (Or.inr (Or.inl z))
      omega
  · rw [hA]
    refine CAa.of (by rw [sg 15 a (by decide)]; exact kL) xx ko (kpl.go n10.2 (sg _ _ (by decide)) (fun p _ _ => sg _ _ (by decide)) (by rw [sg0 14 (by decide)]; omega) (fun b j h => ?_)) (kpi.go ⟨sg _ _ (by decide), sg _ _ (by decide)⟩ (fun i _ _ => sg _ _ (by decide)) (fun b j h => hi _ _ (by omega) (by omega) (by omega))) ?_ (ksl.go ⟨sg _ _ (by decide), sg _ _ (by decide)⟩ (fun b j h => hi _ _ (by omega) (by omega) (by omega))) ?_ ?_
    · rcases h with h | h | h
      · exact hi _ _ (by omega) (by omega) (by omega)
      · exact hi _ _ (by omega) (by omega) (by omega)
      · exact lo _ _ (by omega) (by omega) (by omega) (by omega)
    · have s19 : sgM μ3 (X + 34) 19 a = c + 1 := w19
      obtain ⟨l1, l2, l3, l4⟩ := klo
      refine ⟨by rw [s19, m3 _ _ (by omega)]; exact v13, by rw [s19]; omega, by rw [s19]; omega, fun i i0 i1 => ?_⟩
      rw [s19] at i1
      by_cases z : i = c
      · subst z
        have s20 : sgM μ3 (X + 34) 20 (6 * a + i) = p := w20
        have s21 : sgM μ3 (X + 34) 21 (6 * a + i) = x := w21
        have s22 : sgM μ3 (X + 34) 22 (6 * a + i) = g := w22
        rw [s20, s21, s22, m3 _ _ (by omega), m3 _ _ (by omega), m3 _ _ (by omega)]
        exact ⟨⟨v3, v4, v5⟩, bg, bx⟩
      · have sl : ∀ o, o = 20 ∨ o = 21 ∨ o = 22 → sgM μ3 (X + 34) o (6 * a + i) = sgM μ (X + 34) o (6 * a + i) := fun o h => lo _ _ (by omega) (by omega) (by omega) (by omega)
        rw [sl 20 (by decide), sl 21 (by decide), sl 22 (by decide), hi _ _ (by omega) (by omega) (by omega), hi _ _ (by omega) (by omega) (by omega), hi _ _ (by omega) (by omega) (by omega)]
        exact l4 i i0 (by omega)
    · unfold SPc at *
      rw [hi A 16 (by omega) (by omega) (by omega), AG.1]
      rcases ksp with q | ⟨q1, q2⟩
      · exact Or.inl q
      · exact Or.inr ⟨q1, fun k k0 k1 => (q2 k k0 k1).go AG k0 k1 (fun j => hi _ _ (by omega) (by omega) (by omega)) (fun j => hi _ _ (by omega) (by omega) (by omega))⟩
    · unfold ORc at *
      rw [hi A 17 (by omega) (by omega) (by omega), hi A 18 (by omega) (by omega) (by omega)]
      rcases kor with q | ⟨q1, q2⟩
      · exact Or.inl q
      · have := AG.od q2
        exact Or.inr ⟨q1, this.1, this.2.congr rfl (fun t _ _ => hi _ _ (by omega) (by omega) (by omega)) (by rw [AG.1]; exact n10.1)⟩
