set_option maxHeartbeats 1000000
theorem nm_120 {Q X : m_Po} {ε : m_E} {μ : m_M} {M : Int} {t : List Int} (L : LM ε M) (P : PL (μ (M + 104)) (μ M 63) t) (hh : Q t.length ε μ) : G cd_X12_number Q X 120 [(0, (2, M))] [] ε μ := by
  apply g_X12_number_120
  refine fun _ => ⟨L.k, ?_⟩
  rw [P.1]; exact hh
theorem nm_66 {Q X : m_Po} {ε : m_E} {μ : m_M} {M n u l : Int} {R : Int → Int} (H : RG ε μ M R) (hu : (47, n, u) ∈ lm_a) (hl : (60, n, l) ∈ lm_a) (tu : ¬ tmp u) (tl : ¬ tmp l) (n0 : 0 ≤ n) (n6 : n < 6)
    (bu : (R u).natAbs < 10 ^ 39) (bl : (R l).natAbs < 10 ^ 39) (l0 : 0 < R l) (P : PL (μ (M + 104)) (μ M 63) [])
    (hh : ∀ μ' R' t, RG ε μ' M R' → (∀ s, ¬ tmp s → R' s = R s) → TX (R u) (R l) t → PL (μ' (M + 104)) (μ' M 63) t → FD M μ μ' → Q t.length ε μ') : G cd_X12_number Q X 66 [(0, (2, M)), (1, (0, n))] [] ε μ := by
  have u36 : u ≠ 36 := fun e => tu (by unfold tmp; omega)
  have l36 : l ≠ 36 := fun e => tl (by unfold tmp; omega)
  have l38 : l ≠ 38 := fun e => tl (by unfold tmp; omega)
  have bu' : u ∈ lm_b := lm_has _ hu
  have bl' : l ∈ lm_b := lm_has _ hl
  apply g_X12_number_66
  have e1 : μ (M + 47) n = M + u := H.2.2.1 _ hu
  rw [H.1.f50.1, H.1.f50.2.2, e1]
  refine fun _ _ => ⟨H.1.k, H.1.f50.2.1, n0, n6, rg_decimals bu' u36 bu (by decide) H P (fun μ1 R1 ln H1 fr1 D1 P1 f1 => ?_)⟩
  rw [List.nil_append] at P1
  apply g_X12_number_76
  have e2 : μ1 (M + 31) 3 = M + 38 := H1.2.2.1 (31, 3, 38) (by decide)
  rw [H.1.f36.1, H.1.f36.2.2, e2]
  refine fun _ _ => ⟨H.1.k, H.1.f36.2.1, by decide, (H1.2.1 38 (by decide)).1, rg_set H1 (by decide) (by decide) (fun μ2 H2 f2 => ?_)⟩
  have P2 := P1.fb f2
  apply g_X12_number_86
  have e3 : μ2 (M + 31) 3 = M + 38 := H2.2.2.1 (31, 3, 38) (by decide)
  have e4 : μ2 (M + 60) n = M + l := H2.2.2.1 _ hl
  rw [H.1.f36.1, H.1.f36.2.2, H.1.f51.1, H.1.f51.2.2, e3, e4]
  refine fun _ _ => ⟨H.1.k, H.1.f51.2.1, n0, n6, H.1.f36.2.1, by decide, (H2.2.1 l bl').1, rg_cmp H2 bl' (by decide) ?_⟩
  have rl : up R1 38 1 l = R l := by rw [up_ne l38]; exact fr1 l l36
  rw [rl, up_same]
  have fr2 : ∀ s, ¬ tmp s → up R1 38 1 s = R s := fun s hs => by
    rw [up_ne (fun e => hs (by unfold tmp; omega))]; exact fr1 s (fun e => hs (by unfold tmp; omega))
  have F2 : FD M μ μ2 := f1.trans (FD.b f2)
  apply g_X12_number_101
  refine fun _ _ _ => ⟨fun q => ?_, fun q => ⟨H.1.k, ?_⟩⟩
  · have d1 : R l = 1 := by
      unfold cp at q
      by_cases a : R l < 1
      · rw [if_pos a] at q; exact absurd q (by decide)
      · by_cases b : R l = 1
        · exact b
        · rw [if_neg a, if_neg b] at q; exact absurd q (by decide)
    exact nm_120 H.1 P2 (hh μ2 _ _ H2 fr2 ⟨ln, D1, Or.inl ⟨d1, rfl⟩⟩ P2 F2)
  · have d1 : R l ≠ 1 := fun e => q (by rw [e]; decide)
    have len := D1.len (k := 38) bu
    have sl : (sgl (R u)).length ≤ 1 := by unfold sgl; split <;> decide
    have ll : (sgl (R u) ++ ln.reverse).length ≤ 40 := by rw [List.length_append, List.length_reverse]; omega
    refine sp_X12_puts H.1 P2 (by omega) (by decide) (by decide) (fun μ3 f3 P3 => ?_)
    have H3 := H2.fm f3
    apply g_X12_number_110
    have e5 : μ3 (M + 60) n = M + l := H3.2.2.1 _ hl
    rw [H.1.f51.1, H.1.f51.2.2, e5]
    refine fun _ _ => ⟨H.1.k, H.1.f51.2.1, n0, n6, rg_decimals bl' l36 (by rw [rl]; exact bl) (by rw [List.length_append]; have : ([47] : List Int).length = 1 := rfl; omega) H3 P3 (fun μ4 R4 ld H4 fr4 D4 P4 f4 => ?_)⟩
    rw [rl] at D4 P4
    have s0 : sgl (R l) = [] := by unfold sgl; rw [if_neg (by omega)]
    rw [s0, List.nil_append] at P4
    refine nm_120 H.1 P4 (hh μ4 R4 _ H4 (fun s hs => ?_) ⟨ln, D1, Or.inr ⟨d1, ld, D4, rfl⟩⟩ P4 ((F2.trans (FD.m f3)).trans f4))
    rw [fr4 s (fun e => hs (by unfold tmp; omega))]; exact fr2 s hs
theorem nm_in {n : Int} (n0 : 0 ≤ n) (n6 : n < 6) : (47, n, 48 + 2 * n) ∈ lm_a ∧ (60, n, 61 + 2 * n) ∈ lm_a := by
  have : n = 0 ∨ n = 1 ∨ n = 2 ∨ n = 3 ∨ n = 4 ∨ n = 5 := by omega
  rcases this with z | z | z | z | z | z <;> subst z <;> decide
theorem sp_X12_number {Q X : m_Po} {ε : m_E} {μ : m_M} {M n : Int} {R : Int → Int} (H : RG ε μ M R)
    (hb : μ M 53 ≠ 0 → μ M 54 ≠ 0 → 0 ≤ n → n < 6 → 0 < R (61 + 2 * n) ∧ ((R (48 + 2 * n)).natAbs : Int) * 2 < PB 12 ∧ ((R (61 + 2 * n)).natAbs : Int) * 2 < PB 12 ∧ ∀ a d, LO (R (48 + 2 * n)) (R (61 + 2 * n)) a d → a.natAbs < 10 ^ 39 ∧ d.natAbs < 10 ^ 39)
    (h1 : μ M 53 = 0 ∨ μ M 54 = 0 → Q 0 ε (st μ M 0 1)) (h2 : μ M 53 ≠ 0 → μ M 54 ≠ 0 → n < 0 ∨ 6 ≤ n → Q 0 ε (st μ M 0 2))
    (hh : ∀ μ' R' t, μ M 53 ≠ 0 → μ M 54 ≠ 0 → 0 ≤ n → n < 6 → RG ε μ' M R' → (∀ s, ¬ tmp s → s ≠ 48 + 2 * n → s ≠ 61 + 2 * n → R' s = R s) → LO (R (48 + 2 * n)) (R (61 + 2 * n)) (R' (48 + 2 * n)) (R' (61 + 2 * n)) → TX (R' (48 + 2 * n)) (R' (61 + 2 * n)) t → PL (μ' (M + 104)) (μ' M 63) t → FD M (st μ M 0 0) μ' → Q t.length ε μ') : o_X12_number [(2, M), (0, n)] ε μ Q X := by
  apply e_X12_number
  rw [H.1.f50.1, H.1.f50.2.2, H.1.f51.1, H.1.f51.2.2]
  refine fun _ _ => ⟨H.1.k, fun t ht => ⟨H.1.k, fun μ1 m1 => ⟨H.1.k, ?_⟩⟩⟩
  have e0 : μ1 M 0 = t := by rw [m1, sx_same]
  rw [e0]
  by_cases a : μ M 53 = 0
  · rw [if_pos a] at ht
    exact ⟨fun q => absurd q (by omega), fun _ => by rw [m1, ht]; exact h1 (Or.inl a)⟩
  by_cases b : μ M 54 = 0
  · rw [if_neg a, if_pos b] at ht
    exact ⟨fun q => absurd q (by omega), fun _ => by rw [m1, ht]; exact h1 (Or.inr b)⟩
  by_cases c : n < 0
  · rw [if_neg a, if_neg b, if_pos c] at ht
    exact ⟨fun q => absurd q (by omega), fun _ => by rw [m1, ht]; exact h2 a b (Or.inl c)⟩
  by_cases d : n ≤ 5
  · rw [if_neg a, if_neg b, if_neg c, if_pos d] at ht
    refine ⟨fun _ μ2 m2 => ?_, fun q => absurd q (by omega)⟩
    have n0 : 0 ≤ n := by omega
    have n6 : n < 6 := by omega
    obtain ⟨i1, i2⟩ := nm_in n0 n6
    obtain ⟨c1, c2, c3, c4⟩ := hb a b n0 n6
    have tu : ¬ tmp (48 + 2 * n) := by unfold tmp; omega
    have tl : ¬ tmp (61 + 2 * n) := by unfold tmp; omega
    have H2 : RG ε μ2 M R := by rw [m2, m1]; exact rg_m0 (rg_m0 H)
    have F2 : FD M (st μ M 0 0) μ2 := by rw [m2, m1, ht]; exact FD.s63
    have P2 : PL (μ2 (M + 104)) (μ2 M 63) [] := PL.nil (by rw [m2, sx_same])
    have e1 : μ2 (M + 47) n = M + (48 + 2 * n) := H2.2.2.1 _ i1
    have e2 : μ2 (M + 60) n = M + (61 + 2 * n) := H2.2.2.1 _ i2
    have ul : 48 + 2 * n ≠ 61 + 2 * n := by omega
    have l0 : R (61 + 2 * n) ≠ 0 := fun e => by rw [e] at c1; exact absurd c1 (by decide)
    rw [e1, e2]
    refine ⟨H.1.f50.2.1, n0, n6, H.1.f51.2.1, n6, rg_lowest (lm_has _ i1) (lm_has _ i2) tu tl ul H2 l0 c2 c3 (fun μ3 R3 H3 lo fr3 f3 => ?_)⟩
    obtain ⟨d1, d2⟩ := c4 _ _ lo
    exact nm_66 H3 i1 i2 tu tl n0 n6 d1 d2 lo.1 (P2.fb f3) (fun μ' R' t x1 x2 x3 x4 x5 => hh μ' R' t a b n0 n6 x1 (fun s s1 s2 s3 => by rw [x2 s s1]; exact fr3 s s1 s2 s3) (by rw [x2 _ tu, x2 _ tl]; exact lo) (by rw [x2 _ tu, x2 _ tl]; exact x3) x4 ((F2.trans (FD.b f3)).trans x5))
  · rw [if_neg a, if_neg b, if_neg c, if_neg d] at ht
    exact ⟨fun q => absurd q (by omega), fun _ => by rw [m1, ht]; exact h2 a b (Or.inr (by omega))⟩
