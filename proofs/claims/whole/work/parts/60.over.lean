/-! ===== dividing Bigs ===== -/
theorem rg_twice' {Q X : m_Po} {ε : m_E} {μ : m_M} {M r : Int} {R : Int → Int} (H : RG ε μ M R) (hr : r ∈ lm_b) (hb : 2 * ((R r).natAbs : Int) < PB 12) (h : ∀ μ' v, (v.natAbs : Int) = 2 * ((R r).natAbs : Int) → RG ε μ' M (up R r v) → FB M μ μ' → Q 0 ε μ') : o_X11_twice [(2, M + r)] ε μ Q X := by
  refine sp_X11_twice (H.2.1 r hr) (by rw [rg_abs H hr]; exact hb) (fun μ' f e => ?_)
  have el : μ' (M + r) 1 = μ (M + r) 1 := f _ _ (by omega)
  rw [rg_abs H hr] at e
  refine h μ' (bv μ' (M + r) (M + r + 1)) ?_ (H.after hr (Ex2.of f) (by rw [el]; exact (H.2.2.2 r hr).1) rfl) (Ex2.fb hr (Ex2.of f))
  unfold bv
  rw [e]
  split <;> omega
theorem or32_even {v : Int} (hv : i32 v) (he : v % 2 = 0) : o_or32 v 1 = v + 1 := by
  have := or32_twice (v / 2) (b := 1) (by decide) (by decide)
  rw [show v / 2 * 2 = v by omega, w32_id hv] at this
  rw [this]
  unfold i32 at hv
  unfold w32
  omega
theorem RG.inc {ε : m_E} {μ : m_M} {M r : Int} {R : Int → Int} (H : RG ε μ M R) (hr : r ∈ lm_b) (hT : TY ε μ) (he : ((R r).natAbs : Int) % 2 = 0) : ∃ v, (v.natAbs : Int) = (R r).natAbs + 1 ∧ RG ε (st μ (M + r + 1) 0 (o_or32 (μ (M + r + 1) 0) 1)) M (up R r v) ∧ FB M μ (st μ (M + r + 1) 0 (o_or32 (μ (M + r + 1) 0) 1)) := by
  have A := H.2.1 r hr
  have i := hT.int A.2.2.1 (i := 0) (by decide) (by rw [A.2.2.2.1]; decide)
  have hm := rg_abs H hr
  obtain ⟨q, hq⟩ := bs_split (μ (M + r + 1)) 1 11
  have e1 : bs' (μ (M + r + 1)) 1 = μ (M + r + 1) 0 % 4294967296 := by
    rw [bs_succ]; simp [bs', PB_zero]
  rw [e1, show PB 1 = 4294967296 from rfl] at hq
  have hq' : mg μ (M + r + 1) = μ (M + r + 1) 0 % 4294967296 + q * 4294967296 := hq
  have e2 : μ (M + r + 1) 0 % 2 = 0 := by omega
  rw [or32_even i e2]
  have f : Ex2 (M + r) (M + r + 1) μ (st μ (M + r + 1) 0 (μ (M + r + 1) 0 + 1)) := Ex2.st2
  refine ⟨bv (st μ (M + r + 1) 0 (μ (M + r + 1) 0 + 1)) (M + r) (M + r + 1), ?_, H.after hr f (by rw [sx_oa (by omega)]; exact (H.2.2.2 r hr).1) rfl, Ex2.fb hr f⟩
  have e3 : mg (st μ (M + r + 1) 0 (μ (M + r + 1) 0 + 1)) (M + r + 1) = mg μ (M + r + 1) + 1 := by
    have := bs_st_at (μ := μ) (o := M + r + 1) (v := μ (M + r + 1) 0 + 1) 0 12 (by decide)
    rw [PB_zero, show ((0 : Nat) : Int) = 0 from rfl] at this
    unfold mg
    omega
  unfold bv
  rw [e3, hm]
  split <;> omega
theorem p2_succ (n : Nat) : (2 : Int) ^ (n + 1) = 2 ^ n * 2 := Int.pow_succ _ _
theorem p2_pos (n : Nat) : (0 : Int) < 2 ^ n := Int.pow_pos (by decide)
theorem PB_2 : PB 12 = 2 ^ 384 := by decide +kernel
theorem cp_le {x y : Int} (h : x ≤ y) : cp x y ≤ 0 := by
  unfold cp; split <;> (try split) <;> omega
theorem cp_gt {x y : Int} (h : y < x) : 0 < cp x y := by
  unfold cp; rw [if_neg (by omega), if_neg (by omega)]; decide
theorem ov_step {Q X : m_Po} {ε : m_E} {M x : Int} (hx : x ∈ lm_b) (x0 : x ≠ 32) (x1 : x ≠ 34) {s4 n k : Int} (hk : k ≤ n) {R : Int → Int} {μ : m_M} (H : RG ε μ M R) {P q r : Int} (hP : 0 < P) (e34 : R 34 = P) (ex : ((R x).natAbs : Int) = q) (e32 : R 32 = r) (r0 : 0 ≤ r) (r1 : r < 2 * P) (ha : (q * (2 * P) + r) * 2 < PB 12)
    (h : ∀ μ' R' q' r', RG ε μ' M R' → ((R' x).natAbs : Int) = q' → R' 32 = r' → R' 34 = P → 0 ≤ r' → r' < P → q * (2 * P) + r = q' * P + r' → (∀ s, s ≠ 32 → s ≠ 34 → s ≠ x → R' s = R s) → FB M μ μ' → G cd_X12_over Q X 149 [(0, (2, M)), (1, (2, M + x)), (3, (0, n)), (4, (0, s4)), (5, (0, k))] [] ε μ') :
    G cd_X12_over Q X 89 [(0, (2, M)), (1, (2, M + x)), (3, (0, n)), (4, (0, s4)), (5, (0, k))] [] ε μ := by
  have b0 : (32 : Int) ∈ lm_b := by decide
  have b1 : (34 : Int) ∈ lm_b := by decide
  have q0 : 0 ≤ q := by omega
  have q2 : 2 * q ≤ q * (2 * P) := by
    have := Int.mul_le_mul_of_nonneg_left (show 2 ≤ 2 * P by omega) q0
    omega
  apply g_X12_over_89
  refine fun _ _ _ _ => ⟨fun c => by omega, fun _ => ⟨(H.2.1 x hx).1, rg_twice' H hx (by rw [ex]; omega) (fun μ1 v ev H1 f1 => ?_)⟩⟩
  have L := H1.1
  have g0 : μ1 (M + 31) 0 = M + 32 := H1.2.2.1 (31, 0, 32) (by decide)
  have g1 : μ1 (M + 31) 1 = M + 34 := H1.2.2.1 (31, 1, 34) (by decide)
  have n32 : up R x v 32 = r := by rw [up_ne (Ne.symm x0)]; exact e32
  have n34 : up R x v 34 = P := by rw [up_ne (Ne.symm x1)]; exact e34
  have eP' : (P.natAbs : Int) = P := by omega
  have er' : (r.natAbs : Int) = r := by omega
  apply g_X12_over_99
  rw [L.f36.1, g0, g1]
  refine fun _ _ _ _ => ⟨L.k, L.f36.2.1, by rw [L.f36.2.2]; decide, by rw [L.f36.2.2]; decide, (H1.2.1 34 b1).1, rg_sizes H1 b1 b0 ?_⟩
  rw [n32, n34, eP', er']
  apply g_X12_over_114
  rw [L.f36.1, g0, g1]
  refine fun _ _ _ _ _ => ⟨fun c => ?_, fun c => ?_⟩
  · have c' : r < P := by
      rcases Int.lt_or_le r P with z | z
      · exact z
      · have := cp_le z; omega
    exact h μ1 _ (2 * q) r H1 (by rw [up_same, ev, ex]) n32 n34 r0 c' (by grind) (fun s h1 h2 h3 => up_ne h3) f1
  · have c' : P ≤ r := by
      rcases Int.lt_or_le r P with z | z
      · have := cp_gt z; omega
      · exact z
    refine ⟨L.k, L.f36.2.1, by rw [L.f36.2.2]; decide, by rw [L.f36.2.2]; decide, (H1.2.1 32 b0).1, rg_sum H1 b0 b0 b1 (Or.inr rfl) (by rw [n32, n34]; omega) (fun μ2 H2 f2 => ?_)⟩
    rw [if_neg (by decide), n32, n34] at H2
    have nx : ((up (up R x v) 32 (r - P) x).natAbs : Int) = 2 * q := by rw [up_ne x0, up_same, ev, ex]
    apply g_X12_over_139
    rw [(H2.2.1 x hx).2.1]
    refine fun hT _ _ _ => ⟨(H2.2.1 x hx).1, (H2.2.1 x hx).2.2.1, by rw [(H2.2.1 x hx).2.2.2.1]; decide, fun μ3 m3 => ?_⟩
    obtain ⟨w, ew, H3, f3⟩ := H2.inc hx hT (by rw [nx]; omega)
    rw [m3]
    rw [nx] at ew
    exact h _ _ (2 * q + 1) (r - P) H3 (by rw [up_same, ew]) (by rw [up_ne (Ne.symm x0), up_same]) (by rw [up_ne (Ne.symm x1), up_ne (by decide), n34]) (by omega) (by omega) (by grind) (fun s h1 h2 h3 => by rw [up_ne h3, up_ne h1, up_ne h3]) ((f1.trans f2).trans f3)
theorem ov_fin {Q X : m_Po} {ε : m_E} {M x s4 n k : Int} {μ' : m_M} {R' : Int → Int} (H' : RG ε μ' M R') (e3 : 0 ≤ R' 34) (hk : 0 ≤ k ∧ k < 2147483647) (h : ∀ μ2, RG ε μ2 M (up R' 34 (R' 34 / 2)) → FB M μ' μ2 → G cd_X12_over Q X 89 [(0, (2, M)), (1, (2, M + x)), (3, (0, n)), (4, (0, s4)), (5, (0, k + 1))] [] ε μ2) : G cd_X12_over Q X 149 [(0, (2, M)), (1, (2, M + x)), (3, (0, n)), (4, (0, s4)), (5, (0, k))] [] ε μ' := by
  have b1 : (34 : Int) ∈ lm_b := by decide
  have L := H'.1
  have g1 : μ' (M + 31) 1 = M + 34 := H'.2.2.1 (31, 1, 34) (by decide)
  apply g_X12_over_149
  rw [L.f36.1, g1]
  refine fun _ _ _ _ => ⟨L.k, L.f36.2.1, by rw [L.f36.2.2]; decide, (H'.2.1 34 b1).1, rg_half H' b1 e3 (fun μ2 H2 f2 => ?_)⟩
  apply g_X12_over_158
  refine fun _ _ _ _ k1 ek => ?_
  have ek' : k1 = k + 1 := by rw [ek, w32_id (by unfold i32; omega)]
  rw [ek']
  exact h μ2 H2 f2
theorem ov2 {Q X : m_Po} {ε : m_E} {M x : Int} (hx : x ∈ lm_b) (x0 : x ≠ 32) (x1 : x ≠ 34) {a b s4 n : Int} (hb : 0 < b) (ha : a * 2 < PB 12) (hs4 : s4 = 0 ∨ s4 = 1) (hn : n < 2147483647) {R0 : Int → Int} {μ0 : m_M}
    (h : ∀ μ' R', RG ε μ' M R' → R' 32 = a % b → R' x = (if s4 = 0 then a / b else -(a / b)) → (∀ s, s ≠ 32 → s ≠ 34 → s ≠ x → R' s = R0 s) → FB M μ0 μ' → Q 0 ε μ') :
    ∀ (m : Nat) (k : Int) (μ : m_M) (R : Int → Int) (P q r : Int), k + m = n → 0 ≤ k → RG ε μ M R → P = b * 2 ^ m → R 34 = P → ((R x).natAbs : Int) = q → R 32 = r → 0 ≤ r → r < 2 * P → a = q * (2 * P) + r → (∀ s, s ≠ 32 → s ≠ 34 → s ≠ x → R s = R0 s) → FB M μ0 μ →
    G cd_X12_over Q X 89 [(0, (2, M)), (1, (2, M + x)), (3, (0, n)), (4, (0, s4)), (5, (0, k))] [] ε μ := by
  intro m
  induction m with
  | zero =>
    intro k μ R P q r hk k0 H eP e34 ex e32 r0 r1 ea fr fb
    have hP : P = b := by rw [eP]; simp
    subst hP
    refine ov_step hx x0 x1 (by omega) H hb e34 ex e32 r0 r1 (by rw [← ea]; exact ha) (fun μ' R' q' r' H' e1 e2 e3 z0 z1 ea' fr' f' => ?_)
    rw [← ea] at ea'
    refine ov_fin H' (by omega) ⟨k0, by omega⟩ (fun μ2 H2 f2 => ?_)
    have d1 : a / P = q' := by
      rw [ea', Int.mul_comm, Int.mul_add_ediv_left _ _ (by omega), Int.ediv_eq_zero_of_lt z0 z1]; omega
    have d2 : a % P = r' := by
      rw [ea', Int.mul_comm, Int.mul_add_emod_self_left, Int.emod_eq_of_lt z0 z1]
    apply g_X12_over_89
    refine fun _ _ _ _ => ⟨fun _ => ⟨(H2.2.1 x hx).1, hs4, fun μ3 m3 => ?_⟩, fun c => by omega⟩
    obtain ⟨H3, f3⟩ := H2.sign hx hs4
    rw [m3]
    refine h _ _ H3 ?_ ?_ ?_ (((fb.trans f').trans f2).trans f3)
    · rw [up_ne (Ne.symm x0), up_ne (by decide), d2]; exact e2
    · rw [up_same, up_ne x1, e1, d1]
    · intro s h1 h2 h3
      rw [up_ne h3, up_ne h2, fr' s h1 h2 h3]; exact fr s h1 h2 h3
  | succ m ih =>
    intro k μ R P q r hk k0 H eP e34 ex e32 r0 r1 ea fr fb
    have hP2 : P = 2 * (b * 2 ^ m) := by rw [eP, p2_succ]; grind
    have hh : 0 < b * 2 ^ m := Int.mul_pos hb (p2_pos m)
    generalize b * 2 ^ m = P' at *
    refine ov_step hx x0 x1 (by omega) H (by omega) e34 ex e32 r0 r1 (by rw [← ea]; exact ha) (fun μ' R' q' r' H' e1 e2 e3 z0 z1 ea' fr' f' => ?_)
    rw [← ea] at ea'
    refine ov_fin H' (by omega) ⟨k0, by omega⟩ (fun μ2 H2 f2 => ?_)
    refine ih (k + 1) μ2 _ P' q' r' (by omega) (by omega) H2 rfl (by rw [up_same, e3]; omega) (by rw [up_ne x1]; exact e1) (by rw [up_ne (by decide)]; exact e2) z0 (by omega) (by rw [ea', hP2]) (fun s h1 h2 h3 => by rw [up_ne h2, fr' s h1 h2 h3]; exact fr s h1 h2 h3) ((fb.trans f').trans f2)
theorem ov1 {Q X : m_Po} {ε : m_E} {M x : Int} (hx : x ∈ lm_b) (x0 : x ≠ 32) (x1 : x ≠ 34) {a b : Int} (hb : 0 < b) (a0 : 0 ≤ a) (ha : a * 2 < PB 12) {R0 : Int → Int} {μ0 : m_M} (ex : ((R0 x).natAbs : Int) = a)
    (h : ∀ μ' R', RG ε μ' M R' → R' 32 = a % b → R' x = Int.tdiv (R0 x) b → (∀ s, s ≠ 32 → s ≠ 34 → s ≠ x → R' s = R0 s) → FB M μ0 μ' → Q 0 ε μ') :
    ∀ (d n : Nat) (μ : m_M) (R : Int → Int), n + d = 384 → RG ε μ M R → R 34 = b * 2 ^ n → R 32 = a → (∀ s, s ≠ 32 → s ≠ 34 → R s = R0 s) → FB M μ0 μ → G cd_X12_over Q X 42 [(0, (2, M)), (1, (2, M + x)), (3, (0, n))] [] ε μ := by
  have b0 : (32 : Int) ∈ lm_b := by decide
  have b1 : (34 : Int) ∈ lm_b := by decide
  have main : ∀ (n : Nat) (μ : m_M) (R : Int → Int), n ≤ 384 → RG ε μ M R → R 34 = b * 2 ^ n → R 32 = a → (∀ s, s ≠ 32 → s ≠ 34 → R s = R0 s) → FB M μ0 μ → (∀ μ', b * 2 ^ n ≤ a → RG ε μ' M (up R 34 (b * 2 ^ (n + 1))) → FB M μ0 μ' → G cd_X12_over Q X 42 [(0, (2, M)), (1, (2, M + x)), (3, (0, ((n + 1 : Nat) : Int)))] [] ε μ') → G cd_X12_over Q X 42 [(0, (2, M)), (1, (2, M + x)), (3, (0, n))] [] ε μ := by
    intro n μ R hn H e34 e32 fr fb nxt
    have hP : 0 < b * 2 ^ n := Int.mul_pos hb (p2_pos n)
    have L := H.1
    have g0 : μ (M + 31) 0 = M + 32 := H.2.2.1 (31, 0, 32) (by decide)
    have g1 : μ (M + 31) 1 = M + 34 := H.2.2.1 (31, 1, 34) (by decide)
    apply g_X12_over_42
    rw [L.f36.1, g0, g1]
    refine fun _ _ => ⟨L.k, L.f36.2.1, by rw [L.f36.2.2]; decide, by rw [L.f36.2.2]; decide, (H.2.1 34 b1).1, rg_sizes H b1 b0 ?_⟩
    rw [e34, e32, show ((b * 2 ^ n).natAbs : Int) = b * 2 ^ n by omega, show (a.natAbs : Int) = a by omega]
    apply g_X12_over_57
    rw [L.f36.1, g1]
    refine fun _ _ _ => ⟨fun c => ⟨(H.2.1 x hx).1, fun v4 e4 => rg_set H hx (by decide) (fun μ1 H1 f1 => ?_)⟩, fun c => ⟨L.k, L.f36.2.1, by rw [L.f36.2.2]; decide, (H.2.1 34 b1).1, rg_twice H b1 (by rw [e34]; omega) ?_ (fun μ1 H1 f1 => ?_)⟩⟩
    · have c' : a < b * 2 ^ n := by
        rcases Int.lt_or_le a (b * 2 ^ n) with z | z
        · exact z
        · have := cp_le z; omega
      have s4 : v4 = 0 ∨ v4 = 1 := by rw [e4]; exact (H.2.2.2 x hx).1
      have sg4 : R0 x = if v4 = 0 then a else -a := by
        have := rg_sg H hx
        rw [fr x x0 x1, ex, ← e4] at this
        exact this
      apply g_X12_over_86
      refine fun _ _ _ v5 e5 => ?_
      rw [e5]
      refine ov2 hx x0 x1 hb ha s4 (by omega) (R0 := R0) (μ0 := μ0) (fun μ' R' H' r1 r2 r3 r4 => h μ' R' H' r1 ?_ r3 r4) n 0 μ1 _ (b * 2 ^ n) 0 a (by omega) (by decide) H1 rfl (by rw [up_ne (Ne.symm x1)]; exact e34) (by rw [up_same]; rfl) (by rw [up_ne (Ne.symm x0)]; exact e32) a0 (by omega) (by omega) (fun s h1 h2 h3 => by rw [up_ne h3]; exact fr s h1 h2) (fb.trans f1)
      rw [r2, sg4]
      split
      · rw [Int.tdiv_eq_ediv_of_nonneg a0]
      · rw [Int.neg_tdiv, Int.tdiv_eq_ediv_of_nonneg a0]
    · have c' : b * 2 ^ n ≤ a := by
        rcases Int.lt_or_le a (b * 2 ^ n) with z | z
        · have := cp_gt z; omega
        · exact z
      rw [e34]; omega
    · have c' : b * 2 ^ n ≤ a := by
        rcases Int.lt_or_le a (b * 2 ^ n) with z | z
        · have := cp_gt z; omega
        · exact z
      apply g_X12_over_69
      refine fun _ _ v3 e3 => ?_
      have e3' : v3 = ((n + 1 : Nat) : Int) := by rw [e3, w32_id (by unfold i32; omega)]; omega
      rw [e3']
      refine nxt μ1 c' ?_ (fb.trans f1)
      rw [e34] at H1
      rw [p2_succ, show b * (2 ^ n * 2) = 2 * (b * 2 ^ n) by grind]
      exact H1
  intro d
  induction d with
  | zero =>
    intro n μ R hn H e34 e32 fr fb
    refine main n μ R (by omega) H e34 e32 fr fb (fun μ' c _ _ => ?_)
    exfalso
    have hn : n = 384 := by omega
    subst hn
    rw [← PB_2] at c
    have := Int.mul_le_mul_of_nonneg_right (show 1 ≤ b by omega) (Int.le_of_lt (PB_pos 12))
    omega
  | succ d ih =>
    intro n μ R hn H e34 e32 fr fb
    refine main n μ R (by omega) H e34 e32 fr fb (fun μ' c H' f' => ih (n + 1) μ' _ (by omega) H' up_same (by rw [up_ne (by decide)]; exact e32) (fun s h1 h2 => by rw [up_ne h2]; exact fr s h1 h2) f')
theorem rg_over {Q X : m_Po} {ε : m_E} {μ : m_M} {M x y : Int} {R : Int → Int} (H : RG ε μ M R) (hx : x ∈ lm_b) (hy : y ∈ lm_b) (x0 : x ≠ 32) (x1 : x ≠ 34) (y0 : y ≠ 32) (hy0 : R y ≠ 0) (ha : ((R x).natAbs : Int) * 2 < PB 12)
    (h : ∀ μ' R', RG ε μ' M R' → R' 32 = ((R x).natAbs : Int) % (R y).natAbs → R' x = Int.tdiv (R x) (R y).natAbs → (∀ s, s ≠ 32 → s ≠ 34 → s ≠ x → R' s = R s) → FB M μ μ' → Q 0 ε μ') : o_X12_over [(2, M), (2, M + x), (2, M + y)] ε μ Q X := by
  have b0 : (32 : Int) ∈ lm_b := by decide
  have b1 : (34 : Int) ∈ lm_b := by decide
  have L := H.1
  have g0 : μ (M + 31) 0 = M + 32 := H.2.2.1 (31, 0, 32) (by decide)
  apply e_X12_over
  rw [L.f36.1, g0]
  refine fun _ => ⟨L.k, L.f36.2.1, by rw [L.f36.2.2]; decide, (H.2.1 32 b0).1, rg_take H b0 hx (fun μ1 H1 f1 => ?_)⟩
  have g1 : μ1 (M + 31) 1 = M + 34 := H1.2.2.1 (31, 1, 34) (by decide)
  apply g_X12_over_10
  rw [L.f36.1, g1]
  refine fun _ => ⟨L.k, L.f36.2.1, by rw [L.f36.2.2]; decide, (H.2.1 34 b1).1, rg_take H1 b1 hy (fun μ2 H2 f2 => ?_)⟩
  have g0' : μ2 (M + 31) 0 = M + 32 := H2.2.2.1 (31, 0, 32) (by decide)
  apply g_X12_over_20
  rw [L.f36.1, g0']
  refine fun _ => ⟨L.k, L.f36.2.1, by rw [L.f36.2.2]; decide, (H.2.1 32 b0).1, fun μ3 m3 => ?_⟩
  obtain ⟨H3, f3⟩ := H2.sign b0 (Or.inl rfl)
  rw [← m3] at H3 f3
  have g1' : μ3 (M + 31) 1 = M + 34 := H3.2.2.1 (31, 1, 34) (by decide)
  rw [g1']
  refine ⟨by rw [L.f36.2.2]; decide, (H.2.1 34 b1).1, fun μ4 m4 v3 e3 => ?_⟩
  obtain ⟨H4, f4⟩ := H3.sign b1 (Or.inl rfl)
  rw [← m4] at H4 f4
  rw [e3]
  rw [if_pos rfl, if_pos rfl] at H4
  have F : FB M μ μ4 := ((f1.trans f2).trans f3).trans f4
  refine ov1 hx x0 x1 (a := ((R x).natAbs : Int)) (b := ((R y).natAbs : Int)) (by omega) (by omega) ha (R0 := R) (μ0 := μ) rfl h 384 0 μ4 _ (by decide) H4 ?_ ?_ ?_ F
  · rw [up_same, up_ne (by decide), up_same, up_ne y0]; simp
  · rw [up_ne (by decide), up_same, up_ne (by decide), up_same]
  · intro s h1 h2
    rw [up_ne h2, up_ne h1, up_ne h2, up_ne h1]
