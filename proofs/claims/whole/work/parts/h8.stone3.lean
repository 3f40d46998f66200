set_option maxHeartbeats 2000000
/-! ===== pair of calls: stone ===== -/
theorem pr_stone {ε : m_E} {μ : m_M} {X kind r k part : Int} {codes : Int → Int} (c1 : codes 1 = 1) (c2 : codes 2 = 2) (H : Rel ε μ X) : PAIR (fun ε μ Q Y => o_X10_stone [(2, X), (0, kind), (0, r), (0, k), (0, part)] ε μ Q Y) (fun ε μ Q Y => o_X12_stone [(2, X + 34), (0, kind), (0, r), (0, k), (0, part)] ε μ Q Y) codes ε μ X := by
  intro QC XC hq hx
  have H' := H
  obtain ⟨ow, R, S, G', J, P, C⟩ := H
  have e4 : sgM μ (X + 34) 0 4 = μ (X + 34) 4 := by unfold sgM; rw [Int.add_zero]
  have e14 : sgM μ (X + 34) 0 14 = μ (X + 34) 14 := by unfold sgM; rw [Int.add_zero]
  have R8 := C.2.1.2.2.1
  have C10 := C.2.2.1.1
  have C0 := C.2.2.1.2.1
  have C1 := C.2.2.1.2.2.1
  apply e_X10_stone
  intro T _ _ _ _
  have B := fun b (hb : 0 ≤ kd ε b) => (T.1 b hb).2
  have hX := B (X + 141) (by rw [S.2.2.2.2.2.2.1]; decide)
  have A0 : 0 < nx ε := by have := (T.1 X (by rw [S.1.k]; decide)).1; have := B X (by rw [S.1.k]; decide); omega
  refine ⟨S.1.k, sp_X10_rackWithRow S C.2.1 (fun y z hz => hx 1 _ _ (by rw [c1]; decide) ?_) (fun r0 r1 k0 k1 K => ?_)⟩
  · rw [c1]
    refine aft_thr H' (by decide) EX.nx (fun μ2 Q Y f2 G2 K => ?_)
    have f4 : μ2 (X + 34) 4 = μ (X + 34) 4 := f2 _ _ (by omega)
    apply e_X12_stone
    refine fun _ _ _ _ _ => ⟨G2.1.k, sp_X12_isRow G2.1 (fun a b c d => by omega) (fun _ => ?_)⟩
    apply g_X12_stone_6
    exact fun _ _ _ _ _ _ => ⟨fun z => absurd rfl z, fun _ => K⟩
  apply g_X10_stone_6
  intro _ _ _ _ v5 e5
  rw [e5]
  refine sp_X7_mayBe (fun m => ?_) (fun m => ?_)
  case _ =>
    have LK := K.1
    obtain ⟨hNc, hN0, hN1⟩ := K.2.2.2.2.1 k k0 k1
    have hrow := K.2.2.2.2.2
    generalize hN : sgM μ (X + 34) 2 (40 * r + k) = N at *
    generalize hc : sgM μ (X + 34) 0 14 = c at *
    have L2 := G'.1
    have rc : r < μ (X + 34) 4 := by omega
    have ra : μ (X + 34) 4 ≤ 8 := by omega
    have simple : ∀ z : Int, ((N = -1 ∧ z = -1) ∨ (N ≠ -1 ∧ (N < 6 ∨ 24 < N ∨ N % 2 = 1) ∧ z = -2)) → QC z ε μ := fun z hz => by
      refine hq z _ _ ⟨EX.rf, fun _ _ _ => rfl, fun μ2 f2 Q Y K2 => ?_⟩
      have f24 : μ2 (X + 34) 4 = μ (X + 34) 4 := f2 _ _ (by omega)
      have fin : Q z ε (st μ2 (X + 34) 0 0) := K2 _ _ (fun c j h => sx_oa (by omega)) (stone_no S G' J P C B hX EX.rf hc (fun b j h1 h2 h3 _ _ _ => by rw [st, if_neg h3, f2 b j h2])) sx_same (fun _ => rfl) (fun j => sx_oa (by omega))
      refine stone_lead L2 r0 (by omega) (by omega) k0 k1 m (N := N) (by rw [f2 _ _ (by omega)]; exact hN) (fun e => ?_) (fun e e' => ?_) (fun a b d => by omega)
      · rw [show (-1 : Int) = z by omega]; exact fin
      · rw [show (-2 : Int) = z by omega]; exact fin
    apply g_X10_stone_14
    refine fun _ _ _ _ _ => ⟨fun _ => ⟨LK.k, ?_⟩, fun z => absurd z (by decide)⟩
    apply e_X5_sizeOf
    rw [LK.f1.1, LK.f1.2.2, hNc]
    refine fun _ _ => ⟨fun _ _ => ⟨LK.k, LK.f1.2.1, k0, k1⟩, fun t ht => ?_⟩
    rw [if_neg (by omega), if_neg (by omega)] at ht
    rw [ht]
    apply g_X10_stone_33
    intro _ _ _ _ _ v6 e6
    rw [e6]
    refine ⟨fun a => ⟨fun b => simple _ (Or.inr ⟨a, by omega, rfl⟩), fun b => ⟨fun d => simple _ (Or.inr ⟨a, by omega, rfl⟩), fun d => ?_⟩⟩, fun a => simple _ (Or.inl ⟨a, rfl⟩)⟩
    rw [Int.tmod_eq_emod_of_nonneg (by omega)]
    refine ⟨fun ev => ⟨LK.k, ?_⟩, fun od => simple _ (Or.inr ⟨a, by omega, rfl⟩)⟩
    clear simple
    obtain ⟨n, hn⟩ : ∃ n, N = 2 * n := ⟨N / 2, by omega⟩
    subst hn
    generalize hA : nx ε = A at *
    refine sp_X5_copyOf LK k0 k1 hNc (by omega) (by omega) (fun μ1 g1 z1 => ?_)
    rw [hA] at g1 z1 ⊢
    have E1 : EX ε (ealloc ε 100 (2 * n)) := ex_al EX.rf (by rw [hA]; exact B)
    have ka : kd (ealloc ε 100 (2 * n)) A = 100 := by show (if A = nx ε then 100 else kd ε A) = 100; rw [if_pos hA.symm]
    have la : ln (ealloc ε 100 (2 * n)) A = 2 * n := by show (if A = nx ε then 2 * n else ln ε A) = 2 * n; rw [if_pos hA.symm]
    have xa : nx (ealloc ε 100 (2 * n)) = A + 1 := by show nx ε + 1 = A + 1; rw [hA]
    obtain ⟨ρ, hρ⟩ : ∃ ρ : Int → Int, ρ = fun i => sgM μ (X + 34) 3 (40 * (40 * r + k) + i) := ⟨_, rfl⟩
    have ρc : ∀ i, 0 ≤ i → i < 2 * n → μ1 A i = ρ i := fun i i0 i1 => by
      rw [z1 i i0 i1, hrow _ (by omega) (by omega), hρ]
      show sgM μ (X + 34) 3 (1600 * r + (40 * k + i)) = sgM μ (X + 34) 3 (40 * (40 * r + k) + i)
      rw [show 1600 * r + (40 * k + i) = 40 * (40 * r + k) + i by omega]
    have ρm : ∀ i, 0 ≤ i → i < 2 * n → μ (X + 34 + 3) (40 * (40 * r + k) + i) = ρ i := fun i _ _ => by rw [hρ]; rfl
    clear hρ z1 hrow
    generalize hε : ealloc ε 100 (2 * n) = ε1 at *
    have L3 := L2.ex E1
    -- a call of the reference behind a class's call without a new stone
    have no : ∀ z : Int, ((∃ i, 0 ≤ i ∧ i < 2 * n ∧ far1 (ρ i)) ∧ z = -3) ∨ ((∀ i, 0 ≤ i → i < 2 * n → ¬ far1 (ρ i)) ∧ ((¬ Sou (rwX ρ n) (rwY ρ n) n ∧ z = -4) ∨ (Sou (rwX ρ n) (rwY ρ n) n ∧ c = 120 ∧ z = -5))) → QC z ε1 μ1 := fun z hz => by
      refine hq z _ _ ⟨E1, fun b j h => g1 _ _ (by omega), fun μ2 f2 Q Y K2 => ?_⟩
      have g2 : ∀ b j, b < A → b ≠ X + 141 → μ2 b j = μ b j := fun b j h h' => by rw [f2 b j h', g1 b j (by omega)]
      have fin : ∀ μ3 : m_M, (∀ b j, ¬ (b = X + 34 ∧ j = 0) → ¬ stc X c b j → b ≠ X + 34 + 13 → b ≠ X + 34 + 14 → μ3 b j = μ2 b j) → μ3 (X + 34) 0 = 0 → Q z ε1 μ3 := fun μ3 f3 z3 => by
        have ns : ∀ b j, b < X + 34 + 4 ∨ X + 34 + 12 < b → ¬ stc X c b j := fun b j h z => by unfold stc at z; omega
        exact K2 _ _ (fun c j h => f3 _ _ (by omega) (ns _ _ (by omega)) (by omega) (by omega)) (stone_no S G' J P C B hX E1 hc (fun b j h1 h2 h3 h4 h5 h6 => by rw [f3 b j h3 h4 h5 h6, g2 b j h1 h2])) z3 (fun _ => rfl) (fun j => f3 _ _ (by omega) (ns _ _ (by omega)) (by omega) (by omega))
      have far' : ∀ nf : (∀ i, 0 ≤ i → i < 2 * n → ¬ far1 (ρ i)), ¬ (∃ i, 0 ≤ i ∧ i < 2 * n ∧ far1 (ρ i)) := fun nf ⟨i, i0, i1, i2⟩ => nf i i0 i1 i2
      by_cases hs : (∀ i, 0 ≤ i → i < 2 * n → ¬ far1 (ρ i)) ∧ Sou (rwX ρ n) (rwY ρ n) n
      · have PP : Pt ε1 μ1 A n (rwX ρ n) (rwY ρ n) := Pt.of ka la (by omega) (by omega) hs.1 ρc
        have bA : ab (smA (tuA (rwX ρ n) (rwY ρ n)) n.toNat) 240000 := smA_12 (by omega) (by decide) (by decide) (fun i i0 => tuA_ab PP.bu PP.bv i0)
        have A1 := hs.2.2
        have A2 := bA.2
        obtain ⟨px, qx, Mx⟩ := mid_ex (x := smA (moA (rwX ρ n) (rwX ρ n) (rwY ρ n)) n.toNat) (l := 3 * smA (tuA (rwX ρ n) (rwY ρ n)) n.toNat) (by omega) (by omega)
        obtain ⟨py, qy, My⟩ := mid_ex (x := smA (moA (rwY ρ n) (rwX ρ n) (rwY ρ n)) n.toNat) (l := 3 * smA (tuA (rwX ρ n) (rwY ρ n)) n.toNat) (by omega) (by omega)
        have hz' : c = 120 ∧ z = -5 := by
          rcases hz with hz | ⟨_, hz | hz⟩
          · exact absurd hz.1 (far' hs.1)
          · exact absurd hs.2 hz.1
          · exact hz.2
        refine stone_mod L3 r0 (by rw [g2 _ _ (by omega) (by omega)]; exact rc) (by rw [g2 _ _ (by omega) (by omega)]; exact ra) k0 k1 m (by rw [g2 _ _ (by omega) (by omega)]; exact hN) (by omega) (by omega) (fun i i0 i1 => by rw [g2 _ _ (by omega) (by omega)]; exact ρm i i0 i1) (c := c) (by rw [g2 _ _ (by omega) (by omega)]; omega) (by omega) (by omega) rfl rfl rfl (fun _ _ => ⟨Mx, My⟩) (fun i i0 i1 q => absurd q (hs.1 i i0 i1)) (fun _ q => absurd hs.2 q) (fun _ _ _ μ3 f3 z3 => ?_) (fun _ _ q => by omega)
        rw [← hz'.2]; exact fin μ3 f3 z3
      · refine stone_mod (px := 0) (qx := 0) (py := 0) (qy := 0) L3 r0 (by rw [g2 _ _ (by omega) (by omega)]; exact rc) (by rw [g2 _ _ (by omega) (by omega)]; exact ra) k0 k1 m (by rw [g2 _ _ (by omega) (by omega)]; exact hN) (by omega) (by omega) (fun i i0 i1 => by rw [g2 _ _ (by omega) (by omega)]; exact ρm i i0 i1) (c := c) (by rw [g2 _ _ (by omega) (by omega)]; omega) (by omega) (by omega) rfl rfl rfl (fun a b => absurd ⟨a, b⟩ hs) (fun i i0 i1 q => ?_) (fun nf q μ3 f3 z3 => ?_) (fun a b => absurd ⟨a, b⟩ hs) (fun a b => absurd ⟨a, b⟩ hs)
        · have hz' : z = -3 := by
            rcases hz with hz | ⟨nf, _⟩
            · exact hz.2
            · exact absurd q (nf i i0 i1)
          rw [← hz']
          exact fin _ (fun b j h _ _ _ => by rw [st, if_neg h]) sx_same
        · have hz' : z = -4 := by
            rcases hz with hz | ⟨_, hz | hz⟩
            · exact absurd hz.1 (far' nf)
            · exact hz.2
            · exact absurd hz.1 q
          rw [← hz']; exact fin μ3 f3 z3
    apply g_X10_stone_73
    intro _ _ _ v7 e7
    rw [e7]
    refine sp_X6_isNear ka la (by omega) (by omega) (fun nf => ?_) (fun i i0 i1 fr => ?_)
    case _ =>
      have nf' : ∀ i, 0 ≤ i → i < 2 * n → ¬ far1 (ρ i) := fun i i0 i1 => by rw [← ρc i i0 i1]; exact nf i i0 i1
      have PP : Pt ε1 μ1 A n (rwX ρ n) (rwY ρ n) := Pt.of ka la (by omega) (by omega) nf' ρc
      apply g_X10_stone_80
      refine fun _ _ _ _ => ⟨fun _ => sp_X6_isSound PP (fun Z => ?_) (fun Z => ?_), fun z => absurd z (by decide)⟩
      case _ =>
        apply g_X10_stone_91
        have x10 : μ1 X 10 = c := by rw [g1 _ _ (by omega)]; exact C10
        have SX1 := S.ex E1
        rw [x10, SX1.1.f1.1]
        refine fun _ _ _ _ => ⟨fun _ => ⟨SX1.1.k, fun q a ε2 μ2 ha e2 m2 => ?_, fun q => no _ (Or.inr ⟨nf', Or.inr ⟨Z, by omega, rfl⟩⟩)⟩, fun z => absurd z (by decide)⟩
        clear no
        have ea : a = A + 1 := by rw [ha, xa]
        have k2 : kd ε2 a = 6 := by rw [e2, ha]; show (if nx ε1 = nx ε1 then 6 else kd ε1 (nx ε1)) = 6; rw [if_pos rfl]
        subst ea
        have E2 : EX ε ε2 := by rw [e2]; exact ex_al E1 (fun b hb => by have := B b hb; rw [xa]; omega)
        have ka2 : kd ε2 A = 100 := by rw [e2]; show (if A = nx ε1 then 6 else kd ε1 A) = 100; rw [if_neg (by omega)]; exact ka
        have la2 : ln ε2 A = 2 * n := by rw [e2]; show (if A = nx ε1 then 0 else ln ε1 A) = 2 * n; rw [if_neg (by omega)]; exact la
        have ρ2 : ∀ i, 0 ≤ i → i < 2 * n → μ2 A i = ρ i := fun i i0 i1 => by rw [m2, mnew, if_neg (by omega)]; exact ρc i i0 i1
        have P2 : Pt ε2 μ2 A n (rwX ρ n) (rwY ρ n) := Pt.of ka2 la2 (by omega) (by omega) nf' ρ2
        have bA : ab (smA (tuA (rwX ρ n) (rwY ρ n)) n.toNat) 240000 := smA_12 (by omega) (by decide) (by decide) (fun i i0 => tuA_ab PP.bu PP.bv i0)
        have bx : ab (smA (moA (rwX ρ n) (rwX ρ n) (rwY ρ n)) n.toNat) 48000000 := smA_12 (by omega) (by decide) (by decide) (fun i i0 => moA_ab PP.bu PP.bu PP.bv i0)
        have A1 := Z.2
        have A2 := bA.2
        have mk : (0 ≤ kind ∧ kind ≤ 4) ∧ (0 ≤ part ∧ part ≤ 99) ∧ (kind ≠ 4 → part = 0) := by unfold mb at m; omega
        obtain ⟨px, qx, Mx⟩ := mid_ex (x := smA (moA (rwX ρ n) (rwX ρ n) (rwY ρ n)) n.toNat) (l := 3 * smA (tuA (rwX ρ n) (rwY ρ n)) n.toNat) (by omega) (by omega)
        obtain ⟨py, qy, My⟩ := mid_ex (x := smA (moA (rwY ρ n) (rwX ρ n) (rwY ρ n)) n.toNat) (l := 3 * smA (tuA (rwX ρ n) (rwY ρ n)) n.toNat) (by omega) (by omega)
        refine ⟨k2, sp_X7_init (by omega) k2 P2 E2 (fun b hb => by have := B b hb; omega) mk.1.1 mk.1.2 mk.2.1.1 mk.2.1.2 rfl (by omega) rfl rfl Mx My (fun ε3 E3 kk ll fs => ?_)⟩
        apply g_X10_stone_129
        have SX3 := S.ex E3
        refine fun _ _ => ⟨SX3.1.f1.2.1, by omega, by rw [SX3.1.f1.2.2]; omega, Or.inr (by rw [kk]; exact k2), fun μ3 m3 => ⟨SX3.1.k, fun μ4 m4 => ?_⟩⟩
        have q3 : μ3 X 10 = c := by rw [m3, sx_oa (by omega), m2, mnew, if_neg (by omega)]; exact x10
        rw [q3, w32_id (show i32 (c + 1) by unfold i32; omega)] at m4
        have q4 : μ4 X 10 = c + 1 := by rw [m4, sx_same]
        rw [q4, show c + 1 - 1 = c by omega, w32_id (show i32 c by unfold i32; omega)]
        have gC : ∀ b j, b < A → ¬ (b = X ∧ j = 10) → ¬ (b = X + 2 ∧ j = c) → μ4 b j = μ b j := fun b j h h1 h2 => by rw [m4, st, if_neg h1, m3, st, if_neg h2, m2, mnew, if_neg (by omega), g1 b j (by omega)]
        have x2 : μ4 (X + 2) c = A + 1 := by rw [m4, sx_oa (by omega), m3, sx_same]
        have cA : ∀ i, 0 ≤ i → i < 2 * n → μ4 A i = ρ i := fun i i0 i1 => by rw [m4, sx_oa (by omega), m3, sx_oa (by omega)]; exact ρ2 i i0 i1
        clear m2 m3 m4 ρ2 q3 e2
        refine hq c _ _ ⟨E3, fun b j h => gC _ _ (by omega) (by omega) (by omega), fun μ5 f5 Q Y K2 => ?_⟩
        have g5 : ∀ b j, X + 34 ≤ b → b < X + 141 → μ5 b j = μ b j := fun b j h h' => by rw [f5 b j (by omega), gC b j (by omega) (by omega) (by omega)]
        refine stone_mod (G'.1.ex E3) r0 (by rw [g5 _ _ (by omega) (by omega)]; exact rc) (by rw [g5 _ _ (by omega) (by omega)]; exact ra) k0 k1 m (by rw [g5 _ _ (by omega) (by omega)]; exact hN) (by omega) (by omega) (fun i i0 i1 => by rw [g5 _ _ (by omega) (by omega)]; exact ρm i i0 i1) (c := c) (by rw [g5 _ _ (by omega) (by omega)]; omega) (by omega) (by omega) rfl rfl rfl (fun _ _ => ⟨Mx, My⟩) (fun i i0 i1 q => absurd q (nf' i i0 i1)) (fun _ q => absurd Z q) (fun _ _ q' => by omega) (fun _ _ _ μ6 f6 z6 w14 ms mw mc => ?_)
        have ns : ∀ b j, b < X + 34 + 4 ∨ X + 34 + 12 < b → ¬ stc X c b j := fun b j h z => by unfold stc at z; omega
        have o6 : ∀ b j, b < X + 34 ∨ X + 34 + 12 < b → μ6 b j = μ5 b j := fun b j h => f6 _ _ (by omega) (ns _ _ (by omega))
        exact K2 _ _ (fun c j h => o6 _ _ (by omega)) (stone_yes S G' J P C A0 B hX E3 hc q (fun b j h1 h2 h3 h4 h5 h6 => by rw [f6 b j h3 h4, f5 b j h2, gC b j h1 h5 h6]) (by rw [o6 _ _ (by omega), f5 _ _ (by omega)]; exact q4) w14 (by rw [o6 _ _ (by omega), f5 _ _ (by omega)]; exact x2) (by rw [kk]; exact ka2) (by rw [ll]; exact la2) (by rw [kk]; exact k2) (by omega) (by omega) fs ms mw mc (fun i i0 i1 => by rw [o6 _ _ (by omega), f5 _ _ (by omega)]; exact cA i i0 i1) nf' mk.1.1 mk.1.2 (spot_ab mk.2.1.1 mk.2.1.2 (by omega) A2 bx)) z6 (fun _ => rfl) (fun j => o6 _ _ (by omega))
      · apply g_X10_stone_91
        exact fun _ _ _ _ => ⟨fun z => absurd rfl z, fun _ => no _ (Or.inr ⟨nf', Or.inl ⟨Z, rfl⟩⟩)⟩
    · apply g_X10_stone_80
      exact fun _ _ _ _ => ⟨fun z => absurd rfl z, fun _ => no _ (Or.inl ⟨⟨i, i0, i1, by rw [← ρc i i0 i1]; exact fr⟩, rfl⟩)⟩
  · apply g_X10_stone_14
    refine fun _ _ _ _ _ => ⟨fun z => absurd rfl z, fun _ z hz => hx 2 _ _ (by rw [c2]; decide) ?_⟩
    rw [c2]
    refine aft_thr H' (by decide) EX.nx (fun μ2 Q Y f2 G2 K => ?_)
    have f4 : μ2 (X + 34) 4 = μ (X + 34) 4 := f2 _ _ (by omega)
    apply e_X12_stone
    refine fun _ _ _ _ _ => ⟨G2.1.k, sp_X12_isRow G2.1 (fun _ _ _ _ => ?_) (fun z => by omega)⟩
    apply g_X12_stone_6
    refine fun _ _ _ _ _ _ => ⟨fun _ t ht => ⟨G2.1.k, fun μ3 m3 => ⟨G2.1.k, ?_⟩⟩, fun z => absurd z (by decide)⟩
    have et : t = 2 := by
      rcases mb_t ht with z | z
      · exact absurd z.1 m
      · exact z.2
    rw [et, st_st] at m3
    rw [m3, sx_same]
    exact ⟨fun z => absurd z (by decide), fun _ => K⟩
