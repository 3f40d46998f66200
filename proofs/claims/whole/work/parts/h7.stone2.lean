set_option maxHeartbeats 1000000
/-! ===== the reference's stone as a whole ===== -/
theorem stone_mod {Q Y : m_Po} {ε : m_E} {μ : m_M} {X r k kind part n c Ar x y px qx py qy : Int} {ρ : Int → Int} (L : LM ε (X + 34)) (r0 : 0 ≤ r) (r1 : r < μ (X + 34) 4) (r8 : μ (X + 34) 4 ≤ 8) (k0 : 0 ≤ k) (k1 : k < 40) (m : mb kind part) (hN : μ (X + 34 + 2) (40 * r + k) = 2 * n) (n3 : 3 ≤ n) (n12 : n ≤ 12) (hρ : ∀ i, 0 ≤ i → i < 2 * n → μ (X + 34 + 3) (40 * (40 * r + k) + i) = ρ i) (hc : μ (X + 34) 14 = c) (c0 : 0 ≤ c) (c1 : c ≤ 120)
    (hA : smA (tuA (rwX ρ n) (rwY ρ n)) n.toNat = Ar) (hx : smA (moA (rwX ρ n) (rwX ρ n) (rwY ρ n)) n.toNat = x) (hy : smA (moA (rwY ρ n) (rwX ρ n) (rwY ρ n)) n.toNat = y)
    (hM : (∀ i, 0 ≤ i → i < 2 * n → ¬ far1 (ρ i)) → Sou (rwX ρ n) (rwY ρ n) n → Mid x (3 * Ar) px qx ∧ Mid y (3 * Ar) py qy)
    (h3 : ∀ i, 0 ≤ i → i < 2 * n → far1 (ρ i) → Q (-3) ε (st μ (X + 34) 0 0))
    (h4 : (∀ i, 0 ≤ i → i < 2 * n → ¬ far1 (ρ i)) → ¬ Sou (rwX ρ n) (rwY ρ n) n → ∀ μ' : m_M, (∀ b j, ¬ (b = X + 34 ∧ j = 0) → ¬ stc X c b j → b ≠ X + 34 + 13 → b ≠ X + 34 + 14 → μ' b j = μ b j) → μ' (X + 34) 0 = 0 → Q (-4) ε μ')
    (h5 : (∀ i, 0 ≤ i → i < 2 * n → ¬ far1 (ρ i)) → Sou (rwX ρ n) (rwY ρ n) n → c = 120 → ∀ μ' : m_M, (∀ b j, ¬ (b = X + 34 ∧ j = 0) → ¬ stc X c b j → b ≠ X + 34 + 13 → b ≠ X + 34 + 14 → μ' b j = μ b j) → μ' (X + 34) 0 = 0 → Q (-5) ε μ')
    (h6 : (∀ i, 0 ≤ i → i < 2 * n → ¬ far1 (ρ i)) → Sou (rwX ρ n) (rwY ρ n) n → c < 120 → ∀ μ' : m_M, (∀ b j, ¬ (b = X + 34 ∧ (j = 0 ∨ j = 14)) → ¬ stc X c b j → μ' b j = μ b j) → μ' (X + 34) 0 = 0 → μ' (X + 34) 14 = c + 1 → (μ' (X + 34 + 4) c = kind ∧ μ' (X + 34 + 5) c = n ∧ μ' (X + 34 + 8) c = Ar) → (μ' (X + 34 + 11) (2 * c) = px ∧ μ' (X + 34 + 12) (2 * c) = qx ∧ μ' (X + 34 + 11) (2 * c + 1) = py ∧ μ' (X + 34 + 12) (2 * c + 1) = qy ∧ μ' (X + 34 + 10) c = Int.tdiv (10 * x) (3 * Ar) ∧ μ' (X + 34 + 9) c = wtw kind part Ar) → (∀ i, 0 ≤ i → i < n → μ' (X + 34 + 6) (12 * c + i) = ρ (2 * i) ∧ μ' (X + 34 + 7) (12 * c + i) = ρ (2 * i + 1)) → Q c ε μ') : o_X12_stone [(2, X + 34), (0, kind), (0, r), (0, k), (0, part)] ε μ Q Y := by
  have mk : (0 ≤ kind ∧ kind ≤ 4) ∧ (0 ≤ part ∧ part ≤ 99) ∧ (kind ≠ 4 → part = 0) := by unfold mb at m; omega
  refine stone_lead L r0 r1 r8 k0 k1 m hN (fun z => by omega) (fun z z' => by omega) (fun _ _ _ => ?_)
  generalize hμ : st μ (X + 34) 0 0 = μa at *
  have fa : ∀ b j, ¬ (b = X + 34 ∧ j = 0) → μa b j = μ b j := fun b j h => by rw [← hμ, st, if_neg h]
  have za : μa (X + 34) 0 = 0 := by rw [← hμ, sx_same]
  have ρa : ∀ i, 0 ≤ i → i < 2 * n → μa (X + 34 + 3) (40 * (40 * r + k) + i) = ρ i := fun i i0 i1 => by rw [fa _ _ (by omega)]; exact hρ i i0 i1
  clear hμ
  refine stone_113 L (by omega) (by omega) n3 n12 (by rw [fa _ _ (by omega)]; exact hc) c0 c1 (fun i i0 i1 q => h3 i i0 i1 (by rw [← ρa i i0 i1]; exact q)) (fun nf => ?_)
  have nf' : ∀ i, 0 ≤ i → i < 2 * n → ¬ far1 (ρ i) := fun i i0 i1 => by rw [← ρa i i0 i1]; exact nf i i0 i1
  clear nf
  refine ⟨fun q => ?_, fun q => ?_⟩
  · refine stone_227 L c0 (by omega) n3 n12 (by omega) (by omega) (fun μ1 g1 z1 => ?_)
    have z1' : ∀ i, 0 ≤ i → i < n → μ1 (X + 34 + 6) (12 * c + i) = ρ (2 * i) ∧ μ1 (X + 34 + 7) (12 * c + i) = ρ (2 * i + 1) := fun i i0 i1 => by
      have := z1 i i0 i1
      rw [sx_oa (by omega), sx_oa (by omega), ρa _ (by omega) (by omega), ρa _ (by omega) (by omega)] at this
      exact this
    have s5 : μ1 (X + 34 + 5) c = n := by rw [g1 _ _ (by omega), sx_same]
    have g2 : ∀ b j, ¬ (b = X + 34 ∧ j = 0) → ¬ stc X c b j → μ1 b j = μ b j := fun b j h h' => by
      rw [g1 b j (fun z => h' (Or.inr (Or.inl z))), st, if_neg (fun z => h' (Or.inl ⟨Or.inr (Or.inl z.1), z.2⟩))]; exact fa b j h
    have m0 : μ1 (X + 34) 0 = 0 := by rw [g1 _ _ (by omega), sx_oa (by omega)]; exact za
    have m14 : μ1 (X + 34) 14 = c := by rw [g1 _ _ (by omega), sx_oa (by omega), fa _ _ (by omega)]; exact hc
    clear z1 g1 fa za ρa hρ
    have PP : PM ε μ1 (X + 34) c n (rwX ρ n) (rwY ρ n) := PM.of L c0 (by omega) n3 n12 s5 nf' z1'
    refine sp_X12_isShape PP (fun Z => ?_) (fun Z μ2 f2 => ?_)
    · have bA : ab Ar 240000 := by rw [← hA]; exact smA_12 (by omega) (by decide) (by decide) (fun i i0 => tuA_ab PP.bu PP.bv i0)
      have A2 := bA.2
      have A1 : 1 ≤ Ar := by have := Z.2; rw [hA] at this; omega
      obtain ⟨Mx, My⟩ := hM nf' Z
      rw [hA]
      apply g_X12_stone_306
      rw [L.f5.1, L.f5.2.2]
      refine fun _ _ _ _ _ => ⟨fun _ => ⟨L.k, L.f5.2.1, c0, by omega, fun μ3 m3 => ?_⟩, fun z => absurd z (by decide)⟩
      have f3 : ∀ b j, ¬ (b = X + 34 + 4 ∧ j = c) → ¬ (b = X + 34 + 8 ∧ j = c) → μ3 b j = μ1 b j := fun b j h h' => by rw [m3, st, if_neg h, st, if_neg h']
      have k3 : μ3 (X + 34 + 4) c = kind := by rw [m3, sx_same]
      have a3 : μ3 (X + 34 + 8) c = Ar := by rw [m3, sx_oa (by omega), sx_same]
      clear m3
      have P3 : PM ε μ3 (X + 34) c n (rwX ρ n) (rwY ρ n) := PM.of L c0 (by omega) n3 n12 (by rw [f3 _ _ (by omega) (by omega)]; exact s5) nf' (fun i i0 i1 => by rw [f3 _ _ (by omega) (by omega), f3 _ _ (by omega) (by omega)]; exact z1' i i0 i1)
      refine sp_X12_weighs P3 a3 k3 mk.1.1 mk.1.2 mk.2.1.1 mk.2.1.2 mk.2.2 A1 A2 hx hy Mx My (fun μ4 f4 w4 => ?_)
      have nw : ∀ b j, b < X + 34 + 9 → ¬ wcl (X + 34) c b j := fun b j h z => by unfold wcl at z; omega
      apply g_X12_stone_328
      have m4 : μ4 (X + 34) 14 = c := by rw [f4 _ _ (nw _ _ (by omega)), f3 _ _ (by omega) (by omega)]; exact m14
      rw [m4, w32_id (show i32 (c + 1) by unfold i32; omega)]
      refine fun _ _ => ⟨L.k, fun μ5 m5 => ?_⟩
      have o5 : ∀ b j, b ≠ X + 34 → μ5 b j = μ4 b j := fun b j h => by rw [m5, sx_oa h]
      refine h6 nf' Z (by omega) μ5 (fun b j h h' => ?_) ?_ (by rw [m5, sx_same]) ⟨?_, ?_, ?_⟩ ?_ (fun i i0 i1 => ?_)
      · have h1 : ¬ wcl (X + 34) c b j := fun z => h' (by
          rcases z with ⟨z | z, z'⟩ | ⟨z | z, z'⟩
          · exact Or.inr (Or.inr ⟨Or.inl z, by omega⟩)
          · exact Or.inr (Or.inr ⟨Or.inr z, by omega⟩)
          · exact Or.inl ⟨Or.inr (Or.inr (Or.inr (Or.inr z))), z'⟩
          · exact Or.inl ⟨Or.inr (Or.inr (Or.inr (Or.inl z))), z'⟩)
        rw [m5, st, if_neg (fun z => h ⟨z.1, Or.inr z.2⟩), f4 b j h1, f3 b j (fun z => h' (Or.inl ⟨Or.inl z.1, z.2⟩)) (fun z => h' (Or.inl ⟨Or.inr (Or.inr (Or.inl z.1)), z.2⟩))]
        exact g2 b j (fun z => h ⟨z.1, Or.inl z.2⟩) h'
      · rw [m5, sx_oi (by decide), f4 _ _ (nw _ _ (by omega)), f3 _ _ (by omega) (by omega)]; exact m0
      · rw [o5 _ _ (by omega), f4 _ _ (nw _ _ (by omega))]; exact k3
      · rw [o5 _ _ (by omega), f4 _ _ (nw _ _ (by omega)), f3 _ _ (by omega) (by omega)]; exact s5
      · rw [o5 _ _ (by omega), f4 _ _ (nw _ _ (by omega))]; exact a3
      · rw [o5 _ _ (by omega), o5 _ _ (by omega), o5 _ _ (by omega), o5 _ _ (by omega), o5 _ _ (by omega), o5 _ _ (by omega)]; exact w4
      · rw [o5 _ _ (by omega), o5 _ _ (by omega), f4 _ _ (nw _ _ (by omega)), f4 _ _ (nw _ _ (by omega)), f3 _ _ (by omega) (by omega), f3 _ _ (by omega) (by omega)]; exact z1' i i0 i1
    · apply g_X12_stone_306
      refine fun _ _ _ _ _ => ⟨fun z => absurd rfl z, fun _ => h4 nf' Z μ2 (fun b j h h' _ _ => ?_) ?_⟩
      · rw [f2 b j (fun z => h' (Or.inl ⟨Or.inr (Or.inr (Or.inl z.1)), z.2⟩))]; exact g2 b j h h'
      · rw [f2 _ _ (by omega)]; exact m0
  · refine sp_X12_isShapeOf L n3 n12 (by omega) (by omega) nf' ρa (fun Z μ1 f1 => ?_) (fun Z μ1 f1 => ?_)
    · apply g_X12_stone_202
      intro _ _ t ht
      rw [if_neg (by decide)] at ht
      rw [ht]
      exact h5 nf' Z q μ1 (fun b j h _ h1 h2 => by rw [f1 b j h1 h2]; exact fa b j h) (by rw [f1 _ _ (by omega) (by omega)]; exact za)
    · apply g_X12_stone_202
      intro _ _ t ht
      rw [if_pos rfl] at ht
      rw [ht]
      exact h4 nf' Z μ1 (fun b j h _ h1 h2 => by rw [f1 b j h1 h2]; exact fa b j h) (by rw [f1 _ _ (by omega) (by omega)]; exact za)
theorem stone_yes {ε ε' : m_E} {μ μ3 : m_M} {X A n c kind part Ar x px qx py qy : Int} {ow R ρ : Int → Int} (S : SL ε X) (G' : RG ε μ (X + 34) R) (J : JV μ (X + 20) (X + 34) R) (P : PG μ (X + 29) (X + 34)) (C : Core ε μ X ow (sgM μ (X + 34))) (A0 : 0 < A) (B : ∀ b, 0 ≤ kd ε b → b < A) (hA : X + 141 < A) (E : EX ε ε') (hc : sgM μ (X + 34) 0 14 = c) (c120 : c < 120)
    (f : ∀ b j, b < A → b ≠ X + 141 → ¬ (b = X + 34 ∧ (j = 0 ∨ j = 14)) → ¬ stc X c b j → ¬ (b = X ∧ j = 10) → ¬ (b = X + 2 ∧ j = c) → μ3 b j = μ b j) (x10 : μ3 X 10 = c + 1) (m14 : μ3 (X + 34) 14 = c + 1) (x2 : μ3 (X + 2) c = A + 1) (kA : kd ε' A = 100) (lA : ln ε' A = 2 * n) (kS : kd ε' (A + 1) = 6) (n3 : 3 ≤ n) (n12 : n ≤ 12) (fs : fn ε' (A + 1) 0 = kind ∧ fn ε' (A + 1) 1 = A ∧ fn ε' (A + 1) 2 = Ar ∧ fn ε' (A + 1) 3 = wtw kind part Ar ∧ fn ε' (A + 1) 4 = Int.tdiv (10 * x) (3 * Ar) ∧ fn ε' (A + 1) 5 = px ∧ fn ε' (A + 1) 6 = qx ∧ fn ε' (A + 1) 7 = py ∧ fn ε' (A + 1) 8 = qy)
    (ms : μ3 (X + 34 + 4) c = kind ∧ μ3 (X + 34 + 5) c = n ∧ μ3 (X + 34 + 8) c = Ar) (mw : μ3 (X + 34 + 11) (2 * c) = px ∧ μ3 (X + 34 + 12) (2 * c) = qx ∧ μ3 (X + 34 + 11) (2 * c + 1) = py ∧ μ3 (X + 34 + 12) (2 * c + 1) = qy ∧ μ3 (X + 34 + 10) c = Int.tdiv (10 * x) (3 * Ar) ∧ μ3 (X + 34 + 9) c = wtw kind part Ar) (mc : ∀ i, 0 ≤ i → i < n → μ3 (X + 34 + 6) (12 * c + i) = ρ (2 * i) ∧ μ3 (X + 34 + 7) (12 * c + i) = ρ (2 * i + 1)) (cc : ∀ i, 0 ≤ i → i < 2 * n → μ3 A i = ρ i) (nf : ∀ i, 0 ≤ i → i < 2 * n → ¬ far1 (ρ i)) (k0 : 0 ≤ kind) (k4 : kind ≤ 4) (sp : (0 ≤ wtw kind part Ar ∧ wtw kind part Ar ≤ 660000) ∧ ab (wtw kind part Ar * Int.tdiv (10 * x) (3 * Ar)) 440000000) : Rel ε' μ3 X := by
  have ns : ∀ b j, b < X + 34 + 4 ∨ X + 34 + 12 < b → ¬ stc X c b j := fun b j h z => by unfold stc at z; omega
  have c0 := C.2.2.1.2.1
  rw [hc] at c0
  refine Rel.mk' (ow := fun b => if b = A then 3 * c + 1 else ow b) S G' J P E (fun b j h => ?_) (C.newstone B hA E hc (m := c + 1) (by omega) (by omega) (fun b j h0 h1 h2 h3 h4 h5 => ?_) x10 m14 (by omega) (fun _ => ?_))
  · unfold kpt at h
    exact f _ _ (by omega) (by omega) (by omega) (ns _ _ (by omega)) (by omega) (by omega)
  · exact f b j h0 (fun z => h1 (Or.inr (Or.inl z))) (fun z => z.2.elim (fun y => h1 (Or.inr (Or.inr (Or.inr (Or.inr (Or.inr (Or.inr ⟨z.1, Or.inl y⟩))))))) (fun y => h4 ⟨z.1, y⟩)) h5 h2 h3
  · rw [x2, fs.2.1]
    refine ⟨by omega, ?_, ?_⟩
    · refine ⟨kS, ?_⟩
      obtain ⟨a0, a1, a2, a3, a4, a5, a6, a7, a8⟩ := fs
      rw [a0, a2, a3, a4, a5, a6, a7, a8]
      have e4 : sgM μ3 (X + 34) 4 c = kind := ms.1
      have e8 : sgM μ3 (X + 34) 8 c = Ar := ms.2.2
      have e9 : sgM μ3 (X + 34) 9 c = wtw kind part Ar := mw.2.2.2.2.2
      have e10 : sgM μ3 (X + 34) 10 c = Int.tdiv (10 * x) (3 * Ar) := mw.2.2.2.2.1
      have e11 : sgM μ3 (X + 34) 11 (2 * c) = px := mw.1
      have e12 : sgM μ3 (X + 34) 12 (2 * c) = qx := mw.2.1
      have e11' : sgM μ3 (X + 34) 11 (2 * c + 1) = py := mw.2.2.1
      have e12' : sgM μ3 (X + 34) 12 (2 * c + 1) = qy := mw.2.2.2.1
      rw [e4, e8, e9, e10, e11, e12, e11', e12']
      exact ⟨rfl, rfl, rfl, rfl, rfl, rfl, rfl, rfl, k0, k4, sp.1.1, sp.1.2, sp.2⟩
    · have e5 : sgM μ3 (X + 34) 5 c = n := ms.2.1
      refine ⟨kA, by rw [e5]; exact lA, by omega, by omega, hA, if_pos rfl, fun i i0 i1 => ?_⟩
      rw [e5] at i1
      have e6 : sgM μ3 (X + 34) 6 (12 * c + i) = ρ (2 * i) := (mc i i0 i1).1
      have e7 : sgM μ3 (X + 34) 7 (12 * c + i) = ρ (2 * i + 1) := (mc i i0 i1).2
      have n1 := nf (2 * i) (by omega) (by omega)
      have n2 := nf (2 * i + 1) (by omega) (by omega)
      unfold far1 at n1 n2
      rw [e6, e7, cc _ (by omega) (by omega), cc _ (by omega) (by omega)]
      unfold ab
      exact ⟨rfl, rfl, by omega, by omega⟩
