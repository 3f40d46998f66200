set_option maxHeartbeats 1000000
/-! ===== the class's order is found ===== -/
theorem sp_X0_addToOrder {Q Y : m_Po} {ε : m_E} {μ : m_M} {P n t v : Int} (L : LA ε P n) (e18 : μ P 18 = t) (t0 : 0 ≤ t) (tn : t < n) (hh : ∀ μ' : m_M, (∀ b j, b ≠ P + 10 → ¬ (b = P ∧ j = 18) → μ' b j = μ b j) → (∀ x, x ≠ t → μ' (P + 10) x = μ (P + 10) x) → μ' (P + 10) t = v → μ' P 18 = t + 1 → Q 0 ε μ') : o_X0_addToOrder [(2, P), (0, v)] ε μ Q Y := by
  have n10 := L.2.2.2
  apply e_X0_addToOrder
  rw [L.f10.1, L.f10.2.2, e18]
  refine fun _ _ => ⟨L.k, L.f10.2.1, fun z => absurd z (by omega), fun _ => ⟨t0, tn, fun μ1 m1 μ2 m2 => ?_⟩⟩
  have e1 : μ1 P 18 = t := by rw [m1, sx_oa (by omega)]; exact e18
  rw [e1, w32_id (show i32 (t + 1) by unfold i32; omega)] at m2
  refine hh μ2 (fun b j h1 h2 => ?_) (fun x hx => ?_) ?_ ?_
  · rw [m2, st, if_neg h2, m1, sx_oa h1]
  · rw [m2, sx_oa (by omega), m1, sx_oi hx]
  · rw [m2, sx_oa (by omega), m1, sx_same]
  · rw [m2, sx_same]
def FWk (P : Int) (μ μ' : m_M) : Prop := ∀ b j, b ≠ P + 10 → ¬ (b = P ∧ j = 18) → μ' b j = μ b j
theorem wo_19 {Q Y : m_Po} {ε : m_E} {μ σ : m_M} {X P a n f : Int} (S : SL ε X) (L : LA ε P n) (hX : X + 141 < P) (hn : σ 15 a = n) (hh : ∀ (μ' : m_M) (I J : Int → Int), FWk P μ μ' → μ' P 18 = n → I 0 = f → J 0 = f → μ' (P + 10) 0 = f → ODw σ a (μ' (P + 10)) I J n → Q 0 ε μ') : ∀ (d : Nat) (t i j : Int) (μ1 : m_M) (I J : Int → Int), t + d = n → 1 ≤ t → 0 ≤ i → j < n → j - i = t - 1 → Grw σ a i j → FWk P μ μ1 → TB μ1 σ X a 0 0 → μ1 P 18 = t → I 0 = f → J 0 = f → μ1 (P + 10) 0 = f → I (t - 1) = i → J (t - 1) = j → ODw σ a (μ1 (P + 10)) I J t → G cd_X10_walkOrder Q Y 19 [(0, (2, X)), (1, (2, P)), (3, (0, n)), (4, (0, i)), (5, (0, j)), (6, (0, t))] [] ε μ1 := by
  intro d
  have n10 : n ≤ 10 := L.2.2.2
  induction d with
  | zero =>
    intro t i j μ1 I J ht t1 i0 jn ji g fo B e18 hI hJ hs _ _ w
    apply g_X10_walkOrder_19
    refine fun _ _ _ _ _ => ⟨fun _ => hh μ1 I J fo (by omega) hI hJ hs (by rw [show n = t by omega]; exact w), fun z => absurd z (by omega)⟩
  | succ d ih =>
    intro t i j μ1 I J ht t1 i0 jn ji g fo B e18 hI hJ hs hIt hJt w
    have stp := (Grw.step i0 (show i ≤ j by omega) (show j < σ 15 a by omega)).mp g
    have go : ∀ (i' j' s : Int) (μ4 : m_M), (∀ b j, b ≠ P + 10 → ¬ (b = P ∧ j = 18) → μ4 b j = μ1 b j) → (∀ x, x ≠ t → μ4 (P + 10) x = μ1 (P + 10) x) → μ4 (P + 10) t = s → μ4 P 18 = t + 1 → (0 ≤ i' ∧ j' < n ∧ j' - i' = t ∧ Grw σ a i' j' ∧ (((0 < i ∧ Grw σ a (i - 1) j) ∧ i' = i - 1 ∧ j' = j ∧ s = i') ∨ (¬ (0 < i ∧ Grw σ a (i - 1) j) ∧ i' = i ∧ j' = j + 1 ∧ s = j'))) → G cd_X10_walkOrder Q Y 60 [(0, (2, X)), (1, (2, P)), (3, (0, n)), (4, (0, i')), (5, (0, j')), (6, (0, t))] [] ε μ4 := fun i' j' s μ4 f4 sq st4 q18 key => by
      obtain ⟨r1, r2, r3, r4, r5⟩ := key
      apply g_X10_walkOrder_60
      rw [w32_id (show i32 (t + 1) by unfold i32; omega)]
      refine fun _ _ _ _ _ v6 e6 => ?_
      rw [e6]
      refine ih (t + 1) i' j' μ4 (fun x => if x = t then i' else I x) (fun x => if x = t then j' else J x) (by omega) (by omega) r1 r2 (by omega) r4 (fun b j h1 h2 => (f4 b j h1 h2).trans (fo b j h1 h2)) (B.of (fun j => f4 _ _ (by omega) (by omega))) q18 (by show (if (0 : Int) = t then i' else I 0) = f; rw [if_neg (by omega)]; exact hI) (by show (if (0 : Int) = t then j' else J 0) = f; rw [if_neg (by omega)]; exact hJ) (by rw [sq 0 (by omega)]; exact hs) (by show (if t + 1 - 1 = t then i' else I (t + 1 - 1)) = i'; rw [if_pos (by omega)]) (by show (if t + 1 - 1 = t then j' else J (t + 1 - 1)) = j'; rw [if_pos (by omega)]) (fun x x1 xn => ?_)
      show ((0 < (if x - 1 = t then i' else I (x - 1)) ∧ Grw σ a ((if x - 1 = t then i' else I (x - 1)) - 1) (if x - 1 = t then j' else J (x - 1))) ∧ (if x = t then i' else I x) = (if x - 1 = t then i' else I (x - 1)) - 1 ∧ (if x = t then j' else J x) = (if x - 1 = t then j' else J (x - 1)) ∧ μ4 (P + 10) x = (if x = t then i' else I x)) ∨ (¬ (0 < (if x - 1 = t then i' else I (x - 1)) ∧ Grw σ a ((if x - 1 = t then i' else I (x - 1)) - 1) (if x - 1 = t then j' else J (x - 1))) ∧ (if x = t then i' else I x) = (if x - 1 = t then i' else I (x - 1)) ∧ (if x = t then j' else J x) = (if x - 1 = t then j' else J (x - 1)) + 1 ∧ μ4 (P + 10) x = (if x = t then j' else J x))
      rw [if_neg (show ¬ x - 1 = t by omega), if_neg (show ¬ x - 1 = t by omega)]
      by_cases y : x = t
      · rw [if_pos y, if_pos y, y, hIt, hJt, st4]
        exact r5
      · rw [if_neg y, if_neg y, sq x y]
        exact w x x1 (by omega)
    apply g_X10_walkOrder_19
    rw [w32_id (show i32 (i - 1) by unfold i32; omega)]
    refine fun _ _ _ _ _ => ⟨fun z => absurd z (by omega), fun _ => ⟨S.1.k, cg_tb S hn n10 B (fun _ _ _ => by omega) (fun a1 _ _ g' => ?_) (fun c => ?_)⟩⟩
    · apply g_X10_walkOrder_36
      rw [w32_id (show i32 (i + (-1)) by unfold i32; omega)]
      refine fun _ _ _ _ _ _ => ⟨fun y => absurd y (by decide), fun _ v4 e4 => ⟨L.k, sp_X0_addToOrder L e18 (by omega) (by omega) (fun μ4 f4 sq st4 q18 => ?_)⟩⟩
      apply g_X10_walkOrder_48
      refine fun _ _ _ _ _ => ?_
      have x1 : v4 = i - 1 := by omega
      rw [x1] at st4 ⊢
      exact go (i - 1) j (i - 1) μ4 f4 sq st4 q18 ⟨by omega, by omega, by omega, g', Or.inl ⟨⟨by omega, g'⟩, rfl, rfl, rfl⟩⟩
    · have c' : ¬ (0 < i ∧ Grw σ a (i - 1) j) := fun y => c ⟨by omega, by omega, by omega, y.2⟩
      have y : j < σ 15 a - 1 ∧ Grw σ a i (j + 1) := by
        rcases stp.2 with z | z | z
        · omega
        · exact absurd z c'
        · exact z
      apply g_X10_walkOrder_36
      rw [w32_id (show i32 (j + 1) by unfold i32; omega)]
      refine fun _ _ _ _ _ _ => ⟨fun _ v5 e5 => ⟨L.k, sp_X0_addToOrder L e18 (by omega) (by omega) (fun μ4 f4 sq st4 q18 => ?_)⟩, fun y => absurd rfl y⟩
      rw [e5] at st4 ⊢
      exact go i (j + 1) (j + 1) μ4 f4 sq st4 q18 ⟨i0, by omega, by omega, y.2, Or.inr ⟨c', rfl, rfl, rfl⟩⟩
theorem sp_X10_walkOrder {Q Y : m_Po} {ε : m_E} {μ σ : m_M} {X P a n f : Int} (S : SL ε X) (L : LA ε P n) (hX : X + 141 < P) (hn : σ 15 a = n) (B : TB μ σ X a 0 0) (f0 : 0 ≤ f) (fn' : f < n) (g : Grw σ a f f) (e18 : μ P 18 = 0) (hh : ∀ (μ' : m_M) (I J : Int → Int), FWk P μ μ' → μ' P 18 = n → I 0 = f → J 0 = f → μ' (P + 10) 0 = f → ODw σ a (μ' (P + 10)) I J n → Q 0 ε μ') : o_X10_walkOrder [(2, X), (2, P), (0, f)] ε μ Q Y := by
  apply e_X10_walkOrder
  rw [L.2.1]
  refine fun _ _ => ⟨L.k, fun v3 e3 v4 e4 v5 e5 => ⟨L.k, sp_X0_addToOrder L e18 (by decide) (by omega) (fun μ1 f1 sq st1 q18 => ?_)⟩⟩
  apply g_X10_walkOrder_16
  refine fun _ _ _ _ v6 e6 => ?_
  rw [e3, e4, e5, e6]
  refine wo_19 S L hX hn hh (n - 1).toNat 1 f f μ1 (fun _ => f) (fun _ => f) (by omega) (by decide) f0 fn' (by omega) g f1 (B.of (fun j => f1 _ _ (by omega) (by omega))) q18 rfl rfl st1 rfl rfl (fun x x1 xn => by omega)
def FDo (X P : Int) (μ μ' : m_M) : Prop := ∀ b j, (b < X + 4 ∨ X + 14 < b) → b ≠ X + 33 → b ≠ P + 10 → ¬ (b = P ∧ (j = 17 ∨ j = 18)) → μ' b j = μ b j
theorem sp_X10_findOrder {Q Y : m_Po} {ε : m_E} {μ σ : m_M} {X a P : Int} (S : SL ε X) (W : WH ε μ σ X a P) (L : LA ε P (σ 15 a)) (hh : ∀ μ' : m_M, FDo X P μ μ' → μ' P 17 = 1 → OD σ a (μ' P 18) (μ' (P + 10)) → Q 0 ε μ') : o_X10_findOrder [(2, X), (2, P)] ε μ Q Y := by
  have n10 := L.2.2.2
  have n1 := L.2.2.1
  have hX : X + 141 < P := W.2.2.2.2.2.2.2.2.1
  generalize hn : σ 15 a = n at *
  have z145 : ∀ (f : Int) (μ1 : m_M), 0 ≤ f → f ≤ n → FDo X P μ μ1 → TB μ1 σ X a 0 0 → μ1 P 17 = 1 → μ1 P 18 = 0 → (∀ g, 0 ≤ g → g < f → ¬ Grw σ a g g) → (f < n → Grw σ a f f) → G cd_X10_findOrder Q Y 145 [(0, (2, X)), (1, (2, P)), (2, (0, n)), (3, (0, f))] [] ε μ1 := fun f μ1 f0 fn' fd B e17 e18 no yes => by
    apply g_X10_findOrder_145
    refine fun _ _ _ => ⟨fun z => ?_, fun z => ⟨S.1.k, sp_X10_walkOrder S L hX hn B f0 z (yes z) e18 (fun μ2 I J f2 r18 hI hJ hs w => ?_)⟩⟩
    · apply g_X10_findOrder_156
      exact fun _ => hh μ1 fd e17 (Or.inl ⟨e18, fun g g0 g1 => no g g0 (by omega)⟩)
    · apply g_X10_findOrder_156
      refine fun _ => hh μ2 (fun b j h1 h2 h3 h4 => (f2 b j h3 (fun y => h4 ⟨y.1, Or.inr y.2⟩)).trans (fd b j h1 h2 h3 h4)) ((f2 _ _ (by omega) (by omega)).trans e17) ?_
      rw [r18]
      exact Or.inr ⟨hn.symm, f, I, J, f0, by omega, yes z, no, hI, hJ, hs, by rw [hn]; exact w⟩
  have z124 : ∀ (d : Nat) (f : Int) (μ1 : m_M), 0 ≤ f → f + d = n → FDo X P μ μ1 → TB μ1 σ X a 0 0 → μ1 P 17 = 1 → μ1 P 18 = 0 → (∀ g, 0 ≤ g → g < f → ¬ Grw σ a g g) → G cd_X10_findOrder Q Y 124 [(0, (2, X)), (1, (2, P)), (2, (0, n)), (3, (0, f))] [] ε μ1 := by
    intro d
    induction d with
    | zero =>
      intro f μ1 f0 hf fd B e17 e18 no
      apply g_X10_findOrder_124
      exact fun _ _ _ => ⟨fun _ => z145 f μ1 f0 (by omega) fd B e17 e18 no (fun z => by omega), fun z => absurd z (by omega)⟩
    | succ d ih =>
      intro f μ1 f0 hf fd B e17 e18 no
      apply g_X10_findOrder_124
      refine fun _ _ _ => ⟨fun z => absurd z (by omega), fun _ => ⟨S.1.k, cg_tb S hn n10 B (fun _ _ _ => by omega) (fun _ _ _ g => ?_) (fun c => ?_)⟩⟩
      · apply g_X10_findOrder_136
        exact fun _ _ _ _ => ⟨fun _ => z145 f μ1 f0 (by omega) fd B e17 e18 no (fun _ => g), fun y => absurd y (by decide)⟩
      · apply g_X10_findOrder_136
        rw [w32_id (show i32 (f + 1) by unfold i32; omega)]
        refine fun _ _ _ _ => ⟨fun y => absurd rfl y, fun _ v e => ?_⟩
        rw [e]
        refine ih (f + 1) μ1 (by omega) (by omega) fd B e17 e18 (fun x x0 x1 => ?_)
        by_cases z : x = f
        · rw [z]; exact fun y => c ⟨f0, by omega, by omega, y⟩
        · exact no x x0 (by omega)
  apply e_X10_findOrder
  rw [L.2.1]
  refine fun _ => ⟨L.k, fun v2 e2 v3 e3 => ?_⟩
  rw [e3, e2]
  have := fo_7 (Q := Q) (Y := Y) S W L hn (fun μ1 f1 B1 => ?_) n.toNat μ (by omega) FC6.rf (fun p q p0 pq qn h => by omega)
  · rw [show ((n.toNat : Nat) : Int) = n by omega] at this
    exact this
  · apply e_X0_clearOrder
    refine fun _ => ⟨L.k, fun μ2 m2 μ3 m3 => ?_⟩
    apply g_X10_findOrder_122
    refine fun _ _ v3 e3 => ?_
    rw [e3]
    refine z124 n.toNat 0 μ3 (by decide) (by omega) (fun b j h1 h2 h3 h4 => ?_) (B1.of (fun j => ?_)) ?_ ?_ (fun g g0 g1 => by omega)
    · rw [m3, st, if_neg (fun y => h4 ⟨y.1, Or.inr y.2⟩), m2, st, if_neg (fun y => h4 ⟨y.1, Or.inl y.2⟩)]
      exact f1 b j h1 h2
    · rw [m3, sx_oa (by omega), m2, sx_oa (by omega)]
    · rw [m3, sx_oi (by decide), m2, sx_same]
    · rw [m3, sx_same]
