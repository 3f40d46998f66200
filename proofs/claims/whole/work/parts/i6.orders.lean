set_option maxHeartbeats 1000000
/-! ===== the reference's orders ===== -/
theorem sp_X12_orders {Q Y : m_Po} {ε : m_E} {μ σ : m_M} {M a : Int} (L : LM ε M) (W : WM μ σ M a) (hh : ∀ μ' : m_M, FO M μ μ' → μ' M 66 = a → OD σ a (μ' M 67) (μ' (M + 105)) → Q 0 ε μ') : o_X12_orders [(2, M), (0, a)] ε μ Q Y := by
  have n1 := W.1.2.2.1
  have n10 := W.1.2.2.2.1
  have a0 := W.1.1
  have a1 := W.1.2.1
  generalize hn : σ 15 a = n at *
  have O2 : ∀ (d : Nat) (f : Int) (μ1 : m_M), 0 ≤ f → f + d = n → FO M μ μ1 → Mem μ1 σ M a → μ1 M 67 = 0 → (∀ g, 0 ≤ g → g < f → ¬ Grw σ a g g) → G cd_X12_orders Q Y 35 [(0, (2, M)), (1, (0, a)), (2, (0, n)), (3, (0, f))] [] ε μ1 := by
    have z56 : ∀ (f : Int) (μ1 : m_M), 0 ≤ f → f ≤ n → FO M μ μ1 → Mem μ1 σ M a → μ1 M 67 = 0 → (∀ g, 0 ≤ g → g < f → ¬ Grw σ a g g) → (f < n → Grw σ a f f) → G cd_X12_orders Q Y 56 [(0, (2, M)), (1, (0, a)), (2, (0, n)), (3, (0, f))] [] ε μ1 := fun f μ1 f0 fn fo E e67 no yes => by
      apply g_X12_orders_56
      rw [L.f64.1, L.f64.2.2]
      refine fun _ _ _ _ => ⟨L.k, fun μ2 m2 => ⟨fun q v4 e4 v5 e5 => ⟨L.k, L.f64.2.1, by omega, fun μ3 m3 μ4 m4 => ?_⟩, fun q => ?_⟩⟩
      · rw [e4, e5]
        refine orders_85 L W hn (f := f) (fun μ' I J fo' r66 r67 hI hJ hs w => hh μ' fo' r66 ?_) (n - 1).toNat 1 f f μ4 (fun _ => f) (fun _ => f) (by omega) (by decide) f0 (by omega) (by omega) (yes (by omega)) (fo.trans (fun b x h1 h2 h3 h4 h5 h6 h7 h8 => ?_)) (fun p q' p0 pq qn => ?_) (by rw [m4, sx_same]) ?_ rfl rfl ?_ rfl rfl (fun x x1 xn => by omega)
        · rw [r67]
          refine Or.inr ⟨hn.symm, f, I, J, f0, by omega, yes (by omega), no, hI, hJ, hs, by rw [hn]; exact w⟩
        · rw [m4, st, if_neg (fun z => h8 ⟨z.1, Or.inr z.2⟩), m3, sx_oa h7, m2, st, if_neg (fun z => h8 ⟨z.1, Or.inl z.2⟩)]
        · rw [m4, sx_oa (by omega), m3, sx_oa (by omega), m2, sx_oa (by omega)]; exact E p q' p0 pq qn
        · rw [m4, sx_oi (by decide), m3, sx_oa (by omega), m2, sx_same]
        · rw [m4, sx_oa (by omega), m3, sx_same]
      · refine hh μ2 (fo.trans (fun b x h1 h2 h3 h4 h5 h6 h7 h8 => by rw [m2, st, if_neg (fun z => h8 ⟨z.1, Or.inl z.2⟩)])) (by rw [m2, sx_same]) (Or.inl ⟨by rw [m2, sx_oi (by decide)]; exact e67, fun g g0 g1 => no g g0 (by omega)⟩)
    intro d
    induction d with
    | zero =>
      intro f μ1 f0 hf fo E e67 no
      apply g_X12_orders_35
      exact fun _ _ _ _ => ⟨fun _ => z56 f μ1 f0 (by omega) fo E e67 no (fun z => by omega), fun z => absurd z (by omega)⟩
    | succ d ih =>
      intro f μ1 f0 hf fo E e67 no
      apply g_X12_orders_35
      refine fun _ _ _ _ => ⟨fun z => absurd z (by omega), fun _ => ⟨L.k, gs_10 L (W.fo fo) E f0 (by omega) (by omega) (by omega) (fun μ2 f2 E2 g => ?_) (fun μ2 f2 E2 g => ?_)⟩⟩
      · have k67 : μ2 M 67 = 0 := by rw [f2 _ _ (by omega) (by omega) (by omega) (by omega) (by omega) (by omega)]; exact e67
        apply g_X12_orders_47
        exact fun _ _ _ _ _ => ⟨fun _ => z56 f μ2 f0 (by omega) (fo.trans f2.fo) E2 k67 no (fun _ => g), fun z => absurd z (by decide)⟩
      · have k67 : μ2 M 67 = 0 := by rw [f2 _ _ (by omega) (by omega) (by omega) (by omega) (by omega) (by omega)]; exact e67
        apply g_X12_orders_47
        rw [w32_id (show i32 (f + 1) by unfold i32; omega)]
        refine fun _ _ _ _ _ => ⟨fun z => absurd rfl z, fun _ w hw => ?_⟩
        rw [hw]
        refine ih (f + 1) μ2 (by omega) (by omega) (fo.trans f2.fo) E2 k67 (fun x x0 x1 => ?_)
        by_cases z : x = f
        · rw [z]; exact g
        · exact no x x0 (by omega)
  have O1 : ∀ (d : Nat) (x : Int) (μ1 : m_M), 0 ≤ x → x + d = 100 → FO M μ μ1 → (∀ y, 0 ≤ y → y < x → μ1 (M + 106) y = 0) → G cd_X12_orders Q Y 9 [(0, (2, M)), (1, (0, a)), (2, (0, n)), (3, (0, x))] [] ε μ1 := by
    intro d
    induction d with
    | zero =>
      intro x μ1 x0 hx fo z
      apply g_X12_orders_9
      refine fun _ _ _ _ => ⟨fun _ => ⟨L.k, fun μ2 m2 v e => ?_⟩, fun z => absurd z (by omega)⟩
      rw [e]
      refine O2 n.toNat 0 μ2 (by decide) (by omega) (fo.trans (fun b y h1 h2 h3 h4 h5 h6 h7 h8 => by rw [m2, st, if_neg (fun z => h8 ⟨z.1, Or.inr z.2⟩)])) (fun p q p0 pq qn => Or.inl ?_) (by rw [m2, sx_same]) (fun g g0 g1 => by omega)
      rw [m2, sx_oa (by omega)]; exact z _ (by omega) (by omega)
    | succ d ih =>
      intro x μ1 x0 hx fo z
      apply g_X12_orders_9
      rw [L.f65.1, L.f65.2.2, w32_id (show i32 (x + 1) by unfold i32; omega)]
      refine fun _ _ _ _ => ⟨fun z => absurd z (by omega), fun _ => ⟨L.k, L.f65.2.1, x0, by omega, fun μ2 m2 v e => ?_⟩⟩
      rw [e]
      refine ih (x + 1) μ2 (by omega) (by omega) (fo.trans (fun b y h1 h2 h3 h4 h5 h6 h7 h8 => by rw [m2, sx_oa h6])) (fun y y0 y1 => ?_)
      by_cases q : y = x
      · rw [q, m2, sx_same]
      · rw [m2, sx_oi q]; exact z y y0 (by omega)
  have S15 : μ (M + 15) a = n := by rw [← hn]; exact W.2.2.2.2.2.2.2.2.1 15 a (by decide) (by decide)
  apply e_X12_orders
  rw [L.f17.1, L.f17.2.2, S15]
  refine fun _ _ => ⟨L.k, L.f17.2.1, a0, a1, fun v2 e2 v3 e3 => ?_⟩
  rw [e2, e3]
  exact O1 100 0 μ (by decide) (by omega) (fun _ _ _ _ _ _ _ _ _ _ => rfl) (fun y y0 y1 => absurd y1 (by omega))
