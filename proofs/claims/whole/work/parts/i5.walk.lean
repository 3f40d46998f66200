set_option maxHeartbeats 1000000
/-! ===== the reference's walk ===== -/
def FO (M : Int) (μ μ' : m_M) : Prop := ∀ b j, (b < M + 26 ∨ M + 30 < b) → b ≠ M + 44 → b ≠ M + 45 → b ≠ M + 46 → ¬ (b = M ∧ (j = 35 ∨ (42 ≤ j ∧ j ≤ 49))) → b ≠ M + 106 → b ≠ M + 105 → ¬ (b = M ∧ (j = 66 ∨ j = 67)) → μ' b j = μ b j
theorem FO.trans {M : Int} {μ μ' μ'' : m_M} (h : FO M μ μ') (k : FO M μ' μ'') : FO M μ μ'' := fun b j h1 h2 h3 h4 h5 h6 h7 h8 => (k b j h1 h2 h3 h4 h5 h6 h7 h8).trans (h b j h1 h2 h3 h4 h5 h6 h7 h8)
theorem FG.fo {M : Int} {μ μ' : m_M} (h : FG M μ μ') : FO M μ μ' := fun b j h1 h2 h3 h4 h5 h6 _ _ => h b j h1 h2 h3 h4 h5 h6
theorem WM.fo {μ μ' σ : m_M} {M a : Int} (H : WM μ σ M a) (f : FO M μ μ') : WM μ' σ M a := by
  obtain ⟨h1, h2, h3, h4, h5, h6, h7, h8, h9, h10⟩ := H
  refine ⟨h1, h2, h3, h4, h5, h6, h7, h8, fun o j ho1 ho2 => ?_, ?_⟩
  · rw [f _ _ (by omega) (by omega) (by omega) (by omega) (by omega) (by omega) (by omega) (by omega)]; exact h9 o j ho1 ho2
  · have e : μ' (M + 25) = μ (M + 25) := funext fun j => f _ _ (by omega) (by omega) (by omega) (by omega) (by omega) (by omega) (by omega) (by omega)
    rw [e]; exact h10
theorem orders_85 {Q Y : m_Po} {ε : m_E} {μ σ : m_M} {M a n f : Int} (L : LM ε M) (W : WM μ σ M a) (hn : σ 15 a = n) (hh : ∀ (μ' : m_M) (I J : Int → Int), FO M μ μ' → μ' M 66 = a → μ' M 67 = n → I 0 = f → J 0 = f → μ' (M + 105) 0 = f → ODw σ a (μ' (M + 105)) I J n → Q 0 ε μ') : ∀ (d : Nat) (t i j : Int) (μ1 : m_M) (I J : Int → Int), t + d = n → 1 ≤ t → 0 ≤ i → j < n → j - i = t - 1 → Grw σ a i j → FO M μ μ1 → Mem μ1 σ M a → μ1 M 67 = t → μ1 M 66 = a → I 0 = f → J 0 = f → μ1 (M + 105) 0 = f → I (t - 1) = i → J (t - 1) = j → ODw σ a (μ1 (M + 105)) I J t → G cd_X12_orders Q Y 85 [(0, (2, M)), (1, (0, a)), (2, (0, n)), (4, (0, i)), (5, (0, j))] [] ε μ1 := by
  intro d
  have n10 : n ≤ 10 := by rw [← hn]; exact W.1.2.2.2.1
  induction d with
  | zero =>
    intro t i j μ1 I J ht t1 i0 jn ji g fo E e67 e66 hI hJ hs _ _ w
    apply g_X12_orders_85
    rw [e67]
    refine fun _ _ _ _ _ => ⟨L.k, fun _ => hh μ1 I J fo e66 (by omega) hI hJ hs (by rw [show n = t by omega]; exact w), fun z => absurd z (by omega)⟩
  | succ d ih =>
    intro t i j μ1 I J ht t1 i0 jn ji g fo E e67 e66 hI hJ hs hIt hJt w
    have stp := (Grw.step i0 (show i ≤ j by omega) (show j < σ 15 a by omega)).mp g
    have go : ∀ (μ2 : m_M) (l : Int), FG M μ1 μ2 → Mem μ2 σ M a → ((l = 1 ∧ (0 < i ∧ Grw σ a (i - 1) j)) ∨ (l = 0 ∧ ¬ (0 < i ∧ Grw σ a (i - 1) j))) → G cd_X12_orders Q Y 117 [(0, (2, M)), (1, (0, a)), (2, (0, n)), (4, (0, i)), (5, (0, j))] [(0, l)] ε μ2 := fun μ2 l f2 E2 hl => by
      have k67 : μ2 M 67 = t := by rw [f2 _ _ (by omega) (by omega) (by omega) (by omega) (by omega) (by omega)]; exact e67
      have k66 : μ2 M 66 = a := by rw [f2 _ _ (by omega) (by omega) (by omega) (by omega) (by omega) (by omega)]; exact e66
      have ks : μ2 (M + 105) = μ1 (M + 105) := funext fun x => f2 _ _ (by omega) (by omega) (by omega) (by omega) (by omega) (by omega)
      apply g_X12_orders_117
      rw [L.f64.1, L.f64.2.2, k67, w32_id (show i32 (i + (-1)) by unfold i32; omega), w32_id (show i32 (j + 1) by unfold i32; omega)]
      refine fun _ _ _ _ _ _ v6 e6 i' ei j' ej => ⟨L.k, fun s es => ⟨L.f64.2.1, by omega, by omega, fun μ3 m3 => ⟨L.k, fun μ4 m4 => ?_⟩⟩⟩
      have e3 : μ3 M 67 = t := by rw [m3, sx_oa (by omega)]; exact k67
      rw [e3, w32_id (show i32 (t + 1) by unfold i32; omega)] at m4
      have sq : ∀ x, x ≠ t → μ4 (M + 105) x = μ1 (M + 105) x := fun x hx => by rw [m4, sx_oa (by omega), m3, sx_oi hx, ks]
      have st4 : μ4 (M + 105) t = s := by rw [m4, sx_oa (by omega), m3, sx_same]
      have f4 : FO M μ μ4 := fo.trans (fun b x h1 h2 h3 h4 h5 h6 h7 h8 => by rw [m4, st, if_neg (fun z => h8 ⟨z.1, Or.inr z.2⟩), m3, sx_oa h7]; exact f2 b x h1 h2 h3 h4 h5 h6)
      have E4 : Mem μ4 σ M a := fun p q p0 pq qn => by rw [m4, sx_oa (by omega), m3, sx_oa (by omega)]; exact E2 p q p0 pq qn
      have q66 : μ4 M 66 = a := by rw [m4, sx_oi (by decide), m3, sx_oa (by omega)]; exact k66
      have q67 : μ4 M 67 = t + 1 := by rw [m4, sx_same]
      clear m3 m4 e3
      have key : 0 ≤ i' ∧ j' < n ∧ j' - i' = t ∧ Grw σ a i' j' ∧ (((0 < i ∧ Grw σ a (i - 1) j) ∧ i' = i - 1 ∧ j' = j ∧ s = i') ∨ (¬ (0 < i ∧ Grw σ a (i - 1) j) ∧ i' = i ∧ j' = j + 1 ∧ s = j')) := by
        rcases hl with ⟨l1, c⟩ | ⟨l0, c⟩
        · rw [if_neg (by omega)] at ei ej es
          have x1 : i' = i - 1 := by omega
          refine ⟨by omega, by omega, by omega, by rw [x1, ej]; exact c.2, Or.inl ⟨c, x1, ej, es⟩⟩
        · rw [if_pos (by omega)] at ei ej es
          have y : j < σ 15 a - 1 ∧ Grw σ a i (j + 1) := by
            rcases stp.2 with z | z | z
            · omega
            · exact absurd z c
            · exact z
          refine ⟨by omega, by omega, by omega, by rw [ei, ej]; exact y.2, Or.inr ⟨c, ei, ej, es⟩⟩
      obtain ⟨r1, r2, r3, r4, r5⟩ := key
      refine ih (t + 1) i' j' μ4 (fun x => if x = t then i' else I x) (fun x => if x = t then j' else J x) (by omega) (by omega) r1 r2 (by omega) r4 f4 E4 q67 q66 (by show (if (0 : Int) = t then i' else I 0) = f; rw [if_neg (by omega)]; exact hI) (by show (if (0 : Int) = t then j' else J 0) = f; rw [if_neg (by omega)]; exact hJ) (by rw [sq 0 (by omega)]; exact hs) (by show (if t + 1 - 1 = t then i' else I (t + 1 - 1)) = i'; rw [if_pos (by omega)]) (by show (if t + 1 - 1 = t then j' else J (t + 1 - 1)) = j'; rw [if_pos (by omega)]) (fun x x1 xn => ?_)
      show ((0 < (if x - 1 = t then i' else I (x - 1)) ∧ Grw σ a ((if x - 1 = t then i' else I (x - 1)) - 1) (if x - 1 = t then j' else J (x - 1))) ∧ (if x = t then i' else I x) = (if x - 1 = t then i' else I (x - 1)) - 1 ∧ (if x = t then j' else J x) = (if x - 1 = t then j' else J (x - 1)) ∧ μ4 (M + 105) x = (if x = t then i' else I x)) ∨ (¬ (0 < (if x - 1 = t then i' else I (x - 1)) ∧ Grw σ a ((if x - 1 = t then i' else I (x - 1)) - 1) (if x - 1 = t then j' else J (x - 1))) ∧ (if x = t then i' else I x) = (if x - 1 = t then i' else I (x - 1)) ∧ (if x = t then j' else J x) = (if x - 1 = t then j' else J (x - 1)) + 1 ∧ μ4 (M + 105) x = (if x = t then j' else J x))
      rw [if_neg (show ¬ x - 1 = t by omega), if_neg (show ¬ x - 1 = t by omega)]
      by_cases y : x = t
      · rw [if_pos y, if_pos y, y, hIt, hJt, st4]
        exact r5
      · rw [if_neg y, if_neg y, sq x y]
        exact w x x1 (by omega)
    have z116 : ∀ μ2 : m_M, FG M μ1 μ2 → Mem μ2 σ M a → ¬ (0 < i ∧ Grw σ a (i - 1) j) → G cd_X12_orders Q Y 116 [(0, (2, M)), (1, (0, a)), (2, (0, n)), (4, (0, i)), (5, (0, j))] [] ε μ2 := fun μ2 f2 E2 c => by
      apply g_X12_orders_116
      exact fun _ _ _ _ _ => go μ2 0 f2 E2 (Or.inr ⟨rfl, c⟩)
    apply g_X12_orders_85
    rw [e67, w32_id (show i32 (i - 1) by unfold i32; omega)]
    refine fun _ _ _ _ _ => ⟨L.k, fun z => absurd z (by omega), fun _ => ⟨fun z => z116 μ1 (fun _ _ _ _ _ _ _ _ => rfl) E (fun y => by omega), fun z => gs_10 L (W.fo fo) E (by omega) (by omega) (by omega) (by omega) (fun μ2 f2 E2 g' => ?_) (fun μ2 f2 E2 g' => ?_)⟩⟩
    · apply g_X12_orders_109
      exact fun _ _ _ _ _ _ => ⟨fun y => absurd y (by decide), fun _ => go μ2 1 f2 E2 (Or.inl ⟨rfl, z, g'⟩)⟩
    · apply g_X12_orders_109
      exact fun _ _ _ _ _ _ => ⟨fun _ => z116 μ2 f2 E2 (fun y => g' y.2), fun y => absurd rfl y⟩
