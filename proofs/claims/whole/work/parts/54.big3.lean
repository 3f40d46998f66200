theorem sb_loop {Q X : m_Po} {ε : m_E} {a o x px y py l4 l5 f r s : Int} (A : bg ε a o) (PX : bg ε x px) (PY : bg ε y py) (h4 : l4 = 0 ∨ l4 = 1) (h5 : l5 = 0 ∨ l5 = 1) {μ0 : m_M} (hf : (f = 0 ∧ r = px ∧ s = py) ∨ (f = 1 ∧ r = py ∧ s = px)) (hb : bs' (μ0 s) 12 ≤ bs' (μ0 r) 12) (h : ∀ μ', Exc o μ0 μ' → mg μ' o = mg μ0 r - mg μ0 s → Q 0 ε (st μ' a 1 (if f = 0 then l5 else l4))) :
    ∀ (d n : Nat) (c : Int) (μ : m_M), n + d = 12 → Exc o μ0 μ → -1 ≤ c → c ≤ 0 → bs' (μ o) n + c * 4294967296 ^ n = bs' (μ0 r) n - bs' (μ0 s) n → (∀ j : Int, n ≤ j → μ px j = μ0 px j) → (∀ j : Int, n ≤ j → μ py j = μ0 py j) → G cd_X11_sum Q X 118 [(0, (2, a)), (1, (2, x)), (2, (2, y)), (4, (0, l4)), (5, (0, l5)), (6, (0, f)), (7, (1, c)), (9, (0, n))] [] ε μ := by
  obtain ⟨a1, a2, a3, a4, a5⟩ := A
  obtain ⟨x1, x2, x3, x4, x5⟩ := PX
  obtain ⟨y1, y2, y3, y4, y5⟩ := PY
  intro d
  induction d with
  | zero =>
    intro n c μ hn hE hc0 hc1 hs hx hy
    have hn : n = 12 := by omega
    subst hn
    apply g_X11_sum_118
    refine fun _ _ _ _ _ _ => ⟨fun _ t et => ⟨a1, by rw [et]; clear hs hb; split <;> omega, fun μ1 m1 => ?_⟩, fun z => absurd z (by decide)⟩
    rw [m1, et]
    refine h μ hE ?_
    have r0 := bs_range (μ o) 12
    have p := pw_pos 12
    unfold mg
    generalize (4294967296 : Int) ^ 12 = P at *
    have : c = 0 := by
      by_cases z : c = -1
      · rw [z] at hs; omega
      · omega
    rw [this] at hs
    omega
  | succ d ih =>
    intro n c μ hn hE hc0 hc1 hs hx hy
    have step : ∀ u v : Int, u = μ0 r n % 4294967296 → v = μ0 s n % 4294967296 → G cd_X11_sum Q X 177 [(0, (2, a)), (1, (2, x)), (2, (2, y)), (4, (0, l4)), (5, (0, l5)), (6, (0, f)), (9, (0, n))] [(1, w64 (u - v)), (1, c)] ε μ := by
      intro u v eu ev
      have bu : 0 ≤ u ∧ u < 4294967296 := by clear hs hb; omega
      have bw : 0 ≤ v ∧ v < 4294967296 := by clear hs hb; omega
      apply g_X11_sum_177
      rw [a2]
      refine fun _ _ _ _ _ _ _ v7 e7 => ⟨a1, a3, by clear hs hb; omega, by clear hs hb; omega, fun μ1 m1 c1 ec n1 en => ?_⟩
      have e7' : v7 = c + (u - v) := by
        rw [e7]; clear hs hb; unfold w64; omega
      have en' : n1 = ((n + 1 : Nat) : Int) := by
        clear hs hb
        rw [en, w32_id (by unfold i32; omega)]; omega
      rw [shr64_32 (by clear hs hb; unfold i64; omega)] at ec
      rw [en']
      refine ih (n + 1) c1 μ1 (by omega) ?_ (by clear hs hb; omega) (by clear hs hb; omega) ?_ ?_ ?_ <;> rw [m1]
      · exact hE.trans Exc.st
      · rw [pw]
        unfold bs'
        rw [bs_st, sx_same]
        have e1 : w32 v7 % 4294967296 = v7 % 4294967296 := by clear hs hb; unfold w32; omega
        have e2 : v7 = v7 % 4294967296 + c1 * 4294967296 := by clear hs hb; omega
        rw [e1, ← eu, ← ev]
        clear hb
        generalize (4294967296 : Int) ^ n = P at *
        have : v7 % 4294967296 * P + c1 * (P * 4294967296) = (v7 % 4294967296 + c1 * 4294967296) * P := by grind
        rw [Int.add_assoc, this, ← e2, e7']
        grind
      · intro j hj
        exact keep_above hx j (Int.le_trans (Int.le_of_eq (Int.natCast_succ n).symm) hj)
      · intro j hj
        exact keep_above hy j (Int.le_trans (Int.le_of_eq (Int.natCast_succ n).symm) hj)
    have n0 : (0 : Int) ≤ n := by clear hs hb; omega
    have n1 : (n : Int) < 12 := by clear hs hb; omega
    apply g_X11_sum_118
    rw [x2, y2]
    refine fun _ _ _ _ _ _ => ⟨fun z => by clear hs hb; omega, fun _ => ⟨fun z => ⟨x1, x3, n0, by rw [x4]; exact n1, sp_X11_low ?_⟩, fun z => ⟨y1, y3, n0, by rw [y4]; exact n1, sp_X11_low ?_⟩⟩⟩
    · apply g_X11_sum_166
      rw [y2]
      refine fun _ _ _ _ _ _ _ => ⟨y1, y3, n0, by rw [y4]; exact n1, sp_X11_low ?_⟩
      apply g_X11_sum_176
      intro _ _ _ _ _ _ _ _
      rcases hf with ⟨f1, f2, f3⟩ | ⟨f1, f2, f3⟩
      · exact step _ _ (by rw [f2, hx n (Int.le_refl _)]) (by rw [f3, hy n (Int.le_refl _)])
      · rw [z] at f1; exact absurd f1 (by decide)
    · apply g_X11_sum_142
      rw [x2]
      refine fun _ _ _ _ _ _ _ => ⟨x1, x3, n0, by rw [x4]; exact n1, sp_X11_low ?_⟩
      apply g_X11_sum_152
      intro _ _ _ _ _ _ _ _
      rcases hf with ⟨f1, f2, f3⟩ | ⟨f1, f2, f3⟩
      · exact absurd f1 z
      · exact step _ _ (by rw [f2, hy n (Int.le_refl _)]) (by rw [f3, hx n (Int.le_refl _)])
