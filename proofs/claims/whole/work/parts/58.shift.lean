/-! half -/
theorem half_num {f g : Int → Int} (h : ∀ k : Int, 0 ≤ k → k < 12 → g k % 4294967296 = f k % 4294967296 / 2 + (if k < 11 then f (k + 1) % 2 * 2147483648 else 0)) : ∀ n : Nat, n ≤ 12 → 2 * bs' g n + f 0 % 2 = bs' f n + (if n < 12 then f n % 2 * PB n else 0) := by
  intro n
  induction n with
  | zero => intro _; simp [bs', PB_zero]
  | succ n ih =>
    intro hn
    have i := ih (by omega)
    rw [bs_succ, bs_succ, PB_succ, h n (by omega) (by omega)]
    rw [if_pos (show n < 12 by omega)] at i
    have e : f n % 4294967296 = 2 * (f n % 4294967296 / 2) + f n % 2 := by omega
    by_cases c : n + 1 < 12
    · rw [if_pos (show (n : Int) < 11 by omega), if_pos c]
      rw [show ((n + 1 : Nat) : Int) = n + 1 by omega]
      generalize f n % 4294967296 / 2 = u at *
      generalize f n % 4294967296 = w at *
      grind
    · rw [if_neg (show ¬ (n : Int) < 11 by omega), if_neg c]
      generalize f n % 4294967296 / 2 = u at *
      generalize f n % 4294967296 = w at *
      grind
theorem hf_loop {Q X : m_Po} {ε : m_E} {a o : Int} (A : bg ε a o) {μ0 : m_M} (h : ∀ μ', Exc o μ0 μ' → mg μ' o = mg μ0 o / 2 → Q 0 ε μ') :
    ∀ (d : Nat) (k : Int) (μ : m_M), k + d = 12 → 0 ≤ k → Exc o μ0 μ → (∀ j, 0 ≤ j → j < k → μ o j % 4294967296 = μ0 o j % 4294967296 / 2 + (if j < 11 then μ0 o (j + 1) % 2 * 2147483648 else 0)) → (∀ j, k ≤ j → μ o j = μ0 o j) → G cd_X11_half Q X 2 [(0, (2, a)), (1, (0, k))] [] ε μ := by
  obtain ⟨a1, a2, a3, a4, a5⟩ := A
  intro d
  induction d with
  | zero =>
    intro k μ hd h0 hE hs hp
    apply g_X11_half_2
    refine fun _ _ => ⟨fun _ => h μ hE ?_, fun z => by omega⟩
    have := half_num (f := μ0 o) (g := μ o) (fun j h1 h2 => hs j h1 (by omega)) 12 (by decide)
    rw [if_neg (by decide)] at this
    unfold mg
    omega
  | succ d ih =>
    intro k μ hd h0 hE hs hp
    have ew : k < 11 → w32 (k + 1) = k + 1 := fun z => w32_id (by unfold i32; omega)
    apply g_X11_half_2
    rw [a2]
    refine fun _ _ => ⟨fun z => by omega, fun _ => ⟨a1, a3, h0, by omega, fun z => by rw [ew z]; omega, fun t et => ⟨a3, h0, by omega, fun μ1 m1 k1 ek => ?_⟩⟩⟩
    have ek' : k1 = k + 1 := by rw [ek, w32_id (by unfold i32; omega)]
    rw [ek']
    refine ih (k + 1) μ1 (by omega) (by omega) ?_ ?_ ?_ <;> rw [m1]
    · exact hE.trans Exc.st
    · intro j h1 h2
      by_cases c : j = k
      · rw [c, sx_same, ushr32_1]
        by_cases z : k < 11
        · rw [if_neg (by omega), ew z, shl32_31, hp (k + 1) (by omega)] at et
          rw [if_pos z, et, hp k (by omega), or32_half _ (by omega) (by omega)]
          unfold w32
          omega
        · rw [if_pos (by omega)] at et
          rw [if_neg z, et, hp k (by omega)]
          have := or32_half (a := μ0 o k % 4294967296 / 2) 0 (by omega) (by omega)
          rw [show w32 (0 * 2147483648) = 0 by decide] at this
          rw [this]
          unfold w32
          omega
      · rw [sx_oi c]; exact hs j h1 (by omega)
    · intro j h1
      rw [sx_oi (by omega)]; exact hp j (by omega)
theorem sp_X11_half {Q X : m_Po} {ε : m_E} {μ : m_M} {a o : Int} (A : bg ε a o) (h : ∀ μ', Exc o μ μ' → mg μ' o = mg μ o / 2 → Q 0 ε μ') : o_X11_half [(2, a)] ε μ Q X := by
  apply e_X11_half
  intro _ v1 e1
  exact hf_loop A h 12 v1 μ (by omega) (by omega) Exc.rf (fun j h1 h2 => by omega) (fun _ _ => rfl)
/-! twice -/
theorem twice_num {f g : Int → Int} (h : ∀ k : Int, 0 ≤ k → k < 12 → g k % 4294967296 = f k * 2 % 4294967296 + (if 0 < k then f (k - 1) % 4294967296 / 2147483648 else 0)) : ∀ n : Nat, n ≤ 12 → bs' g n + (if 0 < n then f (n - 1) % 4294967296 / 2147483648 else 0) * PB n = 2 * bs' f n := by
  intro n
  induction n with
  | zero => intro _; simp [bs']
  | succ n ih =>
    intro hn
    have i := ih (by omega)
    rw [bs_succ, bs_succ, PB_succ, h n (by omega) (by omega)]
    rw [if_pos (show 0 < n + 1 by omega), show ((n + 1 : Nat) : Int) - 1 = n by omega]
    have e : f n * 2 % 4294967296 + f n % 4294967296 / 2147483648 * 4294967296 = 2 * (f n % 4294967296) := by omega
    have e2 : (if 0 < (n : Int) then f (n - 1) % 4294967296 / 2147483648 else 0) = (if 0 < n then f (n - 1) % 4294967296 / 2147483648 else 0) := by
      by_cases c : 0 < n
      · rw [if_pos c, if_pos (by omega)]
      · rw [if_neg c, if_neg (by omega)]
    rw [e2]
    generalize (if 0 < n then f (n - 1) % 4294967296 / 2147483648 else 0) = t at *
    generalize f n * 2 % 4294967296 = u at *
    generalize f n % 4294967296 / 2147483648 = w at *
    grind
theorem tw_loop {Q X : m_Po} {ε : m_E} {a o : Int} (A : bg ε a o) {μ0 : m_M} (hb : 2 * mg μ0 o < PB 12) (h : ∀ μ', Exc o μ0 μ' → mg μ' o = 2 * mg μ0 o → Q 0 ε μ') :
    ∀ (n : Nat) (k : Int) (μ : m_M), k + 1 = n → n ≤ 12 → Exc o μ0 μ → (∀ j, k < j → j < 12 → μ o j % 4294967296 = μ0 o j * 2 % 4294967296 + (if 0 < j then μ0 o (j - 1) % 4294967296 / 2147483648 else 0)) → (∀ j, j ≤ k → μ o j = μ0 o j) → G cd_X11_twice Q X 3 [(0, (2, a)), (1, (0, k))] [] ε μ := by
  obtain ⟨a1, a2, a3, a4, a5⟩ := A
  intro n
  induction n with
  | zero =>
    intro k μ hd h0 hE hs hp
    apply g_X11_twice_3
    refine fun _ _ => ⟨fun _ => h μ hE ?_, fun z => by omega⟩
    have := twice_num (f := μ0 o) (g := μ o) (fun j h1 h2 => hs j (by omega) h2) 12 (by decide)
    have r := bs_rng (μ o) 12
    have r0 := bs_rng (μ0 o) 12
    unfold mg at *
    exact pr_fin r.1 r.2 (by omega) hb this
  | succ n ih =>
    intro k μ hd h0 hE hs hp
    have ew : 0 < k → w32 (k - 1) = k - 1 := fun z => w32_id (by unfold i32; omega)
    apply g_X11_twice_3
    rw [a2]
    refine fun _ _ => ⟨fun z => by omega, fun _ => ⟨a1, a3, by omega, by omega, fun z => by rw [ew z]; omega, fun t et => ⟨a3, by omega, by omega, fun μ1 m1 k1 ek => ?_⟩⟩⟩
    have ek' : k1 = k - 1 := by rw [ek, w32_id (by unfold i32; omega)]; omega
    rw [ek']
    refine ih (k - 1) μ1 (by omega) (by omega) ?_ ?_ ?_ <;> rw [m1]
    · exact hE.trans Exc.st
    · intro j h1 h2
      by_cases c : j = k
      · rw [c, sx_same, shl32_1]
        by_cases z : 0 < k
        · rw [if_neg (by omega), ew z, ushr32_31, hp (k - 1) (by omega)] at et
          rw [if_pos z, et, hp k (by omega), or32_twice _ (by omega) (by omega)]
          unfold w32
          omega
        · rw [if_pos (by omega)] at et
          rw [if_neg z, et, hp k (by omega), or32_twice _ (by omega) (by omega)]
          unfold w32
          omega
      · rw [sx_oi c]; exact hs j (by omega) h2
    · intro j h1
      rw [sx_oi (by omega)]; exact hp j (by omega)
theorem sp_X11_twice {Q X : m_Po} {ε : m_E} {μ : m_M} {a o : Int} (A : bg ε a o) (hb : 2 * mg μ o < PB 12) (h : ∀ μ', Exc o μ μ' → mg μ' o = 2 * mg μ o → Q 0 ε μ') : o_X11_twice [(2, a)] ε μ Q X := by
  apply e_X11_twice
  intro _ v1 e1
  exact tw_loop A hb h 12 v1 μ (by omega) (by omega) Exc.rf (fun j h1 h2 => by omega) (fun _ _ => rfl)
/-! parts -/
theorem pt_loop {Q X : m_Po} {ε : m_E} {a o m : Int} (A : bg ε a o) (hm0 : 0 < m) (hm1 : m < 2147483648) {μ0 : m_M} (h : ∀ μ', Exc o μ0 μ' → mg μ' o = mg μ0 o / m → Q (mg μ0 o % m) ε μ') :
    ∀ (n : Nat) (k r : Int) (μ : m_M), k + 1 = n → n ≤ 12 → Exc o μ0 μ → 0 ≤ r → r < m → mg μ0 o - bs' (μ0 o) n = m * (mg μ o - bs' (μ o) n) + r * PB n → (∀ j, j ≤ k → μ o j = μ0 o j) → G cd_X11_parts Q X 6 [(0, (2, a)), (1, (0, m)), (2, (1, r)), (4, (0, k))] [] ε μ := by
  obtain ⟨a1, a2, a3, a4, a5⟩ := A
  intro n
  induction n with
  | zero =>
    intro k r μ hd h0 hE hr0 hr1 hs hp
    apply g_X11_parts_6
    refine fun _ _ _ _ => ⟨fun _ => ?_, fun z => by omega⟩
    simp only [bs', PB_zero, Int.sub_zero, Int.mul_one] at hs
    rw [w32_id (by unfold i32; omega)]
    have e1 : mg μ o = mg μ0 o / m := by
      rw [hs, Int.mul_add_ediv_left _ _ (by omega), Int.ediv_eq_zero_of_lt hr0 hr1, Int.add_zero]
    have e2 : r = mg μ0 o % m := by
      rw [hs, Int.mul_add_emod_self_left, Int.emod_eq_of_lt hr0 hr1]
    rw [e2]
    exact h μ hE e1
  | succ n ih =>
    intro k r μ hd h0 hE hr0 hr1 hs hp
    have hk : k = n := by omega
    subst hk
    apply g_X11_parts_6
    rw [a2]
    refine fun _ _ _ _ => ⟨fun z => by omega, fun _ => ⟨a1, a3, by omega, by omega, sp_X11_low ?_⟩⟩
    apply g_X11_parts_25
    rw [a2]
    refine fun _ _ _ _ _ v2 e2 => ⟨a1, by omega, a3, by omega, by omega, fun μ1 m1 r1 er k1 ek => ?_⟩
    have d0 : 0 ≤ μ o n % 4294967296 ∧ μ o n % 4294967296 < 4294967296 := by omega
    have e2' : v2 = r * 4294967296 + μ o n % 4294967296 := by
      rw [e2, shl64_32, or64_sum _ d0.1 d0.2, w64_id (by unfold i64; omega)]
    rw [Int.tmod_eq_emod_of_nonneg (by omega)] at er
    have ek' : k1 = (n : Int) - 1 := by rw [ek, w32_id (by unfold i32; omega)]; omega
    have q0 : 0 ≤ v2 / m := Int.ediv_nonneg (by omega) (by omega)
    have q1 : v2 / m < 4294967296 := by
      refine Int.ediv_lt_of_lt_mul hm0 ?_
      have := Int.mul_le_mul_of_nonneg_right (show r + 1 ≤ m by omega) (show (0 : Int) ≤ 4294967296 by decide)
      omega
    have qe : w32 (w64 (Int.tdiv v2 m)) % 4294967296 = v2 / m := by
      rw [Int.tdiv_eq_ediv_of_nonneg (by omega), w64_id (by unfold i64; omega)]
      unfold w32
      omega
    have qm := Int.mul_ediv_add_emod v2 m
    rw [← er] at qm
    rw [ek']
    refine ih _ r1 μ1 (by omega) (by omega) ?_ (by rw [er]; exact Int.emod_nonneg _ (by omega)) (by rw [er]; exact Int.emod_lt_of_pos _ hm0) ?_ ?_
    · rw [m1]; exact hE.trans Exc.st
    · have em : mg μ1 o = mg μ o + (v2 / m - μ o n % 4294967296) * PB n := by
        rw [m1, ← qe]
        exact bs_st_at n 12 (by omega)
      have el : bs' (μ1 o) n = bs' (μ o) n := by rw [m1]; exact bs_st n
      rw [em, el]
      rw [bs_succ, bs_succ, PB_succ, ← hp n (Int.le_refl _)] at hs
      have el2 : bs' (μ o) n = bs' (μ0 o) n := bs_congr n (fun j _ h1 => by rw [hp j (by omega)])
      rw [el2] at hs ⊢
      generalize v2 / m = q at *
      generalize μ o n % 4294967296 = d' at *
      subst e2'
      grind
    · intro j h1
      rw [m1, sx_oi (by omega)]; exact hp j (by omega)
theorem sp_X11_parts {Q X : m_Po} {ε : m_E} {μ : m_M} {a o m : Int} (A : bg ε a o) (hm0 : 0 < m) (hm1 : m < 2147483648) (h : ∀ μ', Exc o μ μ' → mg μ' o = mg μ o / m → Q (mg μ o % m) ε μ') : o_X11_parts [(2, a), (0, m)] ε μ Q X := by
  apply e_X11_parts
  intro _ _ v2 e2 v4 e4
  rw [e2]
  exact pt_loop A hm0 hm1 h 12 v4 0 μ (by omega) (by omega) Exc.rf (by decide) hm0 (by unfold mg; simp) (fun _ _ => rfl)
