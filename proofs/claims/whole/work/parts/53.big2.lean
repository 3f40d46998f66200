theorem mg_nn (μ : m_M) (o : Int) : 0 ≤ mg μ o ∧ mg μ o < 39402006196394479212279040100143613805079739270465446667948293404245721771497210611414266254884915640806627990306816 := by
  have := bs_range (μ o) 12
  have e : (4294967296 : Int) ^ 12 = 39402006196394479212279040100143613805079739270465446667948293404245721771497210611414266254884915640806627990306816 := by decide
  rw [← e]; exact this
theorem cmp_end {Q X : m_Po} {ε : m_E} {μ : m_M} {a o b p x y : Int} (A : bg ε a o) (B : bg ε b p) (hx : x = if μ a 1 ≠ 0 ∧ mg μ o ≠ 0 then 1 else 0) (hy : y = if μ b 1 ≠ 0 ∧ mg μ p ≠ 0 then 1 else 0) (h : Q (cp (bv μ a o) (bv μ b p)) ε μ) : G cd_X11_compare Q X 39 [(0, (2, a)), (1, (2, b)), (2, (0, x))] [(0, y)] ε μ := by
  have ga := mg_nn μ o
  have gb := mg_nn μ p
  unfold cp bv at h
  apply g_X11_compare_39
  intro _ _ _ v3 e3
  refine ⟨fun c => ⟨fun c2 => ⟨A.1, sp_X11_sizes A B ?_⟩, fun c2 => ⟨A.1, sp_X11_sizes A B ?_⟩⟩, fun c t et => ?_⟩
  · apply g_X11_compare_73
    intro _ _
    have z1 : ¬ (μ a 1 ≠ 0 ∧ mg μ o ≠ 0) := fun q => by rw [if_pos q] at hx; omega
    have z2 : ¬ (μ b 1 ≠ 0 ∧ mg μ p ≠ 0) := fun q => by rw [if_pos q] at hy; omega
    have e1 : (if μ a 1 = 0 then mg μ o else -(mg μ o)) = mg μ o := by split <;> omega
    have e2 : (if μ b 1 = 0 then mg μ p else -(mg μ p)) = mg μ p := by split <;> omega
    rw [e1, e2] at h
    exact h
  · apply g_X11_compare_64
    intro _ _
    apply g_X11_compare_73
    intro _ _
    have z1 : μ a 1 ≠ 0 ∧ mg μ o ≠ 0 := Decidable.byContradiction (fun q => by rw [if_neg q] at hx; omega)
    have z2 : μ b 1 ≠ 0 ∧ mg μ p ≠ 0 := Decidable.byContradiction (fun q => by rw [if_neg q] at hy; omega)
    rw [if_neg z1.1, if_neg z2.1] at h
    have : w32 (-(cp (mg μ o) (mg μ p))) = if -(mg μ o) < -(mg μ p) then -1 else if -(mg μ o) = -(mg μ p) then 0 else 1 := by
      unfold cp
      by_cases q : mg μ o < mg μ p
      · rw [if_pos q, if_neg (by omega), if_neg (by omega)]; decide
      · rw [if_neg q]
        by_cases q2 : mg μ o = mg μ p
        · rw [if_pos q2, if_neg (by omega), if_pos (by omega)]; decide
        · rw [if_neg q2, if_pos (by omega)]; decide
    rw [this]; exact h
  · rw [et]
    by_cases z1 : μ a 1 ≠ 0 ∧ mg μ o ≠ 0
    · rw [if_pos z1] at hx
      rw [if_neg (by omega)]
      have z2 : ¬ (μ b 1 ≠ 0 ∧ mg μ p ≠ 0) := fun q => by rw [if_pos q] at hy; omega
      have e2 : (if μ b 1 = 0 then mg μ p else -(mg μ p)) = mg μ p := by split <;> omega
      rw [if_neg z1.1, e2, if_pos (by omega)] at h
      exact h
    · rw [if_neg z1] at hx
      rw [if_pos hx]
      have z2 : μ b 1 ≠ 0 ∧ mg μ p ≠ 0 := Decidable.byContradiction (fun q => by rw [if_neg q] at hy; omega)
      have e1 : (if μ a 1 = 0 then mg μ o else -(mg μ o)) = mg μ o := by split <;> omega
      rw [if_neg z2.1, e1, if_neg (by omega), if_neg (by omega)] at h
      exact h
theorem cmp_mid {Q X : m_Po} {ε : m_E} {μ : m_M} {a o b p x : Int} (A : bg ε a o) (B : bg ε b p) (hx : x = if μ a 1 ≠ 0 ∧ mg μ o ≠ 0 then 1 else 0) (h : Q (cp (bv μ a o) (bv μ b p)) ε μ) : G cd_X11_compare Q X 19 [(0, (2, a)), (1, (2, b))] [(0, x)] ε μ := by
  apply g_X11_compare_19
  intro _ _ v2 e2
  rw [e2]
  refine ⟨B.1, fun c => ?_, fun c => sp_X11_isNothing B ?_⟩
  · apply g_X11_compare_38
    intro _ _
    exact cmp_end A B hx (by rw [if_neg (fun q => q.1 c)]) h
  · apply g_X11_compare_31
    refine fun _ _ _ => ⟨fun c2 => ?_, fun c2 => ?_⟩
    · apply g_X11_compare_38
      intro _ _
      exact cmp_end A B hx (by rw [if_neg (fun q => c2 (by rw [if_neg q.2]))]) h
    · exact cmp_end A B hx (by rw [if_pos ⟨c, fun q => by rw [if_pos q] at c2; exact absurd c2 (by decide)⟩]) h
theorem sp_X11_compare {Q X : m_Po} {ε : m_E} {μ : m_M} {a o b p : Int} (A : bg ε a o) (B : bg ε b p) (h : Q (cp (bv μ a o) (bv μ b p)) ε μ) : o_X11_compare [(2, a), (2, b)] ε μ Q X := by
  apply e_X11_compare
  intro _
  refine ⟨A.1, fun c => ?_, fun c => sp_X11_isNothing A ?_⟩
  · apply g_X11_compare_18
    intro _
    exact cmp_mid A B (by rw [if_neg (fun q => q.1 c)]) h
  · apply g_X11_compare_11
    refine fun _ _ => ⟨fun c2 => ?_, fun c2 => ?_⟩
    · apply g_X11_compare_18
      intro _
      exact cmp_mid A B (by rw [if_neg (fun q => c2 (by rw [if_neg q.2]))]) h
    · exact cmp_mid A B (by rw [if_pos ⟨c, fun q => by rw [if_pos q] at c2; exact absurd c2 (by decide)⟩]) h
/-- unlike pieces above k: those that a store at k leaves -/
theorem keep_above {μ μ0 : m_M} {o p k v : Int} (h : ∀ j, k ≤ j → μ p j = μ0 p j) : ∀ j, k + 1 ≤ j → st μ o k v p j = μ0 p j := by
  intro j hj
  by_cases c : p = o
  · subst c; rw [sx_oi (by omega)]; exact h j (by omega)
  · rw [sx_oa c]; exact h j (by omega)
theorem bs_st {μ : m_M} {o v : Int} (n : Nat) : bs' (st μ o n v o) n = bs' (μ o) n := bs_congr n (fun k _ h1 => by rw [sx_oi (by omega)])
theorem ad_loop {Q X : m_Po} {ε : m_E} {a o x px y py l : Int} (A : bg ε a o) (PX : bg ε x px) (PY : bg ε y py) (hl : l = 0 ∨ l = 1) {μ0 : m_M} (hb : bs' (μ0 px) 12 + bs' (μ0 py) 12 < 4294967296 ^ 12) (h : ∀ μ', Exc o μ0 μ' → mg μ' o = mg μ0 px + mg μ0 py → Q 0 ε (st μ' a 1 l)) :
    ∀ (n : Nat) (c : Int) (μ : m_M), n ≤ 12 → Exc o μ0 μ → 0 ≤ c → c ≤ 1 → bs' (μ o) n + c * 4294967296 ^ n = bs' (μ0 px) n + bs' (μ0 py) n → (∀ j : Int, n ≤ j → μ px j = μ0 px j) → (∀ j : Int, n ≤ j → μ py j = μ0 py j) → G cd_X11_sum Q X 34 [(0, (2, a)), (1, (2, x)), (2, (2, y)), (5, (0, l)), (6, (1, c)), (8, (0, n))] [] ε μ := by
  obtain ⟨a1, a2, a3, a4, a5⟩ := A
  obtain ⟨x1, x2, x3, x4, x5⟩ := PX
  obtain ⟨y1, y2, y3, y4, y5⟩ := PY
  have main : ∀ (d n : Nat) (c : Int) (μ : m_M), n + d = 12 → Exc o μ0 μ → 0 ≤ c → c ≤ 1 → bs' (μ o) n + c * 4294967296 ^ n = bs' (μ0 px) n + bs' (μ0 py) n → (∀ j : Int, n ≤ j → μ px j = μ0 px j) → (∀ j : Int, n ≤ j → μ py j = μ0 py j) → G cd_X11_sum Q X 34 [(0, (2, a)), (1, (2, x)), (2, (2, y)), (5, (0, l)), (6, (1, c)), (8, (0, n))] [] ε μ := by
    intro d
    induction d with
    | zero =>
      intro n c μ hn hE hc0 hc1 hs hx hy
      have hn : n = 12 := by omega
      subst hn
      apply g_X11_sum_34
      refine fun _ _ _ _ => ⟨fun _ => ⟨a1, hl, fun μ1 m1 => ?_⟩, fun z => by omega⟩
      rw [m1]
      refine h μ hE ?_
      have r := (bs_range (μ o) 12).1
      have p := pw_pos 12
      have : c = 0 := by
        by_cases z : c = 1
        · rw [z] at hs; omega
        · omega
      rw [this] at hs
      unfold mg
      omega
    | succ d ih =>
      intro n c μ hn hE hc0 hc1 hs hx hy
      apply g_X11_sum_34
      rw [x2]
      refine fun _ _ _ _ => ⟨fun z => by omega, fun _ => ⟨x1, x3, by omega, by omega, sp_X11_low ?_⟩⟩
      apply g_X11_sum_53
      rw [y2]
      refine fun _ _ _ _ _ => ⟨y1, y3, by omega, by omega, sp_X11_low ?_⟩
      apply g_X11_sum_63
      rw [a2]
      refine fun _ _ _ _ _ _ v6 e6 => ⟨a1, a3, by omega, by omega, fun μ1 m1 c1 ec n1 en => ?_⟩
      rw [hx n (by omega), hy n (by omega)] at e6
      have e6' : v6 = c + (μ0 px n % 4294967296 + μ0 py n % 4294967296) := by
        rw [e6]; unfold w64; omega
      have en' : n1 = ((n + 1 : Nat) : Int) := by rw [en, w32_id (by unfold i32; omega)]; omega
      rw [ushr64_32] at ec
      have ec' : c1 = v6 / 4294967296 := by omega
      rw [en']
      refine ih (n + 1) c1 μ1 (by omega) ?_ (by omega) (by omega) ?_ ?_ ?_ <;> rw [m1]
      · exact hE.trans Exc.st
      · rw [pw]
        unfold bs'
        rw [bs_st, sx_same]
        have e1 : w32 v6 % 4294967296 = v6 % 4294967296 := by unfold w32; omega
        have e2 : v6 = v6 % 4294967296 + c1 * 4294967296 := by omega
        rw [e1]
        generalize (4294967296 : Int) ^ n = P at *
        have : v6 % 4294967296 * P + c1 * (P * 4294967296) = (v6 % 4294967296 + c1 * 4294967296) * P := by grind
        rw [Int.add_assoc, this, ← e2, e6']
        grind
      · intro j hj
        exact keep_above hx j (Int.le_trans (Int.le_of_eq (Int.natCast_succ n).symm) hj)
      · intro j hj
        exact keep_above hy j (Int.le_trans (Int.le_of_eq (Int.natCast_succ n).symm) hj)
  intro n c μ hn
  exact main (12 - n) n c μ (by omega)
