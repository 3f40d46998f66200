theorem md (x : Int) : 0 ≤ x % 4294967296 ∧ x % 4294967296 < 4294967296 := by omega
theorem pr_in {Q X : m_Po} {ε : m_E} {a o x px y py : Int} (A : bg ε a o) (PX : bg ε x px) (PY : bg ε y py) (hox : px ≠ o) (hoy : py ≠ o) {i : Nat} (hi : i < 12) {μ0 : m_M}
    (h : ∀ μ' c, Exc o μ0 μ' → mg μ' o + c * PB 12 = mg μ0 o + (μ0 px i % 4294967296) * PB i * bs' (μ0 py) (12 - i) → G cd_X11_product Q X 133 [(0, (2, a)), (1, (2, x)), (2, (2, y)), (3, (0, i))] [] ε μ') :
    ∀ (d k : Nat) (c : Int) (μ : m_M), i + k + d = 12 → Exc o μ0 μ → 0 ≤ c → c ≤ 4294967295 → EQ (mg μ o + c * PB (i + k)) (mg μ0 o + (μ0 px i % 4294967296) * PB i * bs' (μ0 py) k) →
    G cd_X11_product Q X 47 [(0, (2, a)), (1, (2, x)), (2, (2, y)), (3, (0, i)), (4, (1, c)), (6, (0, k))] [] ε μ := by
  obtain ⟨a1, a2, a3, a4, a5⟩ := A
  obtain ⟨x1, x2, x3, x4, x5⟩ := PX
  obtain ⟨y1, y2, y3, y4, y5⟩ := PY
  intro d
  induction d with
  | zero =>
    intro k c μ hd hE hc0 hc1 hs
    have e12 : i + k = 12 := by omega
    have ek : 12 - i = k := by omega
    have hN : ¬ (i : Int) + k < 12 := by omega
    have ew : w32 ((i : Int) + k) = i + k := w32_id (by unfold i32; omega)
    apply g_X11_product_47
    rw [ew]
    refine fun _ _ _ _ => ⟨fun _ => h μ c hE ?_, fun z => absurd z hN⟩
    have hs : mg μ o + c * PB (i + k) = mg μ0 o + (μ0 px i % 4294967296) * PB i * bs' (μ0 py) k := hs
    rw [ek, ← hs, e12]
  | succ d ih =>
    intro k c μ hd hE hc0 hc1 hs
    have hI : (0 : Int) ≤ i ∧ (i : Int) < ln ε px := by rw [x4]; omega
    have hK : (0 : Int) ≤ k ∧ (k : Int) < ln ε py := by rw [y4]; omega
    have hO : (0 : Int) ≤ (i : Int) + k ∧ (i : Int) + k < ln ε o := by rw [a4]; omega
    have hN : ¬ (12 : Int) ≤ (i : Int) + k := by omega
    have hk1 : i32 ((k : Int) + 1) := by unfold i32; omega
    have hk2 : (k : Int) + 1 = ((k + 1 : Nat) : Int) := by omega
    have hd' : i + (k + 1) + d = 12 := by omega
    have hlt : i + k < 12 := by omega
    have ew : w32 ((i : Int) + k) = i + k := w32_id (by unfold i32; omega)
    apply g_X11_product_47
    rw [ew, x2]
    refine fun _ _ _ _ => ⟨fun z => absurd z hN, fun _ => ⟨x1, x3, hI.1, hI.2, sp_X11_low ?_⟩⟩
    apply g_X11_product_65
    rw [y2]
    refine fun _ _ _ _ _ => ⟨y1, y3, hK.1, hK.2, sp_X11_low ?_⟩
    apply g_X11_product_75
    rw [a2, ew]
    refine fun _ _ _ _ _ _ v7 e7 => ⟨a1, a3, hO.1, hO.2, sp_X11_low ?_⟩
    apply g_X11_product_90
    refine fun _ _ _ _ _ _ => sp_X11_low ?_
    apply g_X11_product_96
    rw [a2, ew]
    refine fun _ _ _ _ _ _ _ v9 e9 => ⟨a1, a3, hO.1, hO.2, fun μ1 m1 c1 ec k1 ek => ?_⟩
    clear ew
    rw [hE px _ hox, hE py _ hoy] at e7
    have st1 := prod_step (u := μ0 px i % 4294967296) (w := μ0 py k % 4294967296) (f := μ o (i + k) % 4294967296) (c := c) (md _) (md _) (md _) ⟨hc0, hc1⟩ e7 e9 ec
    have ek' : k1 = ((k + 1 : Nat) : Int) := by rw [ek, w32_id hk1, hk2]
    rw [ek']
    refine ih (k + 1) c1 μ1 hd' ?_ st1.1 st1.2.1 ?_
    · rw [m1]; exact hE.trans Exc.st
    · have em : mg μ1 o = mg μ o + (w32 v9 % 4294967296 - μ o (i + k) % 4294967296) * PB (i + k) := by
        rw [m1]
        have := bs_st_at (μ := μ) (o := o) (v := w32 v9) (i + k) 12 hlt
        rw [Int.natCast_add] at this
        exact this
      have hs : mg μ o + c * PB (i + k) = mg μ0 o + (μ0 px i % 4294967296) * PB i * bs' (μ0 py) k := hs
      show mg μ1 o + c1 * PB (i + (k + 1)) = mg μ0 o + (μ0 px i % 4294967296) * PB i * bs' (μ0 py) (k + 1)
      have e3 := st1.2.2
      clear e7 e9 ec ek ek' st1 m1 hI hK hO hN hk1 hk2 hd' hlt
      rw [em, show i + (k + 1) = (i + k) + 1 from rfl, PB_succ, bs_succ, PB_add]
      rw [PB_add] at hs
      grind
theorem pr_fin {M T P Z : Int} (h0 : 0 ≤ M) (h1 : M < P) (h2 : 0 ≤ Z) (h3 : Z < P) (e : M + T * P = Z) : M = Z := by
  have : T = 0 := by
    rcases Int.lt_trichotomy T 0 with q | q | q
    · have := Int.mul_le_mul_of_nonneg_right (show T ≤ -1 by omega) (show 0 ≤ P by omega)
      omega
    · exact q
    · have := Int.mul_le_mul_of_nonneg_right (show 1 ≤ T by omega) (show 0 ≤ P by omega)
      omega
  rw [this] at e
  omega
theorem pr_out {Q X : m_Po} {ε : m_E} {a o x px y py : Int} (A : bg ε a o) (PX : bg ε x px) (PY : bg ε y py) (hox : px ≠ o) (hoy : py ≠ o) {μ0 : m_M} (hb : mg μ0 px * mg μ0 py < PB 12)
    (h : ∀ μ' l, Exc o μ0 μ' → mg μ' o = mg μ0 px * mg μ0 py → l = (if μ' x 1 = μ' y 1 then 0 else 1) → Q 0 ε (st μ' a 1 l)) :
    ∀ (d i : Nat) (μ : m_M), i + d = 12 → Exc o μ0 μ → (∃ t, mg μ o + t * PB 12 = bs' (μ0 px) i * mg μ0 py) → G cd_X11_product Q X 23 [(0, (2, a)), (1, (2, x)), (2, (2, y)), (3, (0, i))] [] ε μ := by
  have A' := A
  have PX' := PX
  have PY' := PY
  obtain ⟨a1, a2, a3, a4, a5⟩ := A
  obtain ⟨x1, x2, x3, x4, x5⟩ := PX
  obtain ⟨y1, y2, y3, y4, y5⟩ := PY
  intro d
  induction d with
  | zero =>
    intro i μ hd hE hs
    have hi : i = 12 := by omega
    subst hi
    apply g_X11_product_23
    refine fun _ _ => ⟨fun _ => ⟨x1, y1, fun t et => ⟨a1, by rw [et]; split <;> omega, fun μ1 m1 => ?_⟩⟩, fun z => absurd z (by decide)⟩
    rw [m1]
    obtain ⟨t', ht⟩ := hs
    refine h μ t hE ?_ et
    have r1 := bs_rng (μ o) 12
    exact pr_fin r1.1 r1.2 (Int.mul_nonneg (bs_rng (μ0 px) 12).1 (bs_rng (μ0 py) 12).1) hb ht
  | succ d ih =>
    intro i μ hd hE hs
    obtain ⟨t', ht⟩ := hs
    have nxt : ∀ μ', Exc o μ0 μ' → (∃ t, mg μ' o + t * PB 12 = bs' (μ0 px) (i + 1) * mg μ0 py) → G cd_X11_product Q X 133 [(0, (2, a)), (1, (2, x)), (2, (2, y)), (3, (0, i))] [] ε μ' := by
      intro μ' hE' hs'
      apply g_X11_product_133
      refine fun _ _ v3 e3 => ?_
      have e3' : v3 = ((i + 1 : Nat) : Int) := by rw [e3, w32_id (by unfold i32; omega)]; omega
      rw [e3']
      exact ih (i + 1) μ' (by omega) hE' hs'
    apply g_X11_product_23
    rw [x2]
    refine fun _ _ => ⟨fun z => by omega, fun _ => ⟨x1, x3, by omega, by omega, fun _ v4 e4 v6 e6 => ?_, fun c => ?_⟩⟩
    · rw [e4, e6]
      refine pr_in A' PX' PY' hox hoy (i := i) (by omega) (μ0 := μ) (fun μ' c' hE' hs' => nxt μ' (hE.trans hE') ?_) (12 - i) 0 0 μ (by omega) Exc.rf (by decide) (by decide) (by unfold EQ; simp [bs'])
      obtain ⟨r, hr⟩ := bs_split (μ0 py) (12 - i) i
      rw [show 12 - i + i = 12 by omega] at hr
      have ey : bs' (μ py) (12 - i) = bs' (μ0 py) (12 - i) := bs_congr _ (fun k _ _ => by rw [hE py _ hoy])
      rw [hE px _ hox, ey] at hs'
      have ep : PB (12 - i) * PB i = PB 12 := by rw [← PB_add]; congr 1; omega
      refine ⟨t' + c' + (μ0 px i % 4294967296) * r, ?_⟩
      rw [bs_succ]
      unfold mg at *
      generalize bs' (μ0 py) 12 = Y at *
      generalize bs' (μ0 py) (12 - i) = Y' at *
      grind
    · refine nxt μ hE ⟨t', ?_⟩
      rw [bs_succ]
      rw [hE px _ hox] at c
      rw [c, ht]
      simp
theorem pr_clear {Q X : m_Po} {ε : m_E} {a o x y : Int} (A : bg ε a o) {μ0 : m_M} (h : ∀ μ', Exc o μ0 μ' → mg μ' o = 0 → G cd_X11_product Q X 23 [(0, (2, a)), (1, (2, x)), (2, (2, y)), (3, (0, 0))] [] ε μ') :
    ∀ (d : Nat) (k : Int) (μ : m_M), k + d = 12 → 0 ≤ k → Exc o μ0 μ → (∀ j, 0 ≤ j → j < k → μ o j = 0) → G cd_X11_product Q X 2 [(0, (2, a)), (1, (2, x)), (2, (2, y)), (3, (0, k))] [] ε μ := by
  obtain ⟨a1, a2, a3, a4, a5⟩ := A
  intro d
  induction d with
  | zero =>
    intro k μ hd h0 hE hz
    apply g_X11_product_2
    refine fun _ _ => ⟨fun _ v3 e3 => ?_, fun z => by omega⟩
    rw [e3]
    exact h μ hE (bs_zero 12 (fun j h1 h2 => hz j h1 (by omega)))
  | succ d ih =>
    intro k μ hd h0 hE hz
    apply g_X11_product_2
    rw [a2]
    refine fun _ _ => ⟨fun z => by omega, fun _ => ⟨a1, a3, h0, by omega, fun μ1 m1 k1 ek => ?_⟩⟩
    have ek' : k1 = k + 1 := by rw [ek, w32_id (by unfold i32; omega)]
    rw [ek']
    refine ih (k + 1) μ1 (by omega) (by omega) ?_ ?_ <;> rw [m1]
    · exact hE.trans Exc.st
    · intro j h1 h2
      by_cases c : j = k
      · rw [c, sx_same]
      · rw [sx_oi c]; exact hz j h1 (by omega)
theorem bv_mul {lx ly l gx gy : Int} (hx : lx = 0 ∨ lx = 1) (hy : ly = 0 ∨ ly = 1) (el : l = if lx = ly then 0 else 1) : (if l = 0 then gx * gy else -(gx * gy)) = (if lx = 0 then gx else -gx) * (if ly = 0 then gy else -gy) := by
  rcases hx with rfl | rfl <;> rcases hy with rfl | rfl <;> simp at el <;> subst el <;> simp <;> grind
theorem kd_ne {ε : m_E} {a b k l : Int} (ha : kd ε a = k) (hb : kd ε b = l) (h : k ≠ l) : a ≠ b := fun e => h (by rw [← ha, ← hb, e])
theorem sp_X11_product {Q X : m_Po} {ε : m_E} {μ : m_M} {a o x px y py : Int} (A : bg ε a o) (PX : bg ε x px) (PY : bg ε y py) (hox : px ≠ o) (hoy : py ≠ o) (hx : μ x 1 = 0 ∨ μ x 1 = 1) (hy : μ y 1 = 0 ∨ μ y 1 = 1) (hb : mg μ px * mg μ py < PB 12)
    (h : ∀ μ', Ex2 a o μ μ' → (μ' a 1 = 0 ∨ μ' a 1 = 1) → bv μ' a o = bv μ x px * bv μ y py → Q 0 ε μ') : o_X11_product [(2, a), (2, x), (2, y)] ε μ Q X := by
  have nx : x ≠ o := kd_ne PX.1 A.2.2.1 (by decide)
  have ny : y ≠ o := kd_ne PY.1 A.2.2.1 (by decide)
  apply e_X11_product
  intro _ v3 e3
  refine pr_clear A (μ0 := μ) (fun μ' hE hz => ?_) 12 v3 μ (by omega) (by omega) Exc.rf (fun j h1 h2 => by omega)
  have ex : mg μ' px = mg μ px := bs_congr 12 (fun k _ _ => by rw [hE px _ hox])
  have ey : mg μ' py = mg μ py := bs_congr 12 (fun k _ _ => by rw [hE py _ hoy])
  refine pr_out A PX PY hox hoy (μ0 := μ') (by rw [ex, ey]; exact hb) (fun μ2 l hE2 hm hl => ?_) 12 0 μ' (by decide) Exc.rf ⟨0, by rw [hz]; simp [bs']⟩
  rw [hE2 x _ nx, hE2 y _ ny, hE x _ nx, hE y _ ny] at hl
  rw [ex, ey] at hm
  refine h _ ((Ex2.of (hE.trans hE2)).trans Ex2.st1) (by rw [sx_same, hl]; split <;> omega) ?_
  unfold bv
  rw [sx_same, mg_st A.2.2.2.2, hm]
  exact bv_mul hx hy hl
