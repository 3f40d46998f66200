/-! ===== Never: clash ===== -/
theorem sm_bd {f : Int → Int} {k : Nat} : ∀ n : Nat, (∀ t : Int, 0 ≤ t → t < n → bd (f t) k) → bd (sm f n) (k + n) := by
  intro n
  induction n with
  | zero => intro _; show bd 0 _; unfold bd; exact Nat.pow_pos (by decide)
  | succ n ih =>
    intro h
    exact bd_add (ih (fun t t0 t1 => h t t0 (by omega))) (bd_mono (h n (by omega) (by omega)) (Nat.le_add_right k n))
theorem fl_loop {Q X : m_Po} {ε : m_E} {N B nb : Int} {n : Nat} (L : LN ε N) (LB' : LB ε B) (hN : N = B + 11) (n4 : n ≤ 4) (n48 : nb ≤ 48) {a ix c : Int → Int} {μ0 : m_M} (ea : ∀ t : Int, 0 ≤ t → t < n → μ0 (N + 2) t = a t) (ei : ∀ t : Int, 0 ≤ t → t < n → μ0 (N + 1) t = ix t) (ri : ∀ t : Int, 0 ≤ t → t < n → 0 ≤ ix t ∧ ix t < nb) (hc : ∀ q, μ0 (B + 4) q = c q)
    (hh : ∀ μ', Exc (N + 4) μ0 μ' → W2 (μ' (N + 4) 0) (μ' (N + 4) 1) = w128 (sm (fun t => a t * c (ix t)) n) → Q 0 ε μ') :
    ∀ (d t : Nat) (μ : m_M), t + d = n → Exc (N + 4) μ0 μ → W2 (μ (N + 4) 0) (μ (N + 4) 1) = w128 (sm (fun t => a t * c (ix t)) t) → G cd_X3_findLeft Q X 9 [(0, (2, N)), (1, (2, B)), (2, (0, n)), (3, (0, t))] [] ε μ := by
  intro d
  induction d with
  | zero =>
    intro t μ hd f hw
    have ht : t = n := by omega
    subst ht
    have tn : ¬ (t : Int) < t := by omega
    apply g_X3_findLeft_9
    exact fun _ _ _ => ⟨fun _ => hh μ f hw, fun z => absurd z tn⟩
  | succ d ih =>
    intro t μ hd f hw
    have t0 : (0 : Int) ≤ t := by omega
    have t1 : (t : Int) < n := by omega
    have t4 : (t : Int) < 4 := by omega
    have tN : ¬ (n : Int) ≤ t := by omega
    have t4' : ¬ (4 : Int) ≤ t := by omega
    have tm : t < 2147483647 := by omega
    have hd' : t + 1 + d = n := by omega
    have x1 : μ (N + 2) t = a t := (f _ _ (by omega)).trans (ea t t0 t1)
    have x2 : μ (N + 1) t = ix t := (f _ _ (by omega)).trans (ei t t0 t1)
    have x3 : ∀ q, μ (B + 4) q = c q := fun q => (f _ _ (by omega)).trans (hc q)
    have rr := ri t t0 t1
    have r48 : ix t < 48 := by omega
    apply g_X3_findLeft_9
    rw [L.f0.1, L.f1.1, L.f3.1, LB'.f3.1, x1, x2, x3]
    refine fun _ _ _ => ⟨fun z => absurd z tN, fun _ => ⟨fun z => absurd z t4', fun _ => ⟨L.k, L.f1.2.1, t0, by rw [L.f1.2.2]; exact t4, LB'.k, L.f0.2.1, by rw [L.f0.2.2]; exact t4, LB'.f3.2.1, rr.1, by rw [LB'.f3.2.2]; exact r48, L.f3.2.1, sp_X9_addProduct L.f3.2.1 (fun μ1 f1 w1 => ?_)⟩⟩⟩
    apply g_X3_findLeft_43
    refine fun _ _ _ v3 e3 => ?_
    rw [w32_succ tm e3]
    refine ih (t + 1) μ1 hd' (f.trans f1) ?_
    rw [w1, hw, w128_add]
    rfl
theorem sp_X3_findLeft {Q X : m_Po} {ε : m_E} {μ : m_M} {N B nb : Int} {n : Nat} (L : LN ε N) (LB' : LB ε B) (hN : N = B + 11) (n4 : n ≤ 4) (n48 : nb ≤ 48) {a ix c : Int → Int} (ea : ∀ t : Int, 0 ≤ t → t < n → μ (N + 2) t = a t) (ei : ∀ t : Int, 0 ≤ t → t < n → μ (N + 1) t = ix t) (ri : ∀ t : Int, 0 ≤ t → t < n → 0 ≤ ix t ∧ ix t < nb) (hc : ∀ q, μ (B + 4) q = c q) (ba : ∀ t : Int, 0 ≤ t → t < n → bd (a t) 63) (bc : ∀ t : Int, 0 ≤ t → t < n → bd (c (ix t)) 44)
    (hh : ∀ μ', Exc (N + 4) μ μ' → W2 (μ' (N + 4) 0) (μ' (N + 4) 1) = sm (fun t => a t * c (ix t)) n → Q 0 ε μ') : o_X3_findLeft [(2, N), (2, B), (0, n)] ε μ Q X := by
  have bb : bd (sm (fun t => a t * c (ix t)) n) 126 := bd_mono (sm_bd n (fun t t0 t1 => bd_mul (ba t t0 t1) (bc t t0 t1))) (by omega)
  apply e_X3_findLeft
  rw [L.f3.1]
  refine fun _ _ => ⟨L.k, L.f3.2.1, sp_X9_clear L.f3.2.1 (fun μ1 f1 z0 z1 => ?_)⟩
  apply g_X3_findLeft_7
  refine fun _ _ v3 e3 => ?_
  rw [e3]
  refine fl_loop L LB' hN n4 n48 ea ei ri hc (fun μ' f w => hh μ' f (by rw [w, w128_bd bb])) n 0 μ1 (by omega) f1 ?_
  rw [z0, z1]; rfl
theorem gcd_if {x y : Int} (h : y ≠ 0) : (if 1 ≤ ((Int.gcd x y : Nat) : Int) then ((Int.gcd x y : Nat) : Int) else 1) = ((Int.gcd x y : Nat) : Int) := by
  have := gcd_pos_r (a := x) (b := y) h
  rw [if_pos (by omega)]
theorem cl_gcd {Q X : m_Po} {ε : m_E} {μ : m_M} {N B : Int} {n : Nat} (L : LN ε N) (n4 : n ≤ 4) {a : Int → Int} (ea : ∀ t : Int, 0 ≤ t → t < n → μ (N + 2) t = a t) (pa : ∀ t : Int, 0 ≤ t → t < n → 0 < a t) (ba : ∀ t : Int, 0 ≤ t → t < n → bd (a t) 63)
    (nxt : G cd_X3_clash Q X 65 [(0, (2, N)), (1, (2, B)), (2, (0, n)), (3, (1, gd a n)), (5, (0, 0))] [] ε μ) :
    ∀ (d t : Nat), t + d = n → G cd_X3_clash Q X 38 [(0, (2, N)), (1, (2, B)), (2, (0, n)), (3, (1, gd a t)), (5, (0, t))] [] ε μ := by
  intro d
  induction d with
  | zero =>
    intro t hd
    have ht : t = n := by omega
    subst ht
    have tn : ¬ (t : Int) < t := by omega
    apply g_X3_clash_38
    refine fun _ _ _ _ => ⟨fun _ v5 e5 => ?_, fun z => absurd z tn⟩
    rw [e5]; exact nxt
  | succ d ih =>
    intro t hd
    have t0 : (0 : Int) ≤ t := by omega
    have t1 : (t : Int) < n := by omega
    have t4 : (t : Int) < 4 := by omega
    have tN : ¬ (n : Int) ≤ t := by omega
    have tm : t < 2147483647 := by omega
    have hd' : t + 1 + d = n := by omega
    have e := ea t t0 t1
    have p := pa t t0 t1
    have gg : ((Int.gcd ((gd a t : Nat) : Int) (a t) : Nat) : Int) = ((gd a (t + 1) : Nat) : Int) := by
      unfold Int.gcd
      simp [gd]
    apply g_X3_clash_38
    rw [L.f1.1, e]
    refine fun _ _ _ _ => ⟨fun z => absurd z tN, fun _ => ⟨L.k, L.f1.2.1, t0, by rw [L.f1.2.2]; exact t4, sp_X10_commonDivisor (by omega) (by omega) ?_⟩⟩
    rw [gcd_if (by omega), gg]
    apply g_X3_clash_55
    refine fun _ _ _ _ v3 e3 v5 e5 => ?_
    rw [e3, w32_succ tm e5]
    exact ih (t + 1) hd'
theorem cl_div {Q X : m_Po} {ε : m_E} {N B : Int} {n : Nat} (L : LN ε N) (n4 : n ≤ 4) {a : Int → Int} {g : Nat} (g0 : 0 < g) (pa : ∀ t : Int, 0 ≤ t → t < n → 0 < a t) (ba : ∀ t : Int, 0 ≤ t → t < n → bd (a t) 63) {μ0 : m_M}
    (nxt : ∀ μ', Exc (N + 2) μ0 μ' → (∀ t : Int, 0 ≤ t → t < n → μ' (N + 2) t = a t / g) → o_X3_findLeft [(2, N), (2, B), (0, n)] ε μ' (fun z ε_1 μ_1 => G cd_X3_clash Q X 115 [] [] ε_1 μ_1) m_F) :
    ∀ (d t : Nat) (μ : m_M), t + d = n → Exc (N + 2) μ0 μ → (∀ r : Int, 0 ≤ r → r < t → μ (N + 2) r = a r / g) → (∀ r : Int, (t : Int) ≤ r → r < n → μ (N + 2) r = a r) → G cd_X3_clash Q X 65 [(0, (2, N)), (1, (2, B)), (2, (0, n)), (3, (1, g)), (5, (0, t))] [] ε μ := by
  intro d
  induction d with
  | zero =>
    intro t μ hd f A C
    have ht : t = n := by omega
    subst ht
    have tn : ¬ (t : Int) < t := by omega
    apply g_X3_clash_65
    exact fun _ _ _ _ => ⟨fun _ => ⟨L.k, nxt μ f A⟩, fun z => absurd z tn⟩
  | succ d ih =>
    intro t μ hd f A C
    have t0 : (0 : Int) ≤ t := by omega
    have t1 : (t : Int) < n := by omega
    have t4 : (t : Int) < 4 := by omega
    have tN : ¬ (n : Int) ≤ t := by omega
    have tm : t < 2147483647 := by omega
    have hd' : t + 1 + d = n := by omega
    have e := C t (Int.le_refl _) t1
    have p := pa t t0 t1
    have g0' : (g : Int) ≠ 0 := by omega
    have dv : w64 (Int.tdiv (a t) g) = a t / g := by
      rw [Int.tdiv_eq_ediv_of_nonneg (by omega)]
      refine w64_bd (bd_le (ba t t0 t1) ?_)
      have := fl_rng (p := a t) (q := g) (by omega)
      omega
    apply g_X3_clash_65
    rw [L.f1.1, e, if_neg g0', dv]
    clear dv
    refine fun _ _ _ _ => ⟨fun z => absurd z tN, fun _ => ⟨L.k, ⟨fun _ => ⟨L.f1.2.1, t0, by rw [L.f1.2.2]; exact t4, g0'⟩, fun z => absurd z g0'⟩, fun x ex => ⟨L.f1.2.1, t0, by rw [L.f1.2.2]; exact t4, fun μ1 m1 v5 e5 => ?_⟩⟩⟩
    rw [w32_succ tm e5]
    clear e5
    refine ih (t + 1) μ1 hd' (f.trans (by rw [m1]; exact Exc.st)) (fun r r0 r1 => ?_) (fun r r0 r1 => ?_)
    · by_cases q : r = t
      · rw [q, m1, sx_same, ex]
      · rw [m1, sx_oi q]; exact A r r0 (by omega)
    · rw [m1, sx_oi (by omega)]; exact C r (by omega) r1
theorem sp_X3_clash {Q X : m_Po} {ε : m_E} {μ : m_M} {N B nb : Int} {n : Nat} (L : LN ε N) (LB' : LB ε B) (hN : N = B + 11) (n1 : 1 ≤ n) (n4 : n ≤ 4) (n48 : nb ≤ 48) {a ix c : Int → Int} (ea : ∀ t : Int, 0 ≤ t → t < n → μ (N + 2) t = a t) (ei : ∀ t : Int, 0 ≤ t → t < n → μ (N + 1) t = ix t) (ri : ∀ t : Int, 0 ≤ t → t < n → 0 ≤ ix t ∧ ix t < nb) (hc : ∀ q, μ (B + 4) q = c q) (ba : ∀ t : Int, 0 ≤ t → t < n → bd (a t) 63) (bc : ∀ t : Int, 0 ≤ t → t < n → bd (c (ix t)) 44)
    (h1 : ∀ μ', Ex2 (N + 2) (N + 4) μ μ' → SS a n → sm (fun t => ((a t).natAbs : Int) * c (ix t)) n < 0 → (∀ t : Int, 0 ≤ t → t < n → μ' (N + 2) t = ((a t).natAbs : Int) / gd a n) → W2 (μ' (N + 4) 0) (μ' (N + 4) 1) = sm (fun t => ((a t).natAbs : Int) / gd a n * c (ix t)) n → Q 1 ε μ')
    (h0 : ∀ μ', Ex2 (N + 2) (N + 4) μ μ' → ¬ (SS a n ∧ sm (fun t => ((a t).natAbs : Int) * c (ix t)) n < 0) → Q 0 ε μ') : o_X3_clash [(2, N), (2, B), (0, n)] ε μ Q X := by
  have nn4 : ¬ (4 : Int) < n := by omega
  have bA : ∀ t : Int, 0 ≤ t → t < (n : Int) → bd ((a t).natAbs : Int) 63 := fun t t0 t1 => bd_le (ba t t0 t1) (by omega)
  apply e_X3_clash
  refine fun _ _ => ⟨fun z => absurd z nn4, fun _ => ⟨L.k, sp_X3_turnAboveZero L n1 n4 ea ba (fun μ1 f1 S A => ?_) (fun μ1 f1 S => ?_)⟩⟩
  · have pA : ∀ t : Int, 0 ≤ t → t < (n : Int) → 0 < ((a t).natAbs : Int) := by
      intro t t0 t1
      rcases S with S | S
      · have := S t t0 t1; omega
      · have := S t t0 t1; omega
    have i1 : ∀ t : Int, 0 ≤ t → t < (n : Int) → μ1 (N + 1) t = ix t := fun t t0 t1 => (f1 _ _ (by omega)).trans (ei t t0 t1)
    have c1 : ∀ q, μ1 (B + 4) q = c q := fun q => (f1 _ _ (by omega)).trans (hc q)
    apply g_X3_clash_10
    refine fun _ _ _ => ⟨fun _ => ⟨L.k, sp_X3_findLeft L LB' hN n4 n48 (a := fun t => ((a t).natAbs : Int)) A i1 ri c1 bA bc (fun μ2 f2 w2 => ?_)⟩, fun z => absurd z (by decide)⟩
    have F2 : Ex2 (N + 2) (N + 4) μ μ2 := fun b j x1 x2 => (f2 b j x2).trans (f1 b j x1)
    apply g_X3_clash_21
    rw [L.f3.1]
    refine fun _ _ => ⟨L.k, L.f3.2.1, sp_X9_sign L.f3.2.1 ?_⟩
    rw [w2]
    apply g_X3_clash_28
    refine fun _ _ _ => ⟨fun q v3 e3 v5 e5 => ?_, fun q => h0 μ2 F2 (fun z => ?_)⟩
    · have q' := sg_neg' q
      have A2 : ∀ t : Int, 0 ≤ t → t < (n : Int) → μ2 (N + 2) t = ((a t).natAbs : Int) := fun t t0 t1 => (f2 _ _ (by omega)).trans (A t t0 t1)
      have gg : gd (fun t => ((a t).natAbs : Int)) n = gd a n := gd_congr n (fun t _ _ => by simp)
      have g0 : 0 < gd a n := by
        cases n with
        | zero => omega
        | succ k =>
          refine gd_pos k ?_
          have := pA k (by omega) (by omega)
          omega
      rw [e3, e5]
      refine cl_gcd L n4 A2 pA bA ?_ n 0 (by omega)
      rw [gg]
      refine cl_div L n4 g0 pA bA (μ0 := μ2) (fun μ3 f3 A3 => ?_) n 0 μ2 (by omega) Exc.rf (fun r r0 r1 => by omega) (fun r r0 r1 => A2 r r0 r1)
      have i3 : ∀ t : Int, 0 ≤ t → t < (n : Int) → μ3 (N + 1) t = ix t := fun t t0 t1 => (f3 _ _ (by omega)).trans ((f2 _ _ (by omega)).trans (i1 t t0 t1))
      have c3 : ∀ q, μ3 (B + 4) q = c q := fun q => (f3 _ _ (by omega)).trans ((f2 _ _ (by omega)).trans (c1 q))
      refine sp_X3_findLeft L LB' hN n4 n48 (a := fun t => ((a t).natAbs : Int) / gd a n) A3 i3 ri c3 (fun t t0 t1 => bd_le (bA t t0 t1) ?_) bc (fun μ4 f4 w4 => ?_)
      · have r1 := fl_rng (p := ((a t).natAbs : Int)) (q := ((gd a n : Nat) : Int)) (by omega)
        omega
      · apply g_X3_clash_115
        refine fun _ => h1 μ4 (fun b j x1 x2 => (f4 b j x2).trans ((f3 b j x1).trans (F2 b j x1 x2))) S q' (fun t t0 t1 => (f4 _ _ (by omega)).trans (A3 t t0 t1)) w4
    · have := sg_nneg q
      have := z.2
      omega
  · apply g_X3_clash_10
    exact fun _ _ _ => ⟨fun z => absurd rfl z, fun _ => h0 μ1 (fun b j x1 _ => f1 b j x1) (fun z => S z.1)⟩
