/-! ===== Never: signs, sums, common divisors ===== -/
def sm (f : Int → Int) : Nat → Int
  | 0 => 0
  | n + 1 => sm f n + f n
def gd (a : Int → Int) : Nat → Nat
  | 0 => 0
  | n + 1 => Nat.gcd (gd a n) (a n).natAbs
theorem sm_congr {f g : Int → Int} : ∀ n : Nat, (∀ t : Int, 0 ≤ t → t < n → f t = g t) → sm f n = sm g n := by
  intro n
  induction n with
  | zero => intro _; rfl
  | succ n ih =>
    intro h
    show sm f n + f n = sm g n + g n
    rw [ih (fun t t0 t1 => h t t0 (by omega)), h n (by omega) (by omega)]
theorem gd_congr {f g : Int → Int} : ∀ n : Nat, (∀ t : Int, 0 ≤ t → t < n → (f t).natAbs = (g t).natAbs) → gd f n = gd g n := by
  intro n
  induction n with
  | zero => intro _; rfl
  | succ n ih =>
    intro h
    show Nat.gcd (gd f n) _ = Nat.gcd (gd g n) _
    rw [ih (fun t t0 t1 => h t t0 (by omega)), h n (by omega) (by omega)]
theorem gd_pos {a : Int → Int} (n : Nat) (h : a n ≠ 0) : 0 < gd a (n + 1) := Nat.gcd_pos_of_pos_right _ (by omega)
theorem gd_dvd {a : Int → Int} : ∀ (n t : Nat), t < n → gd a n ∣ (a t).natAbs := by
  intro n
  induction n with
  | zero => intro t h; omega
  | succ n ih =>
    intro t h
    show Nat.gcd (gd a n) (a n).natAbs ∣ _
    by_cases q : t = n
    · rw [q]; exact Nat.gcd_dvd_right _ _
    · exact Nat.dvd_trans (Nat.gcd_dvd_left _ _) (ih t (by omega))
theorem sm_mul {f g : Int → Int} {k : Int} : ∀ n : Nat, (∀ t : Int, 0 ≤ t → t < n → f t = k * g t) → sm f n = k * sm g n := by
  intro n
  induction n with
  | zero => intro _; show (0 : Int) = k * 0; omega
  | succ n ih =>
    intro h
    show sm f n + f n = k * (sm g n + g n)
    rw [ih (fun t t0 t1 => h t t0 (by omega)), h n (by omega) (by omega), Int.mul_add]
/-- all weights have one sign -/
def SS (a : Int → Int) (n : Int) : Prop := (∀ t : Int, 0 ≤ t → t < n → 0 < a t) ∨ ∀ t : Int, 0 ≤ t → t < n → a t < 0
theorem sp_X3_pick {Q X : m_Po} {ε : m_E} {μ : m_M} {N k i x : Int} (L : LN ε N) (k0 : 0 ≤ k) (k4 : k < 4) (hh : ∀ μ', Ex2 (N + 1) (N + 2) μ μ' → (∀ t, μ' (N + 1) t = if t = k then i else μ (N + 1) t) → (∀ t, μ' (N + 2) t = if t = k then x else μ (N + 2) t) → Q 0 ε μ') : o_X3_pick [(2, N), (0, k), (0, i), (1, x)] ε μ Q X := by
  have a1 : ¬ k < 0 := by omega
  have a2 : ¬ 4 ≤ k := by omega
  apply e_X3_pick
  simp only [L.k, L.f0.1, L.f0.2.1, L.f0.2.2, L.f1.1, L.f1.2.1, L.f1.2.2, forall_eq, eq_self, true_and, k0, k4, a1, a2, false_implies, true_implies]
  intro _ _ _ _
  refine hh _ (Ex2.st1.trans Ex2.st2) (fun t => ?_) (fun t => ?_)
  · rw [sx_oa (by omega)]
    unfold st
    by_cases q : t = k
    · rw [if_pos ⟨rfl, q⟩, if_pos q]
    · rw [if_neg (fun z => q z.2), if_neg q]
  · unfold st
    by_cases q : t = k
    · rw [if_pos ⟨rfl, q⟩, if_pos q]
    · rw [if_neg (fun z => q z.2), if_neg q, if_neg (by omega)]
theorem sp_X3_cross {Q X : m_Po} {ε : m_E} {μ : m_M} {N B n i j : Int} {h v m c : Int → Int} (L : LN ε N) (LB' : LB ε B) (hN : N = B + 11) (n48 : n ≤ 48) (W : RC μ B n h v m c) (R : RB h v m c n) (hi : 0 ≤ i ∧ i < n) (hj : 0 ≤ j ∧ j < n)
    (hh : ∀ μ', FF N 5 7 μ μ' → μ' N 5 = crH v m i j → μ' N 6 = crV h m i j → μ' N 7 = crM h v i j → Q 0 ε μ') : o_X3_cross [(2, N), (2, B), (0, i), (0, j)] ε μ Q X := by
  obtain ⟨a1, a2, a3, a4⟩ := R i hi.1 hi.2
  obtain ⟨b1, b2, b3, b4⟩ := R j hj.1 hj.2
  have i1 : i < 48 := by omega
  have j1 : j < 48 := by omega
  have n1 : ¬ B + 1 = N := by omega
  have n2 : ¬ B + 2 = N := by omega
  have n3 : ¬ B + 3 = N := by omega
  have hi0 := hi.1
  have hj0 := hj.1
  have s1 := w64_sub (bd_mul a2 b3) (bd_mul a3 b2)
  have s2 := w64_sub (bd_mul a3 b1) (bd_mul a1 b3)
  have s3 := w64_sub (bd_mul a1 b2) (bd_mul a2 b1)
  apply e_X3_cross
  simp only [L.k, LB'.k, LB'.f0.1, LB'.f0.2.1, LB'.f0.2.2, LB'.f1.1, LB'.f1.2.1, LB'.f1.2.2, LB'.f2.1, LB'.f2.2.1, LB'.f2.2.2, forall_eq, eq_self, true_and, st, n1, n2, n3, false_and, if_false, i1, j1, hi0, hj0, W.2.1, W.2.2.1, W.2.2.2.1, s1, s2, s3]
  clear s1 s2 s3
  intro _ _ _
  refine hh _ (((FF.st (by decide) (by decide)).trans (FF.st (by decide) (by decide))).trans (FF.st (by decide) (by decide))) ?_ ?_ ?_
  · rw [sx_oi (by decide), sx_oi (by decide), sx_same]; rfl
  · rw [sx_oi (by decide), sx_same]; rfl
  · rw [sx_same]; rfl
theorem sp_X3_volumeWith {Q X : m_Po} {ε : m_E} {μ : m_M} {N B n i x y z : Int} {h v m c : Int → Int} (L : LN ε N) (LB' : LB ε B) (n48 : n ≤ 48) (W : RC μ B n h v m c) (R : RB h v m c n) (hi : 0 ≤ i ∧ i < n) (e5 : μ N 5 = x) (e6 : μ N 6 = y) (e7 : μ N 7 = z) (bx : bd x 41) (b_y : bd y 41) (bz : bd z 41)
    (hh : Q (x * h i + y * v i + z * m i) ε μ) : o_X3_volumeWith [(2, N), (2, B), (0, i)] ε μ Q X := by
  obtain ⟨a1, a2, a3, a4⟩ := R i hi.1 hi.2
  have i1 : i < 48 := by omega
  have hi0 := hi.1
  have s := w64_sum3 (bd_mul bx a1) (bd_mul b_y a2) (bd_mul bz a3)
  apply e_X3_volumeWith
  simp only [L.k, LB'.k, LB'.f0.1, LB'.f0.2.1, LB'.f0.2.2, LB'.f1.1, LB'.f1.2.1, LB'.f1.2.2, LB'.f2.1, LB'.f2.2.1, LB'.f2.2.2, eq_self, true_and, i1, hi0, W.2.1, W.2.2.1, W.2.2.2.1, e5, e6, e7, s]
  exact fun _ _ => hh
theorem sp_X3_isCrossNothing {Q X : m_Po} {ε : m_E} {μ : m_M} {N : Int} (L : LN ε N) (h1 : μ N 5 = 0 ∧ μ N 6 = 0 ∧ μ N 7 = 0 → Q 1 ε μ) (h0 : ¬ (μ N 5 = 0 ∧ μ N 6 = 0 ∧ μ N 7 = 0) → Q 0 ε μ) : o_X3_isCrossNothing [(2, N)] ε μ Q X := by
  apply e_X3_isCrossNothing
  refine fun _ => ⟨L.k, fun t et => ?_⟩
  rw [et]
  by_cases a : μ N 5 = 0
  · rw [if_pos a]
    by_cases b : μ N 6 = 0
    · rw [if_pos b]
      by_cases c : μ N 7 = 0
      · rw [if_pos c]; exact h1 ⟨a, b, c⟩
      · rw [if_neg c]; exact h0 (fun q => c q.2.2)
    · rw [if_neg b]; exact h0 (fun q => b q.2.1)
  · rw [if_neg a]; exact h0 (fun q => a q.1)
theorem ta_loop {Q X : m_Po} {ε : m_E} {N : Int} {n : Nat} (L : LN ε N) (n1 : 1 ≤ n) (n4 : n ≤ 4) {a : Int → Int} (ba : ∀ t : Int, 0 ≤ t → t < n → bd (a t) 63) {μ0 : m_M}
    (h1 : ∀ μ', Exc (N + 2) μ0 μ' → SS a n → (∀ t : Int, 0 ≤ t → t < n → μ' (N + 2) t = (a t).natAbs) → Q 1 ε μ') (h0 : ∀ μ', Exc (N + 2) μ0 μ' → ¬ SS a n → Q 0 ε μ') {s : Int} (hs : s = if a 0 ≤ 0 then 0 else 1) :
    ∀ (d t : Nat) (μ : m_M), t + d = n → Exc (N + 2) μ0 μ → (∀ r : Int, 0 ≤ r → r < t → μ (N + 2) r = (a r).natAbs ∧ a r ≠ 0 ∧ (if a r ≤ 0 then (0 : Int) else 1) = s) → (∀ r : Int, (t : Int) ≤ r → r < n → μ (N + 2) r = a r) → G cd_X3_turnAboveZero Q X 19 [(0, (2, N)), (1, (0, n)), (2, (0, s)), (3, (0, t))] [] ε μ := by
  intro d
  induction d with
  | zero =>
    intro t μ hd f A B
    have ht : t = n := by omega
    subst ht
    have tn : ¬ (t : Int) < t := by omega
    apply g_X3_turnAboveZero_19
    refine fun _ _ _ _ => ⟨fun _ => h1 μ f ?_ (fun r r0 r1 => (A r r0 r1).1), fun z => absurd z tn⟩
    by_cases q : a 0 ≤ 0
    · rw [if_pos q] at hs
      refine Or.inr (fun r r0 r1 => ?_)
      obtain ⟨_, x2, x3⟩ := A r r0 r1
      rw [hs] at x3
      by_cases y : a r ≤ 0
      · omega
      · rw [if_neg y] at x3; exact absurd x3 (by decide)
    · rw [if_neg q] at hs
      refine Or.inl (fun r r0 r1 => ?_)
      obtain ⟨_, x2, x3⟩ := A r r0 r1
      rw [hs] at x3
      by_cases y : a r ≤ 0
      · rw [if_pos y] at x3; exact absurd x3 (by decide)
      · omega
  | succ d ih =>
    intro t μ hd f A B
    have t0 : (0 : Int) ≤ t := by omega
    have t1 : (t : Int) < n := by omega
    have t4 : (t : Int) < 4 := by omega
    have tN : ¬ (n : Int) ≤ t := by omega
    have t4' : ¬ (4 : Int) ≤ t := by omega
    have tm : t < 2147483647 := by omega
    have hd' : t + 1 + d = n := by omega
    have e := B t (Int.le_refl _) t1
    have bt := ba t t0 t1
    have nw : w64 (-(a t)) = -(a t) := w64_bd (bd_neg bt)
    have bad : a t = 0 ∨ (if a t ≤ 0 then (0 : Int) else 1) ≠ s → ¬ SS a n := by
      intro q S
      rcases S with S | S
      · have u := S t t0 t1
        have w := S 0 (by omega) (by omega)
        rcases q with q | q
        · omega
        · rw [if_neg (by omega), hs, if_neg (by omega)] at q; exact q rfl
      · have u := S t t0 t1
        have w := S 0 (by omega) (by omega)
        rcases q with q | q
        · omega
        · rw [if_pos (by omega), hs, if_pos (by omega)] at q; exact q rfl
    apply g_X3_turnAboveZero_19
    rw [L.f1.1, e]
    refine fun _ _ _ _ => ⟨fun z => absurd z tN, fun _ => ⟨fun z => absurd z t4', fun _ => ⟨L.k, L.f1.2.1, t0, by rw [L.f1.2.2]; exact t4, fun z => h0 μ f (bad (Or.inl z)), fun z x ex => ⟨fun y => ⟨L.k, L.f1.2.1, t0, by rw [L.f1.2.2]; exact t4, fun μ1 m1 v3 e3 => ?_⟩, fun y => h0 μ f (bad (Or.inr (by rw [← ex]; exact y)))⟩⟩⟩⟩
    have ab' : (if 0 < a t then a t else w64 (-(a t))) = (a t).natAbs := by
      rw [nw]; split <;> omega
    rw [ab'] at m1
    rw [w32_succ tm e3]
    clear e3 nw ab'
    refine ih (t + 1) μ1 hd' (f.trans (by rw [m1]; exact Exc.st)) (fun r r0 r1 => ?_) (fun r r0 r1 => ?_)
    · by_cases q : r = t
      · rw [q, m1, sx_same]
        exact ⟨rfl, z, by rw [← ex]; exact y⟩
      · rw [m1, sx_oi q]
        exact A r r0 (by omega)
    · rw [m1, sx_oi (by omega)]
      exact B r (by omega) r1
theorem sp_X3_turnAboveZero {Q X : m_Po} {ε : m_E} {μ : m_M} {N : Int} {n : Nat} (L : LN ε N) (n1 : 1 ≤ n) (n4 : n ≤ 4) {a : Int → Int} (ea : ∀ t : Int, 0 ≤ t → t < n → μ (N + 2) t = a t) (ba : ∀ t : Int, 0 ≤ t → t < n → bd (a t) 63)
    (h1 : ∀ μ', Exc (N + 2) μ μ' → SS a n → (∀ t : Int, 0 ≤ t → t < n → μ' (N + 2) t = (a t).natAbs) → Q 1 ε μ') (h0 : ∀ μ', Exc (N + 2) μ μ' → ¬ SS a n → Q 0 ε μ') : o_X3_turnAboveZero [(2, N), (0, n)] ε μ Q X := by
  apply e_X3_turnAboveZero
  rw [L.f1.1, ea 0 (by decide) (by omega)]
  refine fun _ _ => ⟨L.k, L.f1.2.1, by rw [L.f1.2.2]; decide, fun t et v2 e2 v3 e3 => ?_⟩
  rw [e3]
  exact ta_loop L n1 n4 ba h1 h0 (s := v2) (by rw [e2, et]) n 0 μ (by omega) Exc.rf (fun r r0 r1 => by omega) (fun r r0 r1 => ea r r0 r1)
