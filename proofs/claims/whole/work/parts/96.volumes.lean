/-! ===== Never: volumes, fours ===== -/
theorem vw {j k : Int} (j0 : 0 ≤ j) (j1 : j < 48) (k0 : 0 ≤ k) (k1 : k < 48) : w32 (w32 (j * 48) + k) = 48 * j + k := by
  rw [w32_id (z := j * 48) (by unfold i32; omega), w32_id (by unfold i32; omega)]; omega
theorem dt_bd {h v m c : Int → Int} {n i j k : Int} (R : RB h v m c n) (hi : 0 ≤ i ∧ i < n) (hj : 0 ≤ j ∧ j < n) (hk : 0 ≤ k ∧ k < n) : bd (dt3 h v m i j k) 63 := by
  obtain ⟨a1, a2, a3, a4⟩ := R i hi.1 hi.2
  obtain ⟨b1, b2, b3, b4⟩ := R j hj.1 hj.2
  obtain ⟨d1, d2, d3, d4⟩ := R k hk.1 hk.2
  have x0 : bd (crH v m j k) 41 := cr_bd b2 d3 b3 d2
  have x1 : bd (crV h m j k) 41 := cr_bd b3 d1 b1 d3
  have x2 : bd (crM h v j k) 41 := cr_bd b1 d2 b2 d1
  exact bd_add (bd_add (bd_mul a1 x0) (bd_mul a2 x1)) (bd_mono (bd_mul a3 x2) (by decide))
def VO (f h v m : Int → Int) (i n : Int) : Prop := ∀ j k, i < j → j < k → k < n → f (48 * j + k) = dt3 h v m i j k
theorem fv_in {Q X : m_Po} {ε : m_E} {N B i : Int} {n j : Nat} {h v m c : Int → Int} (L : LN ε N) (LB' : LB ε B) (hN : N = B + 11) (n48 : n ≤ 48) (R : RB h v m c n) (hi : 0 ≤ i ∧ i < n) (hj : j < n) (hij : i < j) {μ0 : m_M} (W0 : RC μ0 B n h v m c) (x5 : μ0 N 5 = crH v m i j) (x6 : μ0 N 6 = crV h m i j) (x7 : μ0 N 7 = crM h v i j)
    (nxt : ∀ μ', Exc (N + 3) μ0 μ' → (∀ q, q < 48 * (j : Int) → μ' (N + 3) q = μ0 (N + 3) q) → (∀ k, (j : Int) < k → k < n → μ' (N + 3) (48 * j + k) = dt3 h v m i j k) → G cd_X3_findVolumes Q X 4 [(0, (2, N)), (1, (2, B)), (2, (0, i)), (3, (0, ((j + 1 : Nat) : Int)))] [] ε μ') :
    ∀ (d k : Nat) (μ : m_M), k + d = n → j < k → Exc (N + 3) μ0 μ → (∀ q, q < 48 * (j : Int) → μ (N + 3) q = μ0 (N + 3) q) → (∀ r, (j : Int) < r → r < (k : Int) → μ (N + 3) (48 * j + r) = dt3 h v m i j r) → G cd_X3_findVolumes Q X 24 [(0, (2, N)), (1, (2, B)), (2, (0, i)), (3, (0, j)), (4, (0, k))] [] ε μ := by
  have hj' : 0 ≤ (j : Int) ∧ (j : Int) < n := by omega
  obtain ⟨a1, a2, a3', a4⟩ := R i hi.1 hi.2
  obtain ⟨b1, b2, b3, b4⟩ := R j hj'.1 hj'.2
  have y0 : bd (crH v m i j) 41 := cr_bd a2 b3 a3' b2
  have y1 : bd (crV h m i j) 41 := cr_bd a3' b1 a1 b3
  have y2 : bd (crM h v i j) 41 := cr_bd a1 b2 a2 b1
  intro d
  induction d with
  | zero =>
    intro k μ hd hjk f g A
    have e : k = n := by omega
    subst e
    have W : RC μ B k h v m c := W0.fr (fun b t _ _ => f b t (by omega))
    have kn : ¬ (k : Int) < k := by omega
    have jm : j < 2147483647 := by omega
    apply g_X3_findVolumes_24
    rw [W.1]
    refine fun _ _ _ _ => ⟨LB'.k, fun _ v3 e3 => ?_, fun z => absurd z kn⟩
    rw [w32_succ jm e3]
    exact nxt μ f g A
  | succ d ih =>
    intro k μ hd hjk f g A
    have W : RC μ B n h v m c := W0.fr (fun b t _ _ => f b t (by omega))
    have hk : 0 ≤ (k : Int) ∧ (k : Int) < n := by omega
    have kN : ¬ (n : Int) ≤ k := by omega
    have km : k < 2147483647 := by omega
    have n48' : (n : Int) ≤ 48 := by omega
    have hd' : k + 1 + d = n := by omega
    have hjk' : j < k + 1 := by omega
    have o0 : 0 ≤ 48 * (j : Int) + k := by omega
    have o1 : 48 * (j : Int) + k < 2304 := by omega
    have vv := vw (j := (j : Int)) (k := (k : Int)) (by omega) (by omega) (by omega) (by omega)
    apply g_X3_findVolumes_24
    rw [W.1, L.f2.1, vv]
    clear vv
    refine fun _ _ _ _ => ⟨LB'.k, fun z => absurd z kN, fun _ => ⟨L.k, sp_X3_volumeWith L LB' n48' W R hk ((f _ _ (by omega)).trans x5) ((f _ _ (by omega)).trans x6) ((f _ _ (by omega)).trans x7) y0 y1 y2 ?_⟩⟩
    rw [vol_dt]
    apply g_X3_findVolumes_51
    refine fun _ _ _ _ _ _ => ⟨L.f2.2.1, o0, by rw [L.f2.2.2]; exact o1, fun μ1 m1 v4 e4 => ?_⟩
    rw [w32_succ km e4]
    clear e4
    refine ih (k + 1) μ1 hd' hjk' (f.trans (by rw [m1]; exact Exc.st)) (fun q q1 => ?_) (fun r r0 r1 => ?_)
    · rw [m1, sx_oi (by omega)]; exact g q q1
    · by_cases q : r = k
      · rw [q, m1, sx_same]
      · rw [m1, sx_oi (by omega)]; exact A r r0 (by omega)
theorem sp_X3_findVolumes {Q X : m_Po} {ε : m_E} {μ : m_M} {N B : Int} {n i : Nat} {h v m c : Int → Int} (L : LN ε N) (LB' : LB ε B) (hN : N = B + 11) (n48 : n ≤ 48) (R : RB h v m c n) (hi : i < n) (W : RC μ B n h v m c)
    (hh : ∀ μ', FNv N μ μ' → VO (μ' (N + 3)) h v m i n → Q 0 ε μ') : o_X3_findVolumes [(2, N), (2, B), (0, i)] ε μ Q X := by
  have hi' : 0 ≤ (i : Int) ∧ (i : Int) < n := by omega
  have loop : ∀ (d j : Nat) (μ1 : m_M), j + d = n → i < j → FNv N μ μ1 → (∀ a b, (i : Int) < a → a < b → b < n → a < (j : Int) → μ1 (N + 3) (48 * a + b) = dt3 h v m i a b) → G cd_X3_findVolumes Q X 4 [(0, (2, N)), (1, (2, B)), (2, (0, i)), (3, (0, j))] [] ε μ1 := by
    intro d
    induction d with
    | zero =>
      intro j μ1 hd hij f A
      have e : j = n := by omega
      subst e
      have W1 := W.fnv hN f
      have jn : ¬ (j : Int) < j := by omega
      apply g_X3_findVolumes_4
      rw [W1.1]
      exact fun _ _ _ => ⟨LB'.k, fun _ => hh μ1 f (fun a b a0 ab' bn => A a b a0 ab' bn (by omega)), fun z => absurd z jn⟩
    | succ d ih =>
      intro j μ1 hd hij f A
      have W1 := W.fnv hN f
      have hj' : 0 ≤ (j : Int) ∧ (j : Int) < n := by omega
      have jN : ¬ (n : Int) ≤ j := by omega
      have jm : j < 2147483647 := by omega
      have n48' : (n : Int) ≤ 48 := by omega
      have hd' : j + 1 + d = n := by omega
      have hij' : i < j + 1 := by omega
      apply g_X3_findVolumes_4
      rw [W1.1]
      refine fun _ _ _ => ⟨LB'.k, fun z => absurd z jN, fun _ => ⟨L.k, sp_X3_cross L LB' hN n48' W1 R hi' hj' (fun μ2 f2 x5 x6 x7 => ?_)⟩⟩
      have F2 := f.trans (FNv.ofF f2)
      apply g_X3_findVolumes_19
      refine fun _ _ _ v4 e4 => ?_
      rw [w32_succ jm e4]
      clear e4
      refine fv_in L LB' hN n48 R hi' (by omega) (by omega) (W.fnv hN F2) x5 x6 x7 (fun μ3 f3 g3 A3 => ih (j + 1) μ3 hd' hij' (F2.trans (fun b t hb => f3 b t (by omega))) (fun a b a0 ab' bn q => ?_)) d (j + 1) μ2 hd' (by omega) Exc.rf (fun _ _ => rfl) (fun r r0 r1 => by omega)
      by_cases q2 : a = j
      · rw [q2]; exact A3 b (by omega) bn
      · rw [g3 _ (by omega), f2 _ _ (by omega)]
        exact A a b a0 ab' bn (by omega)
  have im : i < 2147483647 := by omega
  apply e_X3_findVolumes
  refine fun _ _ v3 e3 => ?_
  rw [w32_succ im e3]
  clear e3
  exact loop (n - (i + 1)) (i + 1) μ (by omega) (by omega) FNv.rf (fun a b a0 ab' bn q => by omega)
def ix4 (i j k l : Int) : Int → Int := fun t => if t = 0 then i else if t = 1 then j else if t = 2 then k else l
def a4 (h v m : Int → Int) (i j k l : Int) : Int → Int := fun t => if t = 0 then dt3 h v m j k l else if t = 1 then -(dt3 h v m i k l) else if t = 2 then dt3 h v m i j l else -(dt3 h v m i j k)
def Pr4 (h v m c : Int → Int) (i j k l : Int) : Prop := OKc 4 (ix4 i j k l) (a4 h v m i j k l) c
theorem a4_0 (h v m : Int → Int) (i j k l : Int) : a4 h v m i j k l 0 = dt3 h v m j k l := rfl
theorem a4_1 (h v m : Int → Int) (i j k l : Int) : a4 h v m i j k l 1 = -(dt3 h v m i k l) := rfl
theorem a4_2 (h v m : Int → Int) (i j k l : Int) : a4 h v m i j k l 2 = dt3 h v m i j l := rfl
theorem a4_3 (h v m : Int → Int) (i j k l : Int) : a4 h v m i j k l 3 = -(dt3 h v m i j k) := rfl
/-- most fail by the signs of three -/
theorem hope {h v m : Int → Int} {i j k l : Int} (S : SS (a4 h v m i j k l) 4) : dt3 h v m i j k ≠ 0 ∧ (if dt3 h v m i j k ≤ 0 then (if dt3 h v m i j l ≤ 0 then (0 : Int) else if 0 ≤ dt3 h v m i k l then 0 else 1) else if 0 ≤ dt3 h v m i j l then 0 else if dt3 h v m i k l ≤ 0 then 0 else 1) ≠ 0 := by
  rcases S with S | S
  · have p1 := S 1 (by decide) (by decide)
    have p2 := S 2 (by decide) (by decide)
    have p3 := S 3 (by decide) (by decide)
    rw [a4_1] at p1
    rw [a4_2] at p2
    rw [a4_3] at p3
    refine ⟨by omega, ?_⟩
    rw [if_pos (by omega), if_neg (by omega), if_neg (by omega)]; decide
  · have p1 := S 1 (by decide) (by decide)
    have p2 := S 2 (by decide) (by decide)
    have p3 := S 3 (by decide) (by decide)
    rw [a4_1] at p1
    rw [a4_2] at p2
    rw [a4_3] at p3
    refine ⟨by omega, ?_⟩
    rw [if_neg (by omega), if_neg (by omega), if_neg (by omega)]; decide
