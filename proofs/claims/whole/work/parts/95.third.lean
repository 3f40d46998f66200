/-! ===== Never: threes ===== -/
def Fst3 (P : Int → Int → Int → Prop) (n i j k : Int) : Prop := 0 ≤ i ∧ i < j ∧ j < k ∧ k < n ∧ P i j k ∧ ∀ a b d, 0 ≤ a → a < b → b < d → d < n → (a < i ∨ (a = i ∧ (b < j ∨ (b = j ∧ d < k)))) → ¬ P a b d
def No3 (P : Int → Int → Int → Prop) (n : Int) : Prop := ∀ a b d, 0 ≤ a → a < b → b < d → d < n → ¬ P a b d
theorem ft_loop {Q X : m_Po} {ε : m_E} {N B : Int} {n : Nat} {i j : Int} {h v m c : Int → Int} (L : LN ε N) (LB' : LB ε B) (hN : N = B + 11) (n48 : n ≤ 48) (R : RB h v m c n) (hi : 0 ≤ i ∧ i < n) (hj : 0 ≤ j ∧ j < n) (np : ¬ par h v m i j) {μ0 : m_M} (W0 : RC μ0 B n h v m c) (x5 : μ0 N 5 = crH v m i j) (x6 : μ0 N 6 = crV h m i j) (x7 : μ0 N 7 = crM h v i j)
    (h1 : ∀ (μ' : m_M) (k : Int), FNv N μ0 μ' → j < k → k < n → Pr3 h v m c i j k → (∀ d, j < d → d < k → ¬ Pr3 h v m c i j d) → NFc μ' N 3 (ix3 i j k) (a3 h v m i j k) c → Q 1 ε μ')
    (h0 : ∀ μ', FNv N μ0 μ' → (∀ d, j < d → d < (n : Int) → ¬ Pr3 h v m c i j d) → Q 0 ε μ') :
    ∀ (d k : Nat) (μ : m_M), k + d = n → j < k → FNv N μ0 μ → (∀ q, 5 ≤ q → q ≤ 7 → μ N q = μ0 N q) → (∀ d, j < d → d < (k : Int) → ¬ Pr3 h v m c i j d) → G cd_X3_findThird Q X 5 [(0, (2, N)), (1, (2, B)), (2, (0, i)), (3, (0, j)), (4, (0, k))] [] ε μ := by
  obtain ⟨a1, a2, a3', a4⟩ := R i hi.1 hi.2
  obtain ⟨b1, b2, b3, b4⟩ := R j hj.1 hj.2
  have y0 : bd (crH v m i j) 41 := cr_bd a2 b3 a3' b2
  have y1 : bd (crV h m i j) 41 := cr_bd a3' b1 a1 b3
  have y2 : bd (crM h v i j) 41 := cr_bd a1 b2 a2 b1
  intro d
  induction d with
  | zero =>
    intro k μ hd hjk f fx hb
    have e : k = n := by omega
    subst e
    have W := W0.fnv hN f
    have kn : ¬ (k : Int) < k := by omega
    apply g_X3_findThird_5
    rw [W.1]
    exact fun _ _ _ _ => ⟨LB'.k, fun _ => h0 μ f hb, fun z => absurd z kn⟩
  | succ d ih =>
    intro k μ hd hjk f fx hb
    have W := W0.fnv hN f
    have hk : 0 ≤ (k : Int) ∧ (k : Int) < n := by omega
    have kN : ¬ (n : Int) ≤ k := by omega
    have km : k < 2147483647 := by omega
    have n48' : (n : Int) ≤ 48 := by omega
    have hd' : k + 1 + d = n := by omega
    have hjk' : j < ((k + 1 : Nat) : Int) := by omega
    have z5 : μ N 5 = crH v m i j := (fx 5 (by decide) (by decide)).trans x5
    have z6 : μ N 6 = crV h m i j := (fx 6 (by decide) (by decide)).trans x6
    have z7 : μ N 7 = crM h v i j := (fx 7 (by decide) (by decide)).trans x7
    have go : ∀ μ', FNv N μ0 μ' → (∀ q, 5 ≤ q → q ≤ 7 → μ' N q = μ0 N q) → ¬ Pr3 h v m c i j k → G cd_X3_findThird Q X 46 [(0, (2, N)), (1, (2, B)), (2, (0, i)), (3, (0, j)), (4, (0, k))] [] ε μ' := by
      intro μ' f' fx' npr
      apply g_X3_findThird_46
      refine fun _ _ _ _ v4 e4 => ?_
      rw [w32_succ km e4]
      refine ih (k + 1) μ' hd' hjk' f' fx' (fun b b0 b1 => ?_)
      by_cases q : b = k
      · rw [q]; exact npr
      · exact hb b b0 (by clear e4; omega)
    apply g_X3_findThird_5
    rw [W.1]
    refine fun _ _ _ _ => ⟨LB'.k, fun z => absurd z kN, fun _ => ⟨L.k, sp_X3_volumeWith L LB' n48' W R hk z5 z6 z7 y0 y1 y2 ?_⟩⟩
    rw [vol_dt]
    apply g_X3_findThird_21
    refine fun _ _ _ _ _ => ⟨fun q => go μ f fx (fun p => q p.2.1), fun q => ⟨L.k, sp_X3_pickThree L LB' hN n48' W R hi hj hk z5 z6 (fun μ1 f1 A => ?_)⟩⟩
    have F1 : FNv N μ0 μ1 := f.trans (FNv.of2 (by omega) (by omega) f1)
    have W1 := W0.fnv hN F1
    have fx1 : ∀ q, 5 ≤ q → q ≤ 7 → μ1 N q = μ0 N q := fun q q0 q1 => (f1 _ _ (by omega) (by omega)).trans (fx q q0 q1)
    have three : ∀ t : Int, 0 ≤ t → t < ((3 : Nat) : Int) → t = 0 ∨ t = 1 ∨ t = 2 := fun t t0 t1 => by omega
    apply g_X3_findThird_35
    refine fun _ _ _ _ => ⟨L.k, sp_X3_clash (n := 3) (nb := n) L LB' hN (by decide) (by decide) n48' (a := a3 h v m i j k) (ix := ix3 i j k) (c := c) (fun t t0 t1 => (A t t0 t1).2) (fun t t0 t1 => (A t t0 t1).1) ?_ W1.2.2.2.2 ?_ ?_ (fun μ2 f2 S sg w l => ?_) (fun μ2 f2 nS => ?_)⟩
    · intro t t0 t1
      rcases three t t0 t1 with rfl | rfl | rfl
      · exact hi
      · exact hj
      · exact hk
    · intro t t0 t1
      rcases three t t0 t1 with rfl | rfl | rfl
      · exact bd_mono (cx_bd R hj hk) (by decide)
      · exact bd_mono (cx_bd R hk hi) (by decide)
      · exact bd_mono (cx_bd R hi hj) (by decide)
    · intro t t0 t1
      rcases three t t0 t1 with rfl | rfl | rfl
      · exact a4
      · exact b4
      · exact (R k hk.1 hk.2).2.2.2
    · apply g_X3_findThird_41
      refine fun _ _ _ _ _ => ⟨fun y => absurd y (by decide), fun _ => h1 μ2 k (F1.trans (FNv.of2 (by omega) (by omega) f2)) hjk hk.2 ⟨np, q, S, sg⟩ hb ⟨fun t t0 t1 => ⟨?_, w t t0 t1⟩, l⟩⟩
      rw [f2 _ _ (by omega) (by omega)]
      exact (A t t0 t1).1
    · apply g_X3_findThird_41
      exact fun _ _ _ _ _ => ⟨fun _ => go μ2 (F1.trans (FNv.of2 (by omega) (by omega) f2)) (fun q q0 q1 => (f2 _ _ (by omega) (by omega)).trans (fx1 q q0 q1)) (fun p => nS p.2.2), fun y => absurd rfl y⟩
theorem f3_in {Q X : m_Po} {ε : m_E} {N B : Int} {n i : Nat} {h v m c : Int → Int} (L : LN ε N) (LB' : LB ε B) (hN : N = B + 11) (n48 : n ≤ 48) (R : RB h v m c n) (hi : i < n) {μ0 : m_M} (W0 : RC μ0 B n h v m c) (hb : ∀ a b d : Int, 0 ≤ a → a < b → b < d → d < n → a < i → ¬ Pr3 h v m c a b d)
    (nxt : ∀ μ', FNv N μ0 μ' → (∀ b d : Int, (i : Int) < b → b < d → d < n → ¬ Pr3 h v m c i b d) → G cd_X3_findThree Q X 2 [(0, (2, N)), (1, (2, B)), (2, (0, ((i + 1 : Nat) : Int)))] [] ε μ')
    (h1 : ∀ (μ' : m_M) (i j k : Int), FNv N μ0 μ' → Fst3 (Pr3 h v m c) n i j k → NFc μ' N 3 (ix3 i j k) (a3 h v m i j k) c → Q 1 ε μ') :
    ∀ (d j : Nat) (μ : m_M), j + d = n → i < j → FNv N μ0 μ → (∀ b d : Int, (i : Int) < b → b < d → d < n → b < j → ¬ Pr3 h v m c i b d) → G cd_X3_findThree Q X 14 [(0, (2, N)), (1, (2, B)), (2, (0, i)), (3, (0, j))] [] ε μ := by
  intro d
  induction d with
  | zero =>
    intro j μ hd hj f hk
    have e : j = n := by omega
    subst e
    have W := W0.fnv hN f
    have jn : ¬ (j : Int) < j := by omega
    have im : i < 2147483647 := by omega
    apply g_X3_findThree_14
    rw [W.1]
    refine fun _ _ _ => ⟨LB'.k, fun _ v2 e2 => ?_, fun z => absurd z jn⟩
    rw [w32_succ im e2]
    exact nxt μ f (fun b d b0 b1 b2 => hk b d b0 b1 b2 (by clear e2; omega))
  | succ d ih =>
    intro j μ hd hj f hk
    have W := W0.fnv hN f
    have hi' : 0 ≤ (i : Int) ∧ (i : Int) < n := by omega
    have hj' : 0 ≤ (j : Int) ∧ (j : Int) < n := by omega
    have ij : (i : Int) < j := by omega
    have jN : ¬ (n : Int) ≤ j := by omega
    have jm : j < 2147483647 := by omega
    have n48' : (n : Int) ≤ 48 := by omega
    have hd' : j + 1 + d = n := by omega
    have hj1 : i < j + 1 := by omega
    have hjj : (j : Int) < ((j + 1 : Nat) : Int) := by omega
    have go : ∀ μ', FNv N μ0 μ' → (∀ d : Int, (j : Int) < d → d < n → ¬ Pr3 h v m c i j d) → G cd_X3_findThree Q X 48 [(0, (2, N)), (1, (2, B)), (2, (0, i)), (3, (0, j))] [] ε μ' := by
      intro μ' f' np
      apply g_X3_findThree_48
      refine fun _ _ _ v3 e3 => ?_
      rw [w32_succ jm e3]
      refine ih (j + 1) μ' hd' hj1 f' (fun b d b0 b1 b2 b3 => ?_)
      by_cases q : b = j
      · rw [q]; exact np d (by clear e3; omega) b2
      · exact hk b d b0 b1 b2 (by clear e3; omega)
    apply g_X3_findThree_14
    rw [W.1]
    refine fun _ _ _ => ⟨LB'.k, fun z => absurd z jN, fun _ => ⟨L.k, sp_X3_cross L LB' hN n48' W R hi' hj' (fun μ1 f1 x5 x6 x7 => ?_)⟩⟩
    have F1 := f.trans (FNv.ofF f1)
    apply g_X3_findThree_29
    refine fun _ _ _ => ⟨L.k, sp_X3_isCrossNothing L (fun z => ?_) (fun z => ?_)⟩
    · rw [x5, x6, x7] at z
      apply g_X3_findThree_33
      exact fun _ _ _ _ => ⟨fun _ => go μ1 F1 (fun d _ _ p => p.1 z), fun q => absurd q (by decide)⟩
    · rw [x5, x6, x7] at z
      apply g_X3_findThree_33
      refine fun _ _ _ _ => ⟨fun q => absurd rfl q, fun _ => ⟨L.k, ?_⟩⟩
      apply e_X3_findThird
      intro _ _ _ v4 e4
      rw [w32_succ jm e4]
      clear e4
      refine ft_loop L LB' hN n48 R hi' hj' z (W0.fnv hN F1) x5 x6 x7 (fun μ2 k f2 k1 k2 pr hbk nf => ?_) (fun μ2 f2 no => ?_) d (j + 1) μ1 hd' hjj FNv.rf (fun _ _ _ => rfl) (fun b b0 b1 => by omega)
      · apply g_X3_findThree_43
        refine fun _ _ _ _ => ⟨fun q => absurd q (by decide), fun _ => h1 μ2 i j k (F1.trans f2) ⟨hi'.1, ij, k1, k2, pr, fun a b d a0 ab' bd' dn q => ?_⟩ nf⟩
        rcases q with q | ⟨q1, q | ⟨q2, q3⟩⟩
        · exact hb a b d a0 ab' bd' dn q
        · rw [q1]; exact hk b d (by omega) bd' dn q
        · rw [q1, q2]; exact hbk d (by omega) q3
      · apply g_X3_findThree_43
        exact fun _ _ _ _ => ⟨fun _ => go μ2 (F1.trans f2) no, fun q => absurd rfl q⟩
theorem sp_X3_findThree {Q X : m_Po} {ε : m_E} {μ : m_M} {N B : Int} {n : Nat} {h v m c : Int → Int} (L : LN ε N) (LB' : LB ε B) (hN : N = B + 11) (n48 : n ≤ 48) (R : RB h v m c n) (W : RC μ B n h v m c)
    (h1 : ∀ (μ' : m_M) (i j k : Int), FNv N μ μ' → Fst3 (Pr3 h v m c) n i j k → NFc μ' N 3 (ix3 i j k) (a3 h v m i j k) c → Q 1 ε μ') (h0 : ∀ μ', FNv N μ μ' → No3 (Pr3 h v m c) n → Q 0 ε μ') : o_X3_findThree [(2, N), (2, B)] ε μ Q X := by
  have loop : ∀ (d i : Nat) (μ1 : m_M), i + d = n → FNv N μ μ1 → (∀ a b d : Int, 0 ≤ a → a < b → b < d → d < n → a < i → ¬ Pr3 h v m c a b d) → G cd_X3_findThree Q X 2 [(0, (2, N)), (1, (2, B)), (2, (0, i))] [] ε μ1 := by
    intro d
    induction d with
    | zero =>
      intro i μ1 hd f hb
      have e : i = n := by omega
      subst e
      have W1 := W.fnv hN f
      have jn : ¬ (i : Int) < i := by omega
      apply g_X3_findThree_2
      rw [W1.1]
      exact fun _ _ => ⟨LB'.k, fun _ => h0 μ1 f (fun a b d a0 ab' bd' dn => hb a b d a0 ab' bd' dn (by omega)), fun z => absurd z jn⟩
    | succ d ih =>
      intro i μ1 hd f hb
      have W1 := W.fnv hN f
      have iN : ¬ (n : Int) ≤ i := by omega
      have im : i < 2147483647 := by omega
      have hd' : i + 1 + d = n := by omega
      have hi : i < n := by omega
      apply g_X3_findThree_2
      rw [W1.1]
      refine fun _ _ => ⟨LB'.k, fun z => absurd z iN, fun _ v3 e3 => ?_⟩
      rw [w32_succ im e3]
      clear e3
      refine f3_in L LB' hN n48 R hi W1 hb (fun μ2 f2 hk => ih (i + 1) μ2 hd' (f.trans f2) (fun a b d a0 ab' bd' dn q => ?_)) (fun μ2 i' j' k' f2 F nf => h1 μ2 i' j' k' (f.trans f2) F nf) d (i + 1) μ1 hd' (by omega) FNv.rf (fun b d b0 b1 b2 b3 => by omega)
      by_cases q2 : a = i
      · rw [q2]; exact hk b d (by omega) bd' dn
      · exact hb a b d a0 ab' bd' dn (by omega)
  apply e_X3_findThree
  intro _ v2 e2
  rw [e2]
  exact loop n 0 μ (by omega) FNv.rf (fun a b d a0 _ _ _ q => by omega)
