/-! ===== Never: fours, whole; the search ===== -/
theorem f4_k {Q X : m_Po} {ε : m_E} {N B i : Int} {n j : Nat} {h v m c : Int → Int} (L : LN ε N) (LB' : LB ε B) (hN : N = B + 11) (n48 : n ≤ 48) (R : RB h v m c n) (hi : 0 ≤ i) (hij : i < j) (hj : j < n) {μ0 : m_M} (W0 : RC μ0 B n h v m c) (V0 : VO (μ0 (N + 3)) h v m i n)
    (nxt : ∀ μ', FNv N μ0 μ' → (∀ q, μ' (N + 3) q = μ0 (N + 3) q) → (∀ d e : Int, (j : Int) < d → d < e → e < n → ¬ Pr4 h v m c i j d e) → G cd_X3_findFour Q X 20 [(0, (2, N)), (1, (2, B)), (2, (0, i)), (3, (0, ((j + 1 : Nat) : Int)))] [] ε μ')
    (h1 : ∀ (μ' : m_M) (k l : Int), FNv N μ0 μ' → (j : Int) < k → k < l → l < n → Pr4 h v m c i j k l → (∀ d e : Int, (j : Int) < d → d < e → e < n → (d < k ∨ (d = k ∧ e < l)) → ¬ Pr4 h v m c i j d e) → NFc μ' N 4 (ix4 i j k l) (a4 h v m i j k l) c → Q 1 ε μ') :
    ∀ (d k : Nat) (μ : m_M), k + d = n → j < k → FNv N μ0 μ → (∀ q, μ (N + 3) q = μ0 (N + 3) q) → (∀ d e : Int, (j : Int) < d → d < e → e < n → d < k → ¬ Pr4 h v m c i j d e) → G cd_X3_findFour Q X 33 [(0, (2, N)), (1, (2, B)), (2, (0, i)), (3, (0, j)), (4, (0, k))] [] ε μ := by
  intro d
  induction d with
  | zero =>
    intro k μ hd hjk f fv hb
    have e : k = n := by omega
    subst e
    have W := W0.fnv hN f
    have kn : ¬ (k : Int) < k := by omega
    have jm : j < 2147483647 := by omega
    apply g_X3_findFour_33
    rw [W.1]
    refine fun _ _ _ _ => ⟨LB'.k, fun _ v3 e3 => ?_, fun z => absurd z kn⟩
    rw [w32_succ jm e3]
    clear e3
    exact nxt μ f fv (fun d e d0 de en => hb d e d0 de en (by omega))
  | succ d ih =>
    intro k μ hd hjk f fv hb
    have W := W0.fnv hN f
    have V : VO (μ (N + 3)) h v m i n := fun a b a0 ab' bn => (fv _).trans (V0 a b a0 ab' bn)
    have hjk' : (j : Int) < k := by omega
    have kn : (k : Int) < n := by omega
    have kN : ¬ (n : Int) ≤ k := by omega
    have km : k < 2147483647 := by omega
    have hd' : k + 1 + d = n := by omega
    have hk1 : j < k + 1 := by omega
    have o0 : 0 ≤ 48 * (j : Int) + (k : Int) ∧ 48 * (j : Int) + (k : Int) < 2304 := by omega
    have e5 : μ (N + 3) (48 * j + k) = dt3 h v m i j k := V j k hij hjk' kn
    have go : ∀ μ', FNv N μ0 μ' → (∀ q, μ' (N + 3) q = μ0 (N + 3) q) → (∀ e : Int, (k : Int) < e → e < n → ¬ Pr4 h v m c i j k e) → G cd_X3_findFour Q X 73 [(0, (2, N)), (1, (2, B)), (2, (0, i)), (3, (0, j)), (4, (0, k))] [] ε μ' := by
      intro μ' f' fv' np
      apply g_X3_findFour_73
      refine fun _ _ _ _ v4 e4 => ?_
      rw [w32_succ km e4]
      clear e4
      refine ih (k + 1) μ' hd' hk1 f' fv' (fun d e d0 de en dk => ?_)
      by_cases q : d = k
      · rw [q]; exact np e (by omega) en
      · exact hb d e d0 de en (by omega)
    have vv := vw (j := (j : Int)) (k := (k : Int)) (by omega) (by omega) (by omega) (by omega)
    apply g_X3_findFour_33
    rw [W.1, L.f2.1, vv, e5]
    clear vv
    refine fun _ _ _ _ => ⟨LB'.k, fun z => absurd z kN, fun _ => ⟨L.k, L.f2.2.1, o0.1, by rw [L.f2.2.2]; exact o0.2, fun q => go μ f fv (fun e _ _ p => (hope p.1).1 q), fun _ => sp_X3_findFourth L LB' hN n48 R hi hij hjk' (by omega) W V (fun μ1 l f1 l1 l2 pr hbl nf => ?_) (fun μ1 f1 fv1 no => ?_)⟩⟩
    · apply g_X3_findFour_68
      refine fun _ _ _ _ _ => ⟨fun y => absurd y (by decide), fun _ => h1 μ1 k l (f.trans f1) hjk' l1 l2 pr (fun d e d0 de en q => ?_) nf⟩
      rcases q with q | ⟨q1, q2⟩
      · exact hb d e d0 de en q
      · rw [q1]; exact hbl e (by omega) q2
    · apply g_X3_findFour_68
      exact fun _ _ _ _ _ => ⟨fun _ => go μ1 (f.trans f1) (fun q => (fv1 q).trans (fv q)) no, fun y => absurd rfl y⟩
theorem f4_j {Q X : m_Po} {ε : m_E} {N B : Int} {n i : Nat} {h v m c : Int → Int} (L : LN ε N) (LB' : LB ε B) (hN : N = B + 11) (n48 : n ≤ 48) (R : RB h v m c n) (hi : i < n) {μ0 : m_M} (W0 : RC μ0 B n h v m c) (V0 : VO (μ0 (N + 3)) h v m i n)
    (nxt : ∀ μ', FNv N μ0 μ' → (∀ b d e : Int, (i : Int) < b → b < d → d < e → e < n → ¬ Pr4 h v m c i b d e) → G cd_X3_findFour Q X 2 [(0, (2, N)), (1, (2, B)), (2, (0, ((i + 1 : Nat) : Int)))] [] ε μ')
    (h1 : ∀ (μ' : m_M) (j k l : Int), FNv N μ0 μ' → (i : Int) < j → j < k → k < l → l < n → Pr4 h v m c i j k l → (∀ b d e : Int, (i : Int) < b → b < d → d < e → e < n → (b < j ∨ (b = j ∧ (d < k ∨ (d = k ∧ e < l)))) → ¬ Pr4 h v m c i b d e) → NFc μ' N 4 (ix4 i j k l) (a4 h v m i j k l) c → Q 1 ε μ') :
    ∀ (d j : Nat) (μ : m_M), j + d = n → i < j → FNv N μ0 μ → (∀ q, μ (N + 3) q = μ0 (N + 3) q) → (∀ b d e : Int, (i : Int) < b → b < d → d < e → e < n → b < j → ¬ Pr4 h v m c i b d e) → G cd_X3_findFour Q X 20 [(0, (2, N)), (1, (2, B)), (2, (0, i)), (3, (0, j))] [] ε μ := by
  have i0 : (0 : Int) ≤ i := by omega
  intro d
  induction d with
  | zero =>
    intro j μ hd hij f fv hb
    have e : j = n := by omega
    subst e
    have W := W0.fnv hN f
    have kn : ¬ (j : Int) < j := by omega
    have im : i < 2147483647 := by omega
    apply g_X3_findFour_20
    rw [W.1]
    refine fun _ _ _ => ⟨LB'.k, fun _ v2 e2 => ?_, fun z => absurd z kn⟩
    rw [w32_succ im e2]
    clear e2
    exact nxt μ f (fun b d e b0 bd' de en => hb b d e b0 bd' de en (by omega))
  | succ d ih =>
    intro j μ hd hij f fv hb
    have W := W0.fnv hN f
    have V : VO (μ (N + 3)) h v m i n := fun a b a0 ab' bn => (fv _).trans (V0 a b a0 ab' bn)
    have hij' : (i : Int) < j := by omega
    have jN : ¬ (n : Int) ≤ j := by omega
    have jm : j < 2147483647 := by omega
    have hd' : j + 1 + d = n := by omega
    have hj1 : i < j + 1 := by omega
    apply g_X3_findFour_20
    rw [W.1]
    refine fun _ _ _ => ⟨LB'.k, fun z => absurd z jN, fun _ v4 e4 => ?_⟩
    rw [w32_succ jm e4]
    clear e4
    refine f4_k L LB' hN n48 R i0 hij' (by omega) W V (fun μ1 f1 fv1 no => ?_) (fun μ1 k l f1 k1 k2 k3 pr hbk nf => ?_) d (j + 1) μ hd' (by omega) FNv.rf (fun _ => rfl) (fun d e d0 de en q => by omega)
    · refine ih (j + 1) μ1 hd' hj1 (f.trans f1) (fun q => (fv1 q).trans (fv q)) (fun b d e b0 bd' de en q => ?_)
      by_cases q2 : b = j
      · rw [q2]; exact no d e (by omega) de en
      · exact hb b d e b0 bd' de en (by omega)
    · refine h1 μ1 j k l (f.trans f1) hij' k1 k2 k3 pr (fun b d e b0 bd' de en q => ?_) nf
      rcases q with q | ⟨q1, q⟩
      · exact hb b d e b0 bd' de en q
      · rw [q1]; exact hbk d e (by omega) de en q
theorem sp_X3_findFour {Q X : m_Po} {ε : m_E} {μ : m_M} {N B : Int} {n : Nat} {h v m c : Int → Int} (L : LN ε N) (LB' : LB ε B) (hN : N = B + 11) (n48 : n ≤ 48) (R : RB h v m c n) (W : RC μ B n h v m c)
    (h1 : ∀ (μ' : m_M) (i j k l : Int), FNv N μ μ' → Fst4 (Pr4 h v m c) n i j k l → NFc μ' N 4 (ix4 i j k l) (a4 h v m i j k l) c → Q 1 ε μ') (h0 : ∀ μ', FNv N μ μ' → No4 (Pr4 h v m c) n → Q 0 ε μ') : o_X3_findFour [(2, N), (2, B)] ε μ Q X := by
  have loop : ∀ (d i : Nat) (μ1 : m_M), i + d = n → FNv N μ μ1 → (∀ a b d e : Int, 0 ≤ a → a < b → b < d → d < e → e < n → a < i → ¬ Pr4 h v m c a b d e) → G cd_X3_findFour Q X 2 [(0, (2, N)), (1, (2, B)), (2, (0, i))] [] ε μ1 := by
    intro d
    induction d with
    | zero =>
      intro i μ1 hd f hb
      have e : i = n := by omega
      subst e
      have W1 := W.fnv hN f
      have jn : ¬ (i : Int) < i := by omega
      apply g_X3_findFour_2
      rw [W1.1]
      exact fun _ _ => ⟨LB'.k, fun _ => h0 μ1 f (fun a b d e a0 ab' bd' de en => hb a b d e a0 ab' bd' de en (by omega)), fun z => absurd z jn⟩
    | succ d ih =>
      intro i μ1 hd f hb
      have W1 := W.fnv hN f
      have iN : ¬ (n : Int) ≤ i := by omega
      have im : i < 2147483647 := by omega
      have i0 : (0 : Int) ≤ i := by omega
      have hd' : i + 1 + d = n := by omega
      have hi : i < n := by omega
      apply g_X3_findFour_2
      rw [W1.1]
      refine fun _ _ => ⟨LB'.k, fun z => absurd z iN, fun _ => ⟨L.k, sp_X3_findVolumes L LB' hN n48 R hi W1 (fun μ2 f2 V2 => ?_)⟩⟩
      apply g_X3_findFour_16
      refine fun _ _ v3 e3 => ?_
      rw [w32_succ im e3]
      clear e3
      have F2 := f.trans f2
      refine f4_j L LB' hN n48 R hi (W.fnv hN F2) V2 (fun μ3 f3 no => ih (i + 1) μ3 hd' (F2.trans f3) (fun a b d e a0 ab' bd' de en q => ?_)) (fun μ3 j k l f3 j1 j2 j3 j4 pr hbj nf => h1 μ3 i j k l (F2.trans f3) ⟨i0, j1, j2, j3, j4, pr, fun a b d e a0 ab' bd' de en q => ?_⟩ nf) d (i + 1) μ2 hd' (by omega) FNv.rf (fun _ => rfl) (fun b d e b0 bd' de en q => by omega)
      · by_cases q2 : a = i
        · rw [q2]; exact no b d e (by omega) bd' de en
        · exact hb a b d e a0 ab' bd' de en (by omega)
      · rcases q with q | ⟨q1, q⟩
        · exact hb a b d e a0 ab' bd' de en q
        · rw [q1]; exact hbj b d e (by omega) bd' de en q
  apply e_X3_findFour
  intro _ v2 e2
  rw [e2]
  exact loop n 0 μ (by omega) FNv.rf (fun a b d e a0 _ _ _ _ q => by omega)
/-- what the search finds: a set of k bounds, or none (k = 0) -/
def Srch (h v m c : Int → Int) (n : Int) (k : Nat) (ix a : Int → Int) : Prop :=
  (k = 2 ∧ ∃ i j, Fst2 (Pr2 h v m c) n i j ∧ ix = ix2 i j ∧ a = a2 h v m i j) ∨
  (k = 3 ∧ No2 (Pr2 h v m c) n ∧ ∃ i j l, Fst3 (Pr3 h v m c) n i j l ∧ ix = ix3 i j l ∧ a = a3 h v m i j l) ∨
  (k = 4 ∧ No2 (Pr2 h v m c) n ∧ No3 (Pr3 h v m c) n ∧ ∃ i j l q, Fst4 (Pr4 h v m c) n i j l q ∧ ix = ix4 i j l q ∧ a = a4 h v m i j l q) ∨
  (k = 0 ∧ No2 (Pr2 h v m c) n ∧ No3 (Pr3 h v m c) n ∧ No4 (Pr4 h v m c) n)
def FNw (N : Int) (μ μ' : m_M) : Prop := ∀ b j, (b < N ∨ N + 4 < b) → μ' b j = μ b j
theorem FNv.w {N : Int} {μ μ' : m_M} (h : FNv N μ μ') : FNw N μ μ' := fun b j h1 => h b j (by omega)
theorem sp_X3_search {Q X : m_Po} {ε : m_E} {μ : m_M} {N B : Int} {n : Nat} {h v m c : Int → Int} (L : LN ε N) (LB' : LB ε B) (hN : N = B + 11) (n48 : n ≤ 48) (R : RB h v m c n) (W : RC μ B n h v m c)
    (hh : ∀ (μ' : m_M) (k : Nat) (ix a : Int → Int), FNw N μ μ' → Srch h v m c n k ix a → μ' N 4 = k → (k ≠ 0 → NFc μ' N k ix a c) → Q 0 ε μ') : o_X3_search [(2, N), (2, B)] ε μ Q X := by
  have n48' : (n : Int) ≤ 48 := by omega
  have nN : ¬ (48 : Int) < n := by omega
  have fin : ∀ (μ1 : m_M) (k : Nat) (ix a : Int → Int), FNw N μ μ1 → Srch h v m c n k ix a → NFc μ1 N k ix a c → Q 0 ε (st μ1 N 4 k) := by
    intro μ1 k ix a f S nf
    refine hh _ k ix a (fun b j hb => by rw [sx_oa (by omega)]; exact f b j hb) S sx_same (fun _ => ?_)
    unfold NFc at *
    rw [sx_oa (show N + 4 ≠ N by omega), sx_oa (show N + 4 ≠ N by omega)]
    refine ⟨fun t t0 t1 => ?_, nf.2⟩
    rw [sx_oa (show N + 1 ≠ N by omega), sx_oa (show N + 2 ≠ N by omega)]
    exact nf.1 t t0 t1
  apply e_X3_search
  refine fun _ => ⟨L.k, fun μ1 m1 => ⟨LB'.k, ?_⟩⟩
  have F1 : FNw N μ μ1 := fun b j hb => by rw [m1]; exact sx_oa (by omega)
  have z1 : μ1 N 4 = 0 := by rw [m1, sx_same]
  have W1 : RC μ1 B n h v m c := W.fr (fun b t _ _ => F1 b t (by omega))
  rw [W1.1]
  refine ⟨fun _ => sp_X3_findTwo L LB' hN n48 R W1 (fun μ2 i j f2 F nf => ?_) (fun μ2 f2 no2 => ?_), fun z => absurd z nN⟩
  · apply g_X3_search_20
    refine fun _ _ => ⟨fun y => absurd y (by decide), fun _ => ⟨L.k, fun μ3 m3 => ?_⟩⟩
    rw [m3]
    exact fin μ2 2 _ _ (fun b t hb => (f2 b t (by omega)).trans (F1 b t hb)) (Or.inl ⟨rfl, i, j, F, rfl, rfl⟩) nf
  · apply g_X3_search_20
    refine fun _ _ => ⟨fun _ => ⟨L.k, sp_X3_findThree L LB' hN n48 R (W1.fnv hN f2) (fun μ3 i j k f3 F nf => ?_) (fun μ3 f3 no3 => ?_)⟩, fun y => absurd rfl y⟩
    · apply g_X3_search_36
      refine fun _ _ => ⟨fun y => absurd y (by decide), fun _ => ⟨L.k, fun μ4 m4 => ?_⟩⟩
      rw [m4]
      exact fin μ3 3 _ _ (fun b t hb => ((f2.trans f3) b t (by omega)).trans (F1 b t hb)) (Or.inr (Or.inl ⟨rfl, no2, i, j, k, F, rfl, rfl⟩)) nf
    · apply g_X3_search_36
      refine fun _ _ => ⟨fun _ => ⟨L.k, sp_X3_findFour L LB' hN n48 R (W1.fnv hN (f2.trans f3)) (fun μ4 i j k l f4 F nf => ?_) (fun μ4 f4 no4 => ?_)⟩, fun y => absurd rfl y⟩
      · apply g_X3_search_52
        refine fun _ _ => ⟨fun y => absurd y (by decide), fun _ => ⟨L.k, fun μ5 m5 => ?_⟩⟩
        rw [m5]
        exact fin μ4 4 _ _ (fun b t hb => (((f2.trans f3).trans f4) b t (by omega)).trans (F1 b t hb)) (Or.inr (Or.inr (Or.inl ⟨rfl, no2, no3, i, j, k, l, F, rfl, rfl⟩))) nf
      · apply g_X3_search_52
        refine fun _ _ => ⟨fun _ => hh μ4 0 (fun _ => 0) (fun _ => 0) (fun b t hb => (((f2.trans f3).trans f4) b t (by omega)).trans (F1 b t hb)) (Or.inr (Or.inr (Or.inr ⟨rfl, no2, no3, no4⟩))) ?_ (fun z => absurd rfl z), fun y => absurd rfl y⟩
        rw [((f2.trans f3).trans f4) N 4 (by omega)]
        exact z1
