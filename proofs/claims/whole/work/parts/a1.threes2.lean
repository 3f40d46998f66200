/-! ===== the reference's threes, whole ===== -/
theorem th_w {Q X : m_Po} {ε : m_E} {μ : m_M} {M i j k : Int} {n : Nat} {h v m c code R : Int → Int} (n48 : n ≤ 48) (B : RB h v m c n) (H : RG ε μ M R) (W : RW μ M n h v m c) (hcode : ∀ q, μ (M + 30) q = code q) (hi : 0 ≤ i ∧ i < n) (hj : 0 ≤ j ∧ j < n) (hk : 0 ≤ k ∧ k < n) (d : dt3 h v m i j k = 0)
    (no : ∀ μ' R', RG ε μ' M R' → FNs M μ μ' → μ' M 59 = μ M 59 → (∀ s, ¬ tme s → R' s = R s) → ¬ Pr3 h v m c i j k → G cd_X12_threes Q X 293 [(0, (2, M)), (1, (0, i)), (2, (0, j)), (3, (0, k))] [] ε μ')
    (yes : ∀ μ' R', RG ε μ' M R' → FNs M μ μ' → (∀ s, ¬ tme s → s < 92 → R' s = R s) → Pr3 h v m c i j k → NMc μ' M R' 3 (ix3 i j k) (a3 h v m i j k) c code → Q 1 ε μ') :
    G cd_X12_threes Q X 52 [(0, (2, M)), (1, (0, i)), (2, (0, j)), (3, (0, k)), (4, (0, 0))] [] ε μ := by
  have n48' : (n : Int) ≤ 48 := by omega
  have L := H.1
  -- one part: either it has no 0, or the next
  have one : ∀ w : Int, (w = 0 ∨ w = 1 ∨ w = 2) → (∀ u, 0 ≤ u → u < w → ¬ T3 h v m i j k u) → (¬ T3 h v m i j k w → G cd_X12_threes Q X 52 [(0, (2, M)), (1, (0, i)), (2, (0, j)), (3, (0, k)), (4, (0, w + 1))] [] ε μ) → G cd_X12_threes Q X 52 [(0, (2, M)), (1, (0, i)), (2, (0, j)), (3, (0, k)), (4, (0, w))] [] ε μ := by
    intro w hw nb nxt
    have wN : ¬ 3 ≤ w := by omega
    have ws : w32 (w + 1) = w + 1 := by rcases hw with rfl | rfl | rfl <;> decide
    have skip : ¬ T3 h v m i j k w → G cd_X12_threes Q X 97 [(0, (2, M)), (1, (0, i)), (2, (0, j)), (3, (0, k)), (4, (0, w))] [] ε μ := by
      intro nt
      apply g_X12_threes_97
      refine fun _ _ _ _ _ v4 e4 => ?_
      rw [e4, ws]
      exact nxt nt
    apply g_X12_threes_52
    refine fun _ _ _ _ _ => ⟨fun z => absurd z wN, fun _ => ⟨L.k, sp_X12_across L n48' W B hj hk ?_⟩⟩
    apply g_X12_threes_66
    refine fun _ _ _ _ _ _ => ⟨fun z => skip (fun t => t.1 z), fun z1 => ⟨L.k, sp_X12_across L n48' W B hk hi ?_⟩⟩
    apply g_X12_threes_79
    refine fun _ _ _ _ _ _ => ⟨fun z => skip (fun t => t.2.1 z), fun z2 => ⟨L.k, sp_X12_across L n48' W B hi hj ?_⟩⟩
    apply g_X12_threes_92
    exact fun _ _ _ _ _ _ => ⟨fun z3 => th_go n48 B H W hcode hi hj hk d hw ⟨z1, z2, z3⟩ nb no yes, fun z => skip (fun t => t.2.2 z)⟩
  refine one 0 (Or.inl rfl) (fun u u0 u1 => by omega) (fun n0 => ?_)
  refine one 1 (Or.inr (Or.inl rfl)) (fun u u0 u1 => by rw [show u = 0 by omega]; exact n0) (fun n1 => ?_)
  refine one 2 (Or.inr (Or.inr rfl)) (fun u u0 u1 => ?_) (fun n2 => ?_)
  · have : u = 0 ∨ u = 1 := by omega
    rcases this with rfl | rfl
    · exact n0
    · exact n1
  · apply g_X12_threes_52
    refine fun _ _ _ _ _ => ⟨fun _ => ?_, fun z => absurd z (by decide)⟩
    apply g_X12_threes_103
    exact fun _ _ _ _ _ => ⟨fun z => absurd rfl z, fun _ => no μ R H FNs.rf rfl (fun _ _ => rfl) (fun p => th_none n0 n1 n2 p.2.2.1)⟩
theorem t3_k {Q X : m_Po} {ε : m_E} {M i : Int} {n j : Nat} {h v m c code R0 : Int → Int} (n48 : n ≤ 48) (B : RB h v m c n) (hi : 0 ≤ i) (hij : i < j) (hj : j < n) {μ0 : m_M} (W0 : RW μ0 M n h v m c) (hcode : ∀ q, μ0 (M + 30) q = code q)
    (nxt : ∀ μ' R', RG ε μ' M R' → FNs M μ0 μ' → μ' M 59 = μ0 M 59 → (∀ s, ¬ tme s → R' s = R0 s) → (∀ d : Int, (j : Int) < d → d < n → ¬ Pr3 h v m c i j d) → G cd_X12_threes Q X 14 [(0, (2, M)), (1, (0, i)), (2, (0, ((j + 1 : Nat) : Int)))] [] ε μ')
    (h1 : ∀ (μ' : m_M) (R' : Int → Int) (k : Int), RG ε μ' M R' → FNs M μ0 μ' → (∀ s, ¬ tme s → s < 92 → R' s = R0 s) → (j : Int) < k → k < n → Pr3 h v m c i j k → (∀ d : Int, (j : Int) < d → d < k → ¬ Pr3 h v m c i j d) → NMc μ' M R' 3 (ix3 i j k) (a3 h v m i j k) c code → Q 1 ε μ') :
    ∀ (d k : Nat) (μ : m_M) (R : Int → Int), k + d = n → j < k → RG ε μ M R → FNs M μ0 μ → μ M 59 = μ0 M 59 → (∀ s, ¬ tme s → R s = R0 s) → (∀ d : Int, (j : Int) < d → d < k → ¬ Pr3 h v m c i j d) → G cd_X12_threes Q X 26 [(0, (2, M)), (1, (0, i)), (2, (0, j)), (3, (0, k))] [] ε μ := by
  have hi' : 0 ≤ i ∧ i < n := by omega
  have hj' : 0 ≤ (j : Int) ∧ (j : Int) < n := by omega
  intro d
  induction d with
  | zero =>
    intro k μ R hd hjk H f f59 fr hb
    have e : k = n := by omega
    subst e
    have W := W0.fns f
    have kn : ¬ (k : Int) < k := by omega
    have jm : j < 2147483647 := by omega
    apply g_X12_threes_26
    rw [W.1]
    refine fun _ _ _ _ => ⟨H.1.k, fun _ v2 e2 => ?_, fun z => absurd z kn⟩
    rw [w32_succ jm e2]
    exact nxt μ R H f f59 fr hb
  | succ d ih =>
    intro k μ R hd hjk H f f59 fr hb
    have W := W0.fns f
    have hk' : 0 ≤ (k : Int) ∧ (k : Int) < n := by omega
    have jk : (j : Int) < k := by omega
    have kN : ¬ (n : Int) ≤ k := by omega
    have km : k < 2147483647 := by omega
    have n48' : (n : Int) ≤ 48 := by omega
    have hd' : k + 1 + d = n := by omega
    have hk1 : j < k + 1 := by omega
    have go : ∀ μ' R', RG ε μ' M R' → FNs M μ0 μ' → μ' M 59 = μ0 M 59 → (∀ s, ¬ tme s → R' s = R0 s) → ¬ Pr3 h v m c i j k → G cd_X12_threes Q X 293 [(0, (2, M)), (1, (0, i)), (2, (0, j)), (3, (0, k))] [] ε μ' := by
      intro μ' R' H' f' g59 fr' np
      apply g_X12_threes_293
      refine fun _ _ _ _ v3 e3 => ?_
      rw [w32_succ km e3]
      clear e3
      refine ih (k + 1) μ' R' hd' hk1 H' f' g59 fr' (fun b b0 b1 => ?_)
      by_cases q : b = k
      · rw [q]; exact np
      · exact hb b b0 (by omega)
    apply g_X12_threes_26
    rw [W.1]
    refine fun _ _ _ _ => ⟨H.1.k, fun z => absurd z kN, fun _ => sp_X12_minor H.1 n48' W B hi' hj' hk' ?_⟩
    apply g_X12_threes_41
    refine fun _ _ _ _ _ => ⟨fun z v4 e4 => ?_, fun z => go μ R H f f59 fr (fun p => z p.2.1)⟩
    rw [e4]
    refine th_w n48 B H W (fun q => (f _ q (nbc (by decide)) (by omega) (by omega) (by omega) (by omega)).trans (hcode q)) hi' hj' hk' z (fun μ' R' H' f' g59 fr' np => go μ' R' H' (f.trans f') (g59.trans f59) (fun s s1 => (fr' s s1).trans (fr s s1)) np) (fun μ' R' H' f' fr' pr nm => h1 μ' R' k H' (f.trans f') (fun s s1 s2 => (fr' s s1 s2).trans (fr s s1)) jk hk'.2 pr hb nm)
theorem t3_j {Q X : m_Po} {ε : m_E} {M : Int} {n i : Nat} {h v m c code R0 : Int → Int} (n48 : n ≤ 48) (B : RB h v m c n) (hi : i < n) {μ0 : m_M} (W0 : RW μ0 M n h v m c) (hcode : ∀ q, μ0 (M + 30) q = code q)
    (nxt : ∀ μ' R', RG ε μ' M R' → FNs M μ0 μ' → μ' M 59 = μ0 M 59 → (∀ s, ¬ tme s → R' s = R0 s) → (∀ b d : Int, (i : Int) < b → b < d → d < n → ¬ Pr3 h v m c i b d) → G cd_X12_threes Q X 2 [(0, (2, M)), (1, (0, ((i + 1 : Nat) : Int)))] [] ε μ')
    (h1 : ∀ (μ' : m_M) (R' : Int → Int) (j k : Int), RG ε μ' M R' → FNs M μ0 μ' → (∀ s, ¬ tme s → s < 92 → R' s = R0 s) → (i : Int) < j → j < k → k < n → Pr3 h v m c i j k → (∀ b d : Int, (i : Int) < b → b < d → d < n → (b < j ∨ (b = j ∧ d < k)) → ¬ Pr3 h v m c i b d) → NMc μ' M R' 3 (ix3 i j k) (a3 h v m i j k) c code → Q 1 ε μ') :
    ∀ (d j : Nat) (μ : m_M) (R : Int → Int), j + d = n → i < j → RG ε μ M R → FNs M μ0 μ → μ M 59 = μ0 M 59 → (∀ s, ¬ tme s → R s = R0 s) → (∀ b d : Int, (i : Int) < b → b < d → d < n → b < j → ¬ Pr3 h v m c i b d) → G cd_X12_threes Q X 14 [(0, (2, M)), (1, (0, i)), (2, (0, j))] [] ε μ := by
  intro d
  induction d with
  | zero =>
    intro j μ R hd hij H f f59 fr hb
    have e : j = n := by omega
    subst e
    have W := W0.fns f
    have kn : ¬ (j : Int) < j := by omega
    have im : i < 2147483647 := by omega
    apply g_X12_threes_14
    rw [W.1]
    refine fun _ _ _ => ⟨H.1.k, fun _ v1 e1 => ?_, fun z => absurd z kn⟩
    rw [w32_succ im e1]
    clear e1
    exact nxt μ R H f f59 fr (fun b d b0 bd' dn => hb b d b0 bd' dn (by omega))
  | succ d ih =>
    intro j μ R hd hij H f f59 fr hb
    have W := W0.fns f
    have i0 : (0 : Int) ≤ i := by omega
    have hij' : (i : Int) < j := by omega
    have jN : ¬ (n : Int) ≤ j := by omega
    have jm : j < 2147483647 := by omega
    have hd' : j + 1 + d = n := by omega
    have hj1 : i < j + 1 := by omega
    apply g_X12_threes_14
    rw [W.1]
    refine fun _ _ _ => ⟨H.1.k, fun z => absurd z jN, fun _ v3 e3 => ?_⟩
    rw [w32_succ jm e3]
    clear e3
    refine t3_k n48 B i0 hij' (by omega) W (fun q => (f _ q (nbc (by decide)) (by omega) (by omega) (by omega) (by omega)).trans (hcode q)) (R0 := R) (fun μ1 R1 H1 f1 g59 fr1 no => ?_) (fun μ1 R1 k H1 f1 fr1 k1 k2 pr hbk nm => ?_) d (j + 1) μ R hd' (by omega) H FNs.rf rfl (fun _ _ => rfl) (fun b b0 b1 => by omega)
    · refine ih (j + 1) μ1 R1 hd' hj1 H1 (f.trans f1) (g59.trans f59) (fun s s1 => (fr1 s s1).trans (fr s s1)) (fun b d b0 bd' dn q => ?_)
      by_cases q2 : b = j
      · rw [q2]; exact no d (by omega) dn
      · exact hb b d b0 bd' dn (by omega)
    · refine h1 μ1 R1 j k H1 (f.trans f1) (fun s s1 s2 => (fr1 s s1 s2).trans (fr s s1)) hij' k1 k2 pr (fun b d b0 bd' dn q => ?_) nm
      rcases q with q | ⟨q1, q2⟩
      · exact hb b d b0 bd' dn q
      · rw [q1]; exact hbk d (by omega) q2
theorem sp_X12_threes {Q X : m_Po} {ε : m_E} {μ : m_M} {M : Int} {n : Nat} {h v m c code R : Int → Int} (n48 : n ≤ 48) (B : RB h v m c n) (H : RG ε μ M R) (W : RW μ M n h v m c) (hcode : ∀ q, μ (M + 30) q = code q)
    (h1 : ∀ (μ' : m_M) (R' : Int → Int) (i j k : Int), RG ε μ' M R' → FNs M μ μ' → (∀ s, ¬ tme s → s < 92 → R' s = R s) → Fst3 (Pr3 h v m c) n i j k → NMc μ' M R' 3 (ix3 i j k) (a3 h v m i j k) c code → Q 1 ε μ')
    (h0 : ∀ μ' R', RG ε μ' M R' → FNs M μ μ' → μ' M 59 = μ M 59 → (∀ s, ¬ tme s → R' s = R s) → No3 (Pr3 h v m c) n → Q 0 ε μ') : o_X12_threes [(2, M)] ε μ Q X := by
  have loop : ∀ (d i : Nat) (μ1 : m_M) (R1 : Int → Int), i + d = n → RG ε μ1 M R1 → FNs M μ μ1 → μ1 M 59 = μ M 59 → (∀ s, ¬ tme s → R1 s = R s) → (∀ a b d : Int, 0 ≤ a → a < b → b < d → d < n → a < i → ¬ Pr3 h v m c a b d) → G cd_X12_threes Q X 2 [(0, (2, M)), (1, (0, i))] [] ε μ1 := by
    intro d
    induction d with
    | zero =>
      intro i μ1 R1 hd H1 f f59 fr hb
      have e : i = n := by omega
      subst e
      have W1 := W.fns f
      have jn : ¬ (i : Int) < i := by omega
      apply g_X12_threes_2
      rw [W1.1]
      exact fun _ _ => ⟨H1.1.k, fun _ => h0 μ1 R1 H1 f f59 fr (fun a b d a0 ab' bd' dn => hb a b d a0 ab' bd' dn (by omega)), fun z => absurd z jn⟩
    | succ d ih =>
      intro i μ1 R1 hd H1 f f59 fr hb
      have W1 := W.fns f
      have iN : ¬ (n : Int) ≤ i := by omega
      have i0 : (0 : Int) ≤ i := by omega
      have im : i < 2147483647 := by omega
      have hd' : i + 1 + d = n := by omega
      have hi : i < n := by omega
      apply g_X12_threes_2
      rw [W1.1]
      refine fun _ _ => ⟨H1.1.k, fun z => absurd z iN, fun _ v2 e2 => ?_⟩
      rw [w32_succ im e2]
      clear e2
      refine t3_j n48 B hi W1 (fun q => (f _ q (nbc (by decide)) (by omega) (by omega) (by omega) (by omega)).trans (hcode q)) (R0 := R1) (fun μ2 R2 H2 f2 g59 fr2 no => ih (i + 1) μ2 R2 hd' H2 (f.trans f2) (g59.trans f59) (fun s s1 => (fr2 s s1).trans (fr s s1)) (fun a b d a0 ab' bd' dn q => ?_)) (fun μ2 R2 j k H2 f2 fr2 j1 j2 j3 pr hbj nm => h1 μ2 R2 i j k H2 (f.trans f2) (fun s s1 s2 => (fr2 s s1 s2).trans (fr s s1)) ⟨i0, j1, j2, j3, pr, fun a b d a0 ab' bd' dn q => ?_⟩ nm) d (i + 1) μ1 R1 hd' (by omega) H1 FNs.rf rfl (fun _ _ => rfl) (fun b d b0 bd' dn q => by omega)
      · by_cases q2 : a = i
        · rw [q2]; exact no b d (by omega) bd' dn
        · exact hb a b d a0 ab' bd' dn (by omega)
      · rcases q with q | ⟨q1, q⟩
        · exact hb a b d a0 ab' bd' dn q
        · rw [q1]; exact hbj b d (by omega) bd' dn q
  apply e_X12_threes
  intro _ v1 e1
  rw [e1]
  exact loop n 0 μ R (by omega) H FNs.rf rfl (fun _ _ => rfl) (fun a b d a0 _ _ _ q => by omega)
