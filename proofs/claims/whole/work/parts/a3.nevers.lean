/-! ===== the reference's fours, whole; nevers ===== -/
theorem o4_l {Q X : m_Po} {ε : m_E} {M i j : Int} {n k : Nat} {h v m c code R0 : Int → Int} (n48 : n ≤ 48) (B : RB h v m c n) (hi : 0 ≤ i) (hij : i < j) (hjk : j < k) (hk : k < n) {μ0 : m_M} (W0 : RW μ0 M n h v m c) (hcode : ∀ q, μ0 (M + 30) q = code q)
    (nxt : ∀ μ' R', RG ε μ' M R' → FNs M μ0 μ' → μ' M 59 = μ0 M 59 → (∀ s, ¬ tme s → R' s = R0 s) → (∀ e : Int, (k : Int) < e → e < n → ¬ Pr4 h v m c i j k e) → G cd_X12_fours Q X 333 [(0, (2, M)), (1, (0, i)), (2, (0, j)), (3, (0, k))] [] ε μ')
    (h1 : ∀ (μ' : m_M) (R' : Int → Int) (l : Int), RG ε μ' M R' → FNs M μ0 μ' → (∀ s, ¬ tme s → s < 92 → R' s = R0 s) → (k : Int) < l → l < n → Pr4 h v m c i j k l → (∀ e : Int, (k : Int) < e → e < l → ¬ Pr4 h v m c i j k e) → NMc μ' M R' 4 (ix4 i j k l) (a4 h v m i j k l) c code → Q 0 ε μ') :
    ∀ (d l : Nat) (μ : m_M) (R : Int → Int), l + d = n → k < l → RG ε μ M R → FNs M μ0 μ → μ M 59 = μ0 M 59 → (∀ s, ¬ tme s → R s = R0 s) → (∀ e : Int, (k : Int) < e → e < l → ¬ Pr4 h v m c i j k e) → G cd_X12_fours Q X 48 [(0, (2, M)), (1, (0, i)), (2, (0, j)), (3, (0, k)), (4, (1, dt3 h v m i j k)), (6, (0, l))] [] ε μ := by
  have hi' : 0 ≤ i ∧ i < n := by omega
  have hj' : 0 ≤ j ∧ j < n := by omega
  have hk' : 0 ≤ (k : Int) ∧ (k : Int) < n := by omega
  intro d
  induction d with
  | zero =>
    intro l μ R hd hkl H f f59 fr hb
    have e : l = n := by omega
    subst e
    have W := W0.fns f
    have kn : ¬ (l : Int) < l := by omega
    apply g_X12_fours_48
    rw [W.1]
    exact fun _ _ _ _ _ _ => ⟨H.1.k, fun _ => nxt μ R H f f59 fr hb, fun z => absurd z kn⟩
  | succ d ih =>
    intro l μ R hd hkl H f f59 fr hb
    have W := W0.fns f
    have hl' : 0 ≤ (l : Int) ∧ (l : Int) < n := by omega
    have kl : (k : Int) < l := by omega
    have lN : ¬ (n : Int) ≤ l := by omega
    have lm : l < 2147483647 := by omega
    have hd' : l + 1 + d = n := by omega
    have hl1 : k < l + 1 := by omega
    apply g_X12_fours_48
    rw [W.1]
    refine fun _ _ _ _ _ _ => ⟨H.1.k, fun z => absurd z lN, fun _ => ⟨fun z => nxt μ R H f f59 fr (fun e e0 e1 p => (hope p.1).1 z), fun z => ?_⟩⟩
    refine fo_go n48 B H W (fun q => (f _ q (nbc (by decide)) (by omega) (by omega) (by omega) (by omega)).trans (hcode q)) hi' hj' hk' hl' z (fun μ' R' H' f' g59 fr' np => ?_) (fun μ' R' H' f' fr' pr nm => h1 μ' R' l H' (f.trans f') (fun s s1 s2 => (fr' s s1 s2).trans (fr s s1)) kl hl'.2 pr hb nm)
    apply g_X12_fours_327
    refine fun _ _ _ _ _ _ v6 e6 => ?_
    rw [w32_succ lm e6]
    clear e6
    refine ih (l + 1) μ' R' hd' hl1 H' (f.trans f') (g59.trans f59) (fun s s1 => (fr' s s1).trans (fr s s1)) (fun b b0 b1 => ?_)
    by_cases q : b = l
    · rw [q]; exact np
    · exact hb b b0 (by omega)
theorem o4_k {Q X : m_Po} {ε : m_E} {M i : Int} {n j : Nat} {h v m c code R0 : Int → Int} (n48 : n ≤ 48) (B : RB h v m c n) (hi : 0 ≤ i) (hij : i < j) (hj : j < n) {μ0 : m_M} (W0 : RW μ0 M n h v m c) (hcode : ∀ q, μ0 (M + 30) q = code q)
    (nxt : ∀ μ' R', RG ε μ' M R' → FNs M μ0 μ' → μ' M 59 = μ0 M 59 → (∀ s, ¬ tme s → R' s = R0 s) → (∀ d e : Int, (j : Int) < d → d < e → e < n → ¬ Pr4 h v m c i j d e) → G cd_X12_fours Q X 14 [(0, (2, M)), (1, (0, i)), (2, (0, ((j + 1 : Nat) : Int)))] [] ε μ')
    (h1 : ∀ (μ' : m_M) (R' : Int → Int) (k l : Int), RG ε μ' M R' → FNs M μ0 μ' → (∀ s, ¬ tme s → s < 92 → R' s = R0 s) → (j : Int) < k → k < l → l < n → Pr4 h v m c i j k l → (∀ d e : Int, (j : Int) < d → d < e → e < n → (d < k ∨ (d = k ∧ e < l)) → ¬ Pr4 h v m c i j d e) → NMc μ' M R' 4 (ix4 i j k l) (a4 h v m i j k l) c code → Q 0 ε μ') :
    ∀ (d k : Nat) (μ : m_M) (R : Int → Int), k + d = n → j < k → RG ε μ M R → FNs M μ0 μ → μ M 59 = μ0 M 59 → (∀ s, ¬ tme s → R s = R0 s) → (∀ d e : Int, (j : Int) < d → d < e → e < n → d < k → ¬ Pr4 h v m c i j d e) → G cd_X12_fours Q X 26 [(0, (2, M)), (1, (0, i)), (2, (0, j)), (3, (0, k))] [] ε μ := by
  have hi' : 0 ≤ i ∧ i < n := by omega
  have hj' : 0 ≤ (j : Int) ∧ (j : Int) < n := by omega
  intro d
  induction d with
  | zero =>
    intro k μ R hd hjk H f f59 fr hb
    have e : k = n := by omega
    subst e
    have W := W0.fns f
    have kn : ¬ (k : Int) < k := by omega
    have jm : j < 2147483647 := by omega
    apply g_X12_fours_26
    rw [W.1]
    refine fun _ _ _ _ => ⟨H.1.k, fun _ v2 e2 => ?_, fun z => absurd z kn⟩
    rw [w32_succ jm e2]
    clear e2
    exact nxt μ R H f f59 fr (fun d e d0 de en => hb d e d0 de en (by omega))
  | succ d ih =>
    intro k μ R hd hjk H f f59 fr hb
    have W := W0.fns f
    have hk' : 0 ≤ (k : Int) ∧ (k : Int) < n := by omega
    have jk : (j : Int) < k := by omega
    have kN : ¬ (n : Int) ≤ k := by omega
    have km : k < 2147483647 := by omega
    have n48' : (n : Int) ≤ 48 := by omega
    have hd' : k + 1 + d = n := by omega
    have hk1 : j < k + 1 := by omega
    apply g_X12_fours_26
    rw [W.1]
    refine fun _ _ _ _ => ⟨H.1.k, fun z => absurd z kN, fun _ => sp_X12_minor H.1 n48' W B hi' hj' hk' ?_⟩
    apply g_X12_fours_41
    refine fun _ _ _ _ _ v4 e4 v6 e6 => ?_
    rw [e4, w32_succ km e6]
    clear e6 e4
    refine o4_l n48 B hi hij jk (by omega) W (fun q => (f _ q (nbc (by decide)) (by omega) (by omega) (by omega) (by omega)).trans (hcode q)) (R0 := R) (fun μ1 R1 H1 f1 g59 fr1 no => ?_) (fun μ1 R1 l H1 f1 fr1 l1 l2 pr hbl nm => ?_) d (k + 1) μ R hd' (by omega) H FNs.rf rfl (fun _ _ => rfl) (fun e e0 e1 => by omega)
    · apply g_X12_fours_333
      refine fun _ _ _ _ v3 e3 => ?_
      rw [w32_succ km e3]
      clear e3
      refine ih (k + 1) μ1 R1 hd' hk1 H1 (f.trans f1) (g59.trans f59) (fun s s1 => (fr1 s s1).trans (fr s s1)) (fun d e d0 de en q => ?_)
      by_cases q2 : d = k
      · rw [q2]; exact no e (by omega) en
      · exact hb d e d0 de en (by omega)
    · refine h1 μ1 R1 k l H1 (f.trans f1) (fun s s1 s2 => (fr1 s s1 s2).trans (fr s s1)) jk l1 l2 pr (fun d e d0 de en q => ?_) nm
      rcases q with q | ⟨q1, q2⟩
      · exact hb d e d0 de en q
      · rw [q1]; exact hbl e (by omega) q2
theorem o4_j {Q X : m_Po} {ε : m_E} {M : Int} {n i : Nat} {h v m c code R0 : Int → Int} (n48 : n ≤ 48) (B : RB h v m c n) (hi : i < n) {μ0 : m_M} (W0 : RW μ0 M n h v m c) (hcode : ∀ q, μ0 (M + 30) q = code q)
    (nxt : ∀ μ' R', RG ε μ' M R' → FNs M μ0 μ' → μ' M 59 = μ0 M 59 → (∀ s, ¬ tme s → R' s = R0 s) → (∀ b d e : Int, (i : Int) < b → b < d → d < e → e < n → ¬ Pr4 h v m c i b d e) → G cd_X12_fours Q X 2 [(0, (2, M)), (1, (0, ((i + 1 : Nat) : Int)))] [] ε μ')
    (h1 : ∀ (μ' : m_M) (R' : Int → Int) (j k l : Int), RG ε μ' M R' → FNs M μ0 μ' → (∀ s, ¬ tme s → s < 92 → R' s = R0 s) → (i : Int) < j → j < k → k < l → l < n → Pr4 h v m c i j k l → (∀ b d e : Int, (i : Int) < b → b < d → d < e → e < n → (b < j ∨ (b = j ∧ (d < k ∨ (d = k ∧ e < l)))) → ¬ Pr4 h v m c i b d e) → NMc μ' M R' 4 (ix4 i j k l) (a4 h v m i j k l) c code → Q 0 ε μ') :
    ∀ (d j : Nat) (μ : m_M) (R : Int → Int), j + d = n → i < j → RG ε μ M R → FNs M μ0 μ → μ M 59 = μ0 M 59 → (∀ s, ¬ tme s → R s = R0 s) → (∀ b d e : Int, (i : Int) < b → b < d → d < e → e < n → b < j → ¬ Pr4 h v m c i b d e) → G cd_X12_fours Q X 14 [(0, (2, M)), (1, (0, i)), (2, (0, j))] [] ε μ := by
  intro d
  induction d with
  | zero =>
    intro j μ R hd hij H f f59 fr hb
    have e : j = n := by omega
    subst e
    have W := W0.fns f
    have kn : ¬ (j : Int) < j := by omega
    have im : i < 2147483647 := by omega
    apply g_X12_fours_14
    rw [W.1]
    refine fun _ _ _ => ⟨H.1.k, fun _ v1 e1 => ?_, fun z => absurd z kn⟩
    rw [w32_succ im e1]
    clear e1
    exact nxt μ R H f f59 fr (fun b d e b0 bd' de en => hb b d e b0 bd' de en (by omega))
  | succ d ih =>
    intro j μ R hd hij H f f59 fr hb
    have W := W0.fns f
    have i0 : (0 : Int) ≤ i := by omega
    have hij' : (i : Int) < j := by omega
    have jN : ¬ (n : Int) ≤ j := by omega
    have jm : j < 2147483647 := by omega
    have hd' : j + 1 + d = n := by omega
    have hj1 : i < j + 1 := by omega
    apply g_X12_fours_14
    rw [W.1]
    refine fun _ _ _ => ⟨H.1.k, fun z => absurd z jN, fun _ v3 e3 => ?_⟩
    rw [w32_succ jm e3]
    clear e3
    refine o4_k n48 B i0 hij' (by omega) W (fun q => (f _ q (nbc (by decide)) (by omega) (by omega) (by omega) (by omega)).trans (hcode q)) (R0 := R) (fun μ1 R1 H1 f1 g59 fr1 no => ?_) (fun μ1 R1 k l H1 f1 fr1 k1 k2 k3 pr hbk nm => ?_) d (j + 1) μ R hd' (by omega) H FNs.rf rfl (fun _ _ => rfl) (fun d e d0 de en q => by omega)
    · refine ih (j + 1) μ1 R1 hd' hj1 H1 (f.trans f1) (g59.trans f59) (fun s s1 => (fr1 s s1).trans (fr s s1)) (fun b d e b0 bd' de en q => ?_)
      by_cases q2 : b = j
      · rw [q2]; exact no d e (by omega) de en
      · exact hb b d e b0 bd' de en (by omega)
    · refine h1 μ1 R1 j k l H1 (f.trans f1) (fun s s1 s2 => (fr1 s s1 s2).trans (fr s s1)) hij' k1 k2 k3 pr (fun b d e b0 bd' de en q => ?_) nm
      rcases q with q | ⟨q1, q2⟩
      · exact hb b d e b0 bd' de en q
      · rw [q1]; exact hbk d e (by omega) de en q2
theorem sp_X12_fours {Q X : m_Po} {ε : m_E} {μ : m_M} {M : Int} {n : Nat} {h v m c code R : Int → Int} (n48 : n ≤ 48) (B : RB h v m c n) (H : RG ε μ M R) (W : RW μ M n h v m c) (hcode : ∀ q, μ (M + 30) q = code q)
    (h1 : ∀ (μ' : m_M) (R' : Int → Int) (i j k l : Int), RG ε μ' M R' → FNs M μ μ' → (∀ s, ¬ tme s → s < 92 → R' s = R s) → Fst4 (Pr4 h v m c) n i j k l → NMc μ' M R' 4 (ix4 i j k l) (a4 h v m i j k l) c code → Q 0 ε μ')
    (h0 : ∀ μ' R', RG ε μ' M R' → FNs M μ μ' → μ' M 59 = μ M 59 → (∀ s, ¬ tme s → R' s = R s) → No4 (Pr4 h v m c) n → Q 0 ε μ') : o_X12_fours [(2, M)] ε μ Q X := by
  have loop : ∀ (d i : Nat) (μ1 : m_M) (R1 : Int → Int), i + d = n → RG ε μ1 M R1 → FNs M μ μ1 → μ1 M 59 = μ M 59 → (∀ s, ¬ tme s → R1 s = R s) → (∀ a b d e : Int, 0 ≤ a → a < b → b < d → d < e → e < n → a < i → ¬ Pr4 h v m c a b d e) → G cd_X12_fours Q X 2 [(0, (2, M)), (1, (0, i))] [] ε μ1 := by
    intro d
    induction d with
    | zero =>
      intro i μ1 R1 hd H1 f f59 fr hb
      have e : i = n := by omega
      subst e
      have W1 := W.fns f
      have jn : ¬ (i : Int) < i := by omega
      apply g_X12_fours_2
      rw [W1.1]
      exact fun _ _ => ⟨H1.1.k, fun _ => h0 μ1 R1 H1 f f59 fr (fun a b d e a0 ab' bd' de en => hb a b d e a0 ab' bd' de en (by omega)), fun z => absurd z jn⟩
    | succ d ih =>
      intro i μ1 R1 hd H1 f f59 fr hb
      have W1 := W.fns f
      have iN : ¬ (n : Int) ≤ i := by omega
      have i0 : (0 : Int) ≤ i := by omega
      have im : i < 2147483647 := by omega
      have hd' : i + 1 + d = n := by omega
      have hi : i < n := by omega
      apply g_X12_fours_2
      rw [W1.1]
      refine fun _ _ => ⟨H1.1.k, fun z => absurd z iN, fun _ v2 e2 => ?_⟩
      rw [w32_succ im e2]
      clear e2
      refine o4_j n48 B hi W1 (fun q => (f _ q (nbc (by decide)) (by omega) (by omega) (by omega) (by omega)).trans (hcode q)) (R0 := R1) (fun μ2 R2 H2 f2 g59 fr2 no => ih (i + 1) μ2 R2 hd' H2 (f.trans f2) (g59.trans f59) (fun s s1 => (fr2 s s1).trans (fr s s1)) (fun a b d e a0 ab' bd' de en q => ?_)) (fun μ2 R2 j k l H2 f2 fr2 j1 j2 j3 j4 pr hbj nm => h1 μ2 R2 i j k l H2 (f.trans f2) (fun s s1 s2 => (fr2 s s1 s2).trans (fr s s1)) ⟨i0, j1, j2, j3, j4, pr, fun a b d e a0 ab' bd' de en q => ?_⟩ nm) d (i + 1) μ1 R1 hd' (by omega) H1 FNs.rf rfl (fun _ _ => rfl) (fun b d e b0 bd' de en q => by omega)
      · by_cases q2 : a = i
        · rw [q2]; exact no b d e (by omega) bd' de en
        · exact hb a b d e a0 ab' bd' de en (by omega)
      · rcases q with q | ⟨q1, q⟩
        · exact hb a b d e a0 ab' bd' de en q
        · rw [q1]; exact hbj b d e (by omega) bd' de en q
  apply e_X12_fours
  intro _ v1 e1
  rw [e1]
  exact loop n 0 μ R (by omega) H FNs.rf rfl (fun _ _ => rfl) (fun a b d e a0 _ _ _ _ q => by omega)
theorem sp_X12_nevers {Q X : m_Po} {ε : m_E} {μ : m_M} {M : Int} {n : Nat} {h v m c code R : Int → Int} (n48 : n ≤ 48) (B : RB h v m c n) (nz : NZ h v m n) (H : RG ε μ M R) (W : RW μ M n h v m c) (hcode : ∀ q, μ (M + 30) q = code q)
    (hh : ∀ (μ' : m_M) (R' : Int → Int) (k : Nat) (ix a : Int → Int), RG ε μ' M R' → FNs M μ μ' → (∀ s, ¬ tme s → s < 92 → R' s = R s) → Srch h v m c n k ix a → (k ≠ 0 → NMc μ' M R' k ix a c code) → (k = 0 → μ' M 59 = μ M 59) → Q 0 ε μ') : o_X12_nevers [(2, M)] ε μ Q X := by
  apply e_X12_nevers
  refine fun _ => ⟨H.1.k, sp_X12_pairs n48 B nz H W hcode (fun μ1 R1 i j H1 f1 fr1 F nm => ?_) (fun μ1 R1 H1 f1 g1 fr1 no2 => ?_)⟩
  · apply g_X12_nevers_4
    refine fun _ _ => ⟨fun _ => ?_, fun z => absurd z (by decide)⟩
    apply g_X12_nevers_18
    exact fun _ => hh μ1 R1 2 _ _ H1 f1 fr1 (Or.inl ⟨rfl, i, j, F, rfl, rfl⟩) (fun _ => nm) (fun z => absurd z (by decide))
  · have W1 := W.fns f1
    have c1 : ∀ q, μ1 (M + 30) q = code q := fun q => (f1 _ q (nbc (by decide)) (by omega) (by omega) (by omega) (by omega)).trans (hcode q)
    apply g_X12_nevers_4
    refine fun _ _ => ⟨fun z => absurd rfl z, fun _ => ⟨H1.1.k, sp_X12_threes n48 B H1 W1 c1 (fun μ2 R2 i j k H2 f2 fr2 F nm => ?_) (fun μ2 R2 H2 f2 g2 fr2 no3 => ?_)⟩⟩
    · apply g_X12_nevers_11
      refine fun _ _ => ⟨fun _ => ?_, fun z => absurd z (by decide)⟩
      apply g_X12_nevers_18
      exact fun _ => hh μ2 R2 3 _ _ H2 (f1.trans f2) (fun s s1 s2 => (fr2 s s1 s2).trans (fr1 s s1)) (Or.inr (Or.inl ⟨rfl, no2, i, j, k, F, rfl, rfl⟩)) (fun _ => nm) (fun z => absurd z (by decide))
    · have W2' := W1.fns f2
      have c2 : ∀ q, μ2 (M + 30) q = code q := fun q => (f2 _ q (nbc (by decide)) (by omega) (by omega) (by omega) (by omega)).trans (c1 q)
      apply g_X12_nevers_11
      refine fun _ _ => ⟨fun z => absurd rfl z, fun _ => ⟨H2.1.k, sp_X12_fours n48 B H2 W2' c2 (fun μ3 R3 i j k l H3 f3 fr3 F nm => ?_) (fun μ3 R3 H3 f3 g3 fr3 no4 => ?_)⟩⟩
      · apply g_X12_nevers_18
        exact fun _ => hh μ3 R3 4 _ _ H3 ((f1.trans f2).trans f3) (fun s s1 s2 => (fr3 s s1 s2).trans ((fr2 s s1).trans (fr1 s s1))) (Or.inr (Or.inr (Or.inl ⟨rfl, no2, no3, i, j, k, l, F, rfl, rfl⟩))) (fun _ => nm) (fun z => absurd z (by decide))
      · apply g_X12_nevers_18
        exact fun _ => hh μ3 R3 0 (fun _ => 0) (fun _ => 0) H3 ((f1.trans f2).trans f3) (fun s s1 s2 => (fr3 s s1).trans ((fr2 s s1).trans (fr1 s s1))) (Or.inr (Or.inr (Or.inr ⟨rfl, no2, no3, no4⟩))) (fun z => absurd rfl z) (fun _ => g3.trans (g2.trans g1))
