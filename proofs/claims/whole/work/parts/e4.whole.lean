set_option maxHeartbeats 1000000
/-! ===== archAt, requireWhole, isArch; pairs of calls: whole, joint ===== -/
theorem sp_X10_archAt {Q Y : m_Po} {ε : m_E} {μ σ : m_M} {X i : Int} {ow : Int → Int} (S : SL ε X) (C : CAr ε μ X ow σ) (h1 : i < 0 ∨ σ 0 27 ≤ i → ∀ z : Int, nx ε ≤ z → Y 1 (enx ε z) μ) (h0 : 0 ≤ i → i < σ 0 27 → CAa ε μ X ow σ i (μ (X + 3) i) → Q (μ (X + 3) i) ε μ) : o_X10_archAt [(2, X), (0, i)] ε μ Q Y := by
  obtain ⟨c1, c2, c3, c4⟩ := C
  apply e_X10_archAt
  rw [S.1.f2.1, S.1.f2.2.2, c1]
  intro T _
  refine ⟨fun q => h1 (Or.inl q), fun q => ⟨S.1.k, fun r => h1 (Or.inr r), fun r => ⟨S.1.f2.2.1, fun _ => ⟨q, by omega, fun v2 h2 => ?_⟩, fun u => by omega⟩⟩⟩
  have K := c4 i q r
  have pos := (T.1 (μ (X + 3) i) (by rw [K.1.k]; decide)).1
  exact ⟨fun u => by omega, fun _ => by rw [h2]; exact h0 q r K⟩
theorem sp_X10_requireWhole {Q Y : m_Po} {ε : m_E} {μ σ : m_M} {a P : Int} (A : AF ε μ σ a P) (G' : MG σ a) (C : SPc μ σ a P) (h0 : ∀ μ', FA2 P μ μ' → SPc μ' σ a P → ho σ a = -1 → μ' P 16 = 1 → Q 0 ε μ') (h3 : ∀ μ', FA2 P μ μ' → SPc μ' σ a P → ho σ a ≠ -1 → ∀ z : Int, nx ε ≤ z → Y 3 (enx ε z) μ') : o_X10_requireWhole [(2, P)] ε μ Q Y := by
  apply e_X10_requireWhole
  refine fun _ => ⟨A.1.1.k, sp_X0_fault A G' C (fun μ1 f1 s1 k1 => ?_)⟩
  apply g_X10_requireWhole_4
  exact fun _ _ => ⟨fun q => h0 μ1 f1 s1 q (k1 q), fun q => h3 μ1 f1 s1 q⟩
theorem sp_X12_isArch {Q Y : m_Po} {ε : m_E} {μ : m_M} {M i : Int} (L : LM ε M) (h0 : 0 ≤ i → i < μ M 27 → Q 1 ε (st μ M 0 0)) (h1 : i < 0 ∨ μ M 27 ≤ i → Q 0 ε (st μ M 0 1)) : o_X12_isArch [(2, M), (0, i)] ε μ Q Y := by
  apply e_X12_isArch
  refine fun _ _ => ⟨fun _ => L.k, fun t ht => ⟨L.k, fun μ1 m1 => ⟨L.k, fun t1 ht1 => ?_⟩⟩⟩
  rw [m1, sx_same] at ht1
  rw [m1]
  by_cases q : i < 0
  · rw [if_pos q] at ht
    rw [ht] at ht1 ⊢
    rw [ht1]; exact h1 (Or.inl q)
  · rw [if_neg q] at ht
    by_cases r : i < μ M 27
    · rw [if_pos r] at ht
      rw [ht] at ht1 ⊢
      rw [ht1]; exact h0 (by omega) r
    · rw [if_neg r] at ht
      rw [ht] at ht1 ⊢
      rw [ht1]; exact h1 (Or.inr (by omega))
/-- cells that calls use and leave -/
def sc2 (X b j : Int) : Prop := (X + 4 ≤ b ∧ b ≤ X + 19) ∨ b = X + 33 ∨ b = X + 141 ∨ (X + 34 + 25 ≤ b ∧ b ≤ X + 34 + 30) ∨ (X + 34 + 44 ≤ b ∧ b ≤ X + 34 + 46) ∨ b = X + 34 + 106 ∨ (b = X + 34 ∧ (j = 0 ∨ (28 ≤ j ∧ j ≤ 49)))
theorem sc2.q {X b j : Int} (h : sc2 X b j) : scq X b j := by unfold sc2 at h; unfold scq; omega
theorem RG.sc {ε : m_E} {μ μ' : m_M} {X : Int} {R : Int → Int} (G' : RG ε μ (X + 34) R) (f : ∀ b j, b ≤ X + 141 → ¬ sc2 X b j → μ' b j = μ b j) : RG ε μ' (X + 34) R := G'.of (fun b j h => by
  have hb : X + 34 + 31 ≤ b ∧ b ≤ X + 34 + 101 ∧ b ≠ X + 34 + 44 ∧ b ≠ X + 34 + 45 ∧ b ≠ X + 34 + 46 := by
    rcases h with h | ⟨q, hq, z⟩
    · have := bc_rng h; omega
    · have := (by decide : ∀ q ∈ lm_a, 31 ≤ q.1 ∧ q.1 ≤ 91 ∧ q.1 ≠ 44 ∧ q.1 ≠ 45 ∧ q.1 ≠ 46) q hq
      omega
  exact f _ _ (by omega) (fun z => by unfold sc2 at z; omega))
theorem JV.sc {μ μ' : m_M} {X : Int} {R : Int → Int} (J : JV μ (X + 20) (X + 34) R) (f : ∀ b j, b ≤ X + 141 → ¬ sc2 X b j → μ' b j = μ b j) : JV μ' (X + 20) (X + 34) R := J.fr (fun b j h => f _ _ (by unfold vc at h; omega) (fun z => by unfold vc at h; unfold sc2 at z; omega)) (fun _ _ _ => ⟨rfl, rfl⟩) (fun _ _ _ => rfl)
theorem PG.sc {μ μ' : m_M} {X : Int} (P : PG μ (X + 29) (X + 34)) (f : ∀ b j, b ≤ X + 141 → ¬ sc2 X b j → μ' b j = μ b j) : PG μ' (X + 29) (X + 34) := by
  obtain ⟨t, t1, t2, t3⟩ := P
  have g : ∀ b j, b = X + 29 + 1 ∨ b = X + 29 ∨ b = X + 34 + 104 ∨ (b = X + 34 ∧ j = 63) → μ' b j = μ b j := fun b j h => f _ _ (by omega) (fun z => by unfold sc2 at z; omega)
  exact ⟨t, t1, t2.congr (g _ _ (by omega)) (fun j _ _ => g _ _ (by omega)), t3.congr (g _ _ (by omega)) (fun j _ _ => g _ _ (by omega))⟩
theorem Rel.fin {ε ε' : m_E} {μ μ' : m_M} {X a : Int} {ow R : Int → Int} (S : SL ε X) (G' : RG ε μ (X + 34) R) (J : JV μ (X + 20) (X + 34) R) (P : PG μ (X + 29) (X + 34)) (C : Core ε μ X ow (sgM μ (X + 34))) (e : EX ε ε') (a0 : 0 ≤ a) (a1 : a < sgM μ (X + 34) 0 27) (f : ∀ b j, ¬ sc2 X b j → b ≠ μ (X + 3) a + 8 → b ≠ μ (X + 3) a + 9 → ¬ (b = μ (X + 3) a ∧ j = 16) → μ' b j = μ b j) (sp : SPc μ' (sgM μ (X + 34)) a (μ (X + 3) a)) : Rel ε' μ' X := by
  have x := (C.2.2.2.1.2.2.2 a a0 a1).2.1
  have f' : ∀ b j, b ≤ X + 141 → ¬ sc2 X b j → μ' b j = μ b j := fun b j h h' => f b j h' (by omega) (by omega) (by omega)
  exact ⟨ow, R, S.ex e, (G'.sc f').ex e, J.sc f', P.sc f', C.fa e a0 a1 (fun b j h h1 h2 h3 => f b j (fun z => h z.q) h1 h2 h3) sp⟩
theorem Rel.fin0 {ε ε' : m_E} {μ μ' : m_M} {X : Int} (H : Rel ε μ X) (e : EX ε ε') (f : ∀ b j, ¬ sc2 X b j → μ' b j = μ b j) : Rel ε' μ' X := by
  obtain ⟨ow, R, S, G', J, P, C⟩ := H
  exact ⟨ow, R, S.ex e, (G'.sc (fun b j _ h => f b j h)).ex e, J.sc (fun b j _ h => f b j h), P.sc (fun b j _ h => f b j h), C.scr e (fun b j h => f b j (fun z => h z.q))⟩
theorem SPc.fr {μ μ' σ : m_M} {a P : Int} (H : SPc μ σ a P) (f : ∀ b j, b = P ∨ b = P + 8 ∨ b = P + 9 → μ' b j = μ b j) : SPc μ' σ a P := by
  unfold SPc SPk at *
  rw [f P 16 (by omega)]
  rcases H with H | ⟨h1, h2⟩
  · exact Or.inl H
  · refine Or.inr ⟨h1, fun k k0 k1 => ?_⟩
    rw [f (P + 9) k (by omega)]
    rcases h2 k k0 k1 with z | ⟨x, x1, x2, x3⟩
    · exact Or.inl z
    · exact Or.inr ⟨x, x1, x2, at4_congr x3 (fun j _ _ => f _ _ (by omega))⟩
/-- the call is refused by both at once -/
theorem aft_thr {om : m_E → m_M → m_Po → m_Po → Prop} {ε : m_E} {μ : m_M} {X k z0 : Int} (H : Rel ε μ X) (hk : k ≠ 0) {ε1 : m_E} (e : EX ε ε1) (hm : ∀ (μ2 : m_M) (Q Y : m_Po), (∀ b j, b ≠ X + 141 → μ2 b j = μ b j) → RG ε1 μ2 (X + 34) (fun r => bv μ2 (X + 34 + r) (X + 34 + r + 1)) → Q 0 ε1 (st μ2 (X + 34) 0 k) → om ε1 μ2 Q Y) : AFT om X k z0 ε μ ε1 μ := by
  refine ⟨e, fun _ _ _ => rfl, fun μ2 f2 Q Y K => hm μ2 Q Y f2 ?_ (K _ _ (fun c j h => sx_oa (by omega)) (H.fin0 e (fun b j h => ?_)) sx_same (fun z => absurd z hk) (fun j => sx_oa (by omega)))⟩
  · obtain ⟨ow, R, S, G', J, P, C⟩ := H
    have := (G'.sc (μ' := μ2) (fun b j _ h => f2 _ _ (fun z => h (by unfold sc2; omega)))).ex e
    obtain ⟨g1, g2, g3, g4⟩ := this
    exact ⟨g1, g2, g3, fun r hr => ⟨(g4 r hr).1, rfl⟩⟩
  · rw [st, if_neg (fun z => h (by unfold sc2; omega))]
    exact f2 _ _ (fun z => h (by unfold sc2; omega))
theorem pr_whole {ε : m_E} {μ : m_M} {X i : Int} {codes : Int → Int} (c1 : codes 1 = 1) (H : Rel ε μ X) : PAIR (fun ε μ Q Y => o_X10_whole [(2, X), (0, i)] ε μ Q Y) (fun ε μ Q Y => o_X12_whole [(2, X + 34), (0, i)] ε μ Q Y) codes ε μ X := by
  intro QC XC hq hx
  have H' := H
  obtain ⟨ow, R, S, G', J, P, C⟩ := H
  have e27 : sgM μ (X + 34) 0 27 = μ (X + 34) 27 := by unfold sgM; rw [Int.add_zero]
  apply e_X10_whole
  intro T _
  refine ⟨S.1.k, sp_X10_archAt S C.2.2.2.1 (fun q z hz => hx 1 _ _ (by rw [c1]; decide) ?_) (fun q r K => ?_)⟩
  · rw [c1]
    refine aft_thr H' (by decide) EX.nx (fun μ2 Q Y f2 G2 K => ?_)
    apply e_X12_whole
    refine fun _ _ => ⟨G2.1.k, sp_X12_isArch G2.1 (fun a b => ?_) (fun _ => ?_)⟩
    · rw [f2 _ _ (by omega)] at b; omega
    · apply g_X12_whole_5
      exact fun _ _ _ => ⟨fun _ => K, fun z => absurd rfl z⟩
  · have a12 := C.2.2.2.1.2.2.1
    obtain ⟨na, ng, nB, nf⟩ := K.need T C.2.2.1 q (by omega)
    have x := K.2.1
    have sp0 := K.2.2.2.2.2.2.2.2.2.2.2.2.2.2.2.2.2.2.1
    apply g_X10_whole_5
    refine fun _ => ⟨K.1.k, sp_X0_fault nf ng sp0 (fun μ1 f1 s1 k1 => ?_)⟩
    apply g_X10_whole_8
    refine fun _ _ => hq _ _ _ ⟨EX.rf, fun b j h => f1 _ _ (by omega) (by omega) (by omega), fun μ2 f2 Q Y K2 => ?_⟩
    have m2 : ∀ b j, b ≤ X + 140 → μ2 b j = μ b j := fun b j h => by rw [f2 _ _ (by omega), f1 _ _ (by omega) (by omega) (by omega)]
    have G2 : RG ε μ2 (X + 34) R := G'.sc (fun b j h h' => m2 _ _ (by
      have : b ≠ X + 141 := fun z => h' (by unfold sc2; omega)
      omega))
    apply e_X12_whole
    refine fun _ _ => ⟨G2.1.k, sp_X12_isArch G2.1 (fun _ _ => ?_) (fun z => ?_)⟩
    · apply g_X12_whole_5
      refine fun _ _ _ => ⟨fun z => absurd z (by decide), fun _ => ⟨G2.1.k, sp_X12_holeOf (σ := sgM μ (X + 34)) G2.1 (fun o j o1 o2 => ?_) na ng (fun μ3 f3 k3 => ?_)⟩⟩
      · rw [sx_oa (by omega)]; exact m2 _ _ (by omega)
      · apply g_X12_whole_13
        have m3 : ∀ b j, b ≠ X + 34 + 25 → ¬ (b = X + 34 ∧ j = 0) → μ3 b j = μ2 b j := fun b j h h' => by rw [f3 b j h, st, if_neg h']
        refine fun _ _ => K2 _ _ (fun c j h => m3 _ _ (by omega) (by omega)) (Rel.fin S G' J P C EX.rf q r (fun b j h h1 h2 h3 => ?_) (s1.fr (fun b j h => ?_))) (by rw [f3 _ _ (by omega), sx_same]) (fun _ => rfl) (fun j => m3 _ _ (by omega) (by omega))
        · rw [m3 _ _ (fun z => h (by unfold sc2; omega)) (fun z => h (by unfold sc2; omega)), f2 _ _ (fun z => h (by unfold sc2; omega)), f1 _ _ h1 h2 h3]
        · rw [m3 _ _ (by omega) (by omega), f2 _ _ (by omega)]
    · rw [m2 _ _ (by omega)] at z; omega
