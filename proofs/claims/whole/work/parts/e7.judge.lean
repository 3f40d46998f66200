set_option maxHeartbeats 2000000
/-! ===== pair of calls: judge ===== -/
theorem st_st {μ : m_M} {a i v w : Int} : st (st μ a i v) a i w = st μ a i w := by
  funext b j
  unfold st
  by_cases y : b = a ∧ j = i
  · rw [if_pos y, if_pos y]
  · rw [if_neg y, if_neg y, if_neg y]
theorem VLc.fr {μ μ' : m_M} {V w g : Int} {h v m c code : Int → Int} {n : Nat} (H : VLc μ V w g h v m c code n) (f : ∀ d j, 0 ≤ d → d ≤ 8 → μ' (V + d) j = μ (V + d) j) : VLc μ' V w g h v m c code n := by
  unfold VLc TL at *
  simp only [f 1 _ (by decide) (by decide), f 2 _ (by decide) (by decide), f 3 _ (by decide) (by decide), f 4 _ (by decide) (by decide), f 5 _ (by decide) (by decide)]
  exact H
theorem VNc.fr {μ μ' : m_M} {V : Int} {k : Nat} {ix a c code : Int → Int} (H : VNc μ V k ix a c code) (f : ∀ d j, 0 ≤ d → d ≤ 8 → μ' (V + d) j = μ (V + d) j) : VNc μ' V k ix a c code := by
  have f0 : ∀ j, μ' V j = μ V j := fun j => by have := f 0 j (by decide) (by decide); rw [Int.add_zero] at this; exact this
  unfold VNc at *
  simp only [f0, f 5 _ (by decide) (by decide), f 6 _ (by decide) (by decide), f 7 _ (by decide) (by decide), f 8 _ (by decide) (by decide)]
  exact H
theorem JS.fr {μ μ' : m_M} {V : Int} (H : JS μ V) (f : ∀ d j, 0 ≤ d → d ≤ 8 → μ' (V + d) j = μ (V + d) j) : JS μ' V := by
  have f0 : ∀ j, μ' V j = μ V j := fun j => by have := f 0 j (by decide) (by decide); rw [Int.add_zero] at this; exact this
  unfold JS at *
  simp only [f0, f 7 _ (by decide) (by decide), f 8 _ (by decide) (by decide)]
  exact H
/-- the arch is not whole: both refuse -/
theorem aft_hole {om : m_E → m_M → m_Po → m_Po → Prop} {ε ε1 : m_E} {μ μ1 : m_M} {X a k z0 : Int} {ow R : Int → Int} (S : SL ε X) (G' : RG ε μ (X + 34) R) (J : JV μ (X + 20) (X + 34) R) (P : PG μ (X + 29) (X + 34)) (C : Core ε μ X ow (sgM μ (X + 34))) (e : EX ε ε1) (a0 : 0 ≤ a) (a1 : a < sgM μ (X + 34) 0 27) (f1 : FA2 (μ (X + 3) a) μ μ1) (s1 : SPc μ1 (sgM μ (X + 34)) a (μ (X + 3) a)) (hk : k ≠ 0)
    (hm : ∀ (μ2 : m_M) (Q Y : m_Po), (∀ b j, b ≤ X + 140 → μ2 b j = μ b j) → RG ε1 μ2 (X + 34) R → (∀ μ3, FXa (X + 34) (st μ2 (X + 34) 0 0) μ3 → Q 0 ε1 (st μ3 (X + 34) 0 k)) → om ε1 μ2 Q Y) : AFT om X k z0 ε μ ε1 μ1 := by
  have x := (C.2.2.2.1.2.2.2 a a0 a1).2.1
  refine ⟨e, fun b j h => f1 _ _ (by omega) (by omega) (by omega), fun μ2 f2 Q Y K => ?_⟩
  have m2 : ∀ b j, b ≤ X + 140 → μ2 b j = μ b j := fun b j h => by rw [f2 _ _ (by omega), f1 _ _ (by omega) (by omega) (by omega)]
  have G2 : RG ε μ2 (X + 34) R := G'.sc (fun b j h h' => m2 _ _ (by
    have : b ≠ X + 141 := fun z => h' (by unfold sc2; omega)
    omega))
  refine hm μ2 Q Y m2 (G2.ex e) (fun μ3 f3 => ?_)
  have m4 : ∀ b j, b ≠ X + 34 + 25 → ¬ (b = X + 34 ∧ j = 0) → st μ3 (X + 34) 0 k b j = μ2 b j := fun b j h h' => by rw [st, if_neg h', f3 b j h, st, if_neg h']
  refine K _ _ (fun c j h => m4 _ _ (by omega) (by omega)) (Rel.fin S G' J P C e a0 a1 (fun b j h h1 h2 h3 => ?_) (s1.fr (fun b j h => ?_))) sx_same (fun z => absurd z hk) (fun j => m4 _ _ (by omega) (by omega))
  · rw [m4 _ _ (fun z => h (by unfold sc2; omega)) (fun z => h (by unfold sc2; omega)), f2 _ _ (fun z => h (by unfold sc2; omega)), f1 _ _ h1 h2 h3]
  · rw [m4 _ _ (by omega) (by omega), f2 _ _ (by omega)]
theorem SF.of {μ μ2 : m_M} {X : Int} (m2 : ∀ b j, b ≤ X + 140 → μ2 b j = μ b j) : SF μ2 (X + 34) (sgM μ (X + 34)) := fun o j o1 o2 => m2 _ _ (by omega)
theorem pr_judge {ε : m_E} {μ : m_M} {X i w : Int} {codes : Int → Int} (c1 : codes 1 = 1) (c2 : codes 2 = 2) (c3 : codes 3 = 3) (H : Rel ε μ X) : PAIR (fun ε μ Q Y => o_X10_judge [(2, X), (0, i), (0, w)] ε μ Q Y) (fun ε μ Q Y => o_X12_judge [(2, X + 34), (0, i), (0, w)] ε μ Q Y) codes ε μ X := by
  intro QC XC hq hx
  have H' := H
  obtain ⟨ow, R, S, G', J, P, C⟩ := H
  have e27 : sgM μ (X + 34) 0 27 = μ (X + 34) 27 := by unfold sgM; rw [Int.add_zero]
  apply e_X10_judge
  intro T _ _
  have a12 := C.2.2.2.1.2.2.1
  have N : ∀ μ2 : m_M, (∀ b j, b ≤ X + 140 → μ2 b j = μ b j) → 0 ≤ i → i < μ2 (X + 34) 27 → MA (sgM μ (X + 34)) i ∧ MG (sgM μ (X + 34)) i := fun μ2 m2 a b => by
    rw [m2 _ _ (by omega)] at b
    obtain ⟨na, ng, _, _⟩ := (C.2.2.2.1.2.2.2 i a (by omega)).need T C.2.2.1 a (by omega)
    exact ⟨na, ng⟩
  have f140 : ∀ {μ2 : m_M}, (∀ b j, b ≠ X + 141 → μ2 b j = μ b j) → ∀ b j, b ≤ X + 140 → μ2 b j = μ b j := fun f b j h => f b j (by omega)
  refine ⟨S.1.k, sp_X10_archAt S C.2.2.2.1 (fun q z hz => hx 1 _ _ (by rw [c1]; decide) ?_) (fun q r K => ?_)⟩
  · rw [c1]
    refine aft_thr H' (by decide) EX.nx (fun μ2 Q Y f2 G2 K => ?_)
    have e' := f140 f2 (X + 34) 27 (by omega)
    apply e_X12_judge
    refine fun _ _ _ => ⟨G2.1.k, sp_X12_isJudged G2.1 (SF.of (f140 f2)) (N μ2 (f140 f2)) (fun _ => ?_) (fun a b => by omega) (fun a b => by omega) (fun a b => by omega)⟩
    apply g_X12_judge_7
    exact fun _ _ _ _ => ⟨fun z => absurd rfl z, fun _ => K⟩
  · obtain ⟨na, ng, nB, nf⟩ := K.need T C.2.2.1 q (by omega)
    have x := K.2.1
    have n10 := K.n
    obtain ⟨_, _, _, _, _, _, _, _, _, _, _, _, _, _, p0, p1, q0, q1, sp0, _⟩ := K
    have K := C.2.2.2.1.2.2.2 i q r
    apply g_X10_judge_5
    intro _ _ v3 h3
    subst h3
    refine sp_X10_requireHow (fun hw => ?_) (fun w0 w1 z hz => hx 2 _ _ (by rw [c2]; decide) ?_)
    · apply g_X10_judge_10
      refine fun _ _ => sp_X10_requireWhole nf ng sp0 (fun μ1 f1 s1 hho s16 => ?_) (fun μ1 f1 s1 hho z hz => hx 3 _ _ (by rw [c3]; decide) ?_)
      · -- the arch is whole
        have F1 := nf.fa f1
        apply g_X10_judge_14
        rw [S.1.f3.1]
        intro _ _
        refine ⟨S.1.k, fun sl hsl => ⟨S.2.1.k, ?_⟩⟩
        have hT : (((sgM μ (X + 34) 15 i + 1).toNat : Nat) : Int) = sgM μ (X + 34) 15 i + 1 := by omega
        refine gather_in S.2.1 (by omega) na nB ng hho F1 s1 s16 hT (fun μg fg Lg => ?_)
        have I := gi_of (ne := neR (sgM μ (X + 34)) i (-1)) (fa := inR (sgM μ (X + 34)) i (-1)) (sl := slR (sgM μ (X + 34)) i sl) (lo := 1) (i0 := 0) (P := 4) (t := (sgM μ (X + 34) 15 i).toNat + 1) na nB ng hho p0 p1 q0 q1 (nR_ok (Or.inl ⟨rfl, by decide⟩)) (by decide) (by decide) (by decide) (by omega)
        have eT : (sgM μ (X + 34) 15 i + 1).toNat = (sgM μ (X + 34) 15 i).toNat + 1 := by omega
        rw [eT] at Lg hT
        have Ln : (lst (sgM μ (X + 34)) i 0 sl 1 (-1) ((sgM μ (X + 34) 15 i).toNat + 1) ++ frm (sgM μ (X + 34) 15 i + 1)).length ≤ 48 := by
          have := gs_len (ne := neR (sgM μ (X + 34)) i (-1)) (fa := inR (sgM μ (X + 34)) i (-1)) (J := JJ (sgM μ (X + 34)) i) (sl := slR (sgM μ (X + 34)) i sl) (W := Wf (sgM μ (X + 34)) i 1 0) (T := Tf (sgM μ (X + 34)) i 1 0) (p := sgM μ (X + 34) 23 i) (q := sgM μ (X + 34) 24 i) (i0 := 0) ((sgM μ (X + 34) 15 i).toNat + 1)
          rw [List.length_append]
          have fl4 : (frm (sgM μ (X + 34) 15 i + 1)).length = 4 := rfl
          have e : (lst (sgM μ (X + 34)) i 0 sl 1 (-1) ((sgM μ (X + 34) 15 i).toNat + 1)).length ≤ 4 * ((sgM μ (X + 34) 15 i).toNat + 1) := this
          omega
        obtain ⟨fw, c0, pf⟩ := rows_fw Lg I
        obtain ⟨rb', nz⟩ := rows_rb Lg I
        have en : μg (X + 4) 5 = ((lst (sgM μ (X + 34)) i 0 sl 1 (-1) ((sgM μ (X + 34) 15 i).toNat + 1) ++ frm (sgM μ (X + 34) 15 i + 1)).length : Int) := Lg.1
        -- the reference, behind the class
        have back : ∀ (μC : m_M) (z : Int), FJ X μg μC → (∀ (μ2 : m_M) (Q Y : m_Po), TY ε μ2 → (∀ b j, b ≠ X + 141 → μ2 b j = μC b j) → ∀ μ4 : m_M, (∀ b j, b ≠ X + 34 + 25 → ¬ (b = X + 34 ∧ (j = 0 ∨ j = 35)) → (b < X + 34 + 26 ∨ X + 34 + 30 < b) → μ4 b j = μ2 b j) → μ4 (X + 34) 0 = 0 → RMm μ4 (X + 34) (lst (sgM μ (X + 34)) i 0 sl 1 (-1) ((sgM μ (X + 34) 15 i).toNat + 1) ++ frm (sgM μ (X + 34) 15 i + 1)) → RG ε μ4 (X + 34) R → (∀ μ5 R', RG ε μ5 (X + 34) R' → FJm (X + 34) μ4 μ5 → JV μ5 (X + 20) (X + 34) R' → Q z ε μ5) → G cd_X12_judge Q Y 37 [(0, (2, X + 34))] [] ε μ4) → AFT (fun ε μ Q Y => o_X12_judge [(2, X + 34), (0, i), (0, w)] ε μ Q Y) X 0 z ε μ ε μC := fun μC z fC hb => by
          refine ⟨EX.rf, fun b j h => ?_, fun μ2 f2 Q Y K2 => ?_⟩
          · rw [fC _ _ (by omega), fg _ _ (by omega), f1 _ _ (by omega) (by omega) (by omega)]
          have m2 : ∀ b j, (b < X + 4 ∨ (X + 28 < b ∧ b ≠ X + 141)) → b ≠ μ (X + 3) i + 8 → b ≠ μ (X + 3) i + 9 → ¬ (b = μ (X + 3) i ∧ j = 16) → μ2 b j = μ b j := fun b j h h1 h2 h3 => by rw [f2 _ _ (by omega), fC _ _ (by omega), fg _ _ (by omega), f1 _ _ h1 h2 h3]
          have m2' : ∀ b j, X + 34 ≤ b → b ≤ X + 140 → μ2 b j = μ b j := fun b j h h' => m2 b j (by omega) (by omega) (by omega) (by omega)
          have SF2 : SF μ2 (X + 34) (sgM μ (X + 34)) := fun o j o1 o2 => m2' _ _ (by omega) (by omega)
          have G2 : RG ε μ2 (X + 34) R := G'.of (fun b j h => by
            have hb : X + 34 + 31 ≤ b ∧ b ≤ X + 34 + 101 := by
              rcases h with h | ⟨q, hq, z⟩
              · have := bc_rng h; omega
              · have := (by decide : ∀ q ∈ lm_a, 31 ≤ q.1 ∧ q.1 ≤ 91) q hq
                omega
            exact m2' _ _ (by omega) (by omega))
          have e' := m2' (X + 34) 27 (by omega) (by omega)
          apply e_X12_judge
          intro T2 _ _
          refine ⟨G2.1.k, sp_X12_isJudged G2.1 SF2 (fun _ _ => ⟨na, ng⟩) (fun a => by omega) (fun a b c => by omega) (fun _ _ _ _ _ d => absurd hho d) (fun _ _ _ _ _ _ μ3 f3 j3 => ?_)⟩
          apply g_X12_judge_7
          have g3 : ∀ b j, b ≠ X + 34 + 25 → ¬ (b = X + 34 ∧ j = 0) → st μ3 (X + 34) 0 0 b j = μ2 b j := fun b j h h' => by rw [st, if_neg h', f3 b j h, st, if_neg h']
          have e15 : st μ3 (X + 34) 0 0 (X + 34 + 15) i = sgM μ (X + 34) 15 i := by rw [g3 _ _ (by omega) (by omega), m2' _ _ (by omega) (by omega)]; rfl
          rw [G2.1.f17.1, e15, w32_id (show i32 (sgM μ (X + 34) 15 i - 1) by unfold i32; omega)]
          refine fun _ _ _ _ => ⟨fun _ => ⟨G2.1.k, G2.1.f17.2.1, q, by rw [G2.1.f17.2.2]; omega, fun t1 ht1 => ⟨G2.1.k, ?_⟩⟩, fun z => absurd z (by decide)⟩
          have et : t1 = sl := by rw [ht1, hsl]
          subst et
          refine tells_in (T := (sgM μ (X + 34) 15 i).toNat + 1) G2.1 (fun o j o1 o2 => by rw [g3 _ _ (by omega) (by omega)]; exact SF2 o j o1 o2) na nB ng hho (by
            have e25 : st μ3 (X + 34) 0 0 (X + 34 + 25) = μ3 (X + 34 + 25) := by funext j; exact sx_oa (by omega)
            rw [e25]; exact j3) (by decide) (by omega) (by omega) (Or.inl rfl) (by omega) (fun μ4 f4 L4 => ?_)
          have g4 : ∀ b j, b ≠ X + 34 + 25 → ¬ (b = X + 34 ∧ (j = 0 ∨ j = 35)) → (b < X + 34 + 26 ∨ X + 34 + 30 < b) → μ4 b j = μ2 b j := fun b j h h' h'' => by rw [f4 b j (by omega) h'', g3 b j h (by omega)]
          have z4 : μ4 (X + 34) 0 = 0 := by rw [f4 _ _ (by omega) (by omega), sx_same]
          have G4 : RG ε μ4 (X + 34) R := G2.of (fun b j h => by
            have hb : X + 34 + 31 ≤ b ∧ b ≤ X + 34 + 101 := by
              rcases h with h | ⟨q, hq, z⟩
              · have := bc_rng h; omega
              · have := (by decide : ∀ q ∈ lm_a, 31 ≤ q.1 ∧ q.1 ≤ 91) q hq
                omega
            exact g4 _ _ (by omega) (by omega) (by omega))
          refine hb μ2 Q Y T2 f2 μ4 g4 z4 L4 G4 (fun μ5 R' G5 f5 J5 => ?_)
          have nb5 : ∀ b, BC (X + 34) b → X + 34 + 32 ≤ b ∧ b ≤ X + 34 + 101 := fun b h => by have := bc_rng h; omega
          have g5 : ∀ b j, ¬ scq X b j → μ5 b j = μ2 b j := fun b j h => by
            rw [f5 b j (fun z => by have := nb5 b z; unfold scq at h; omega) (by unfold scq at h; omega) (by unfold scq at h; omega) (by unfold scq at h; omega) (by unfold scq at h; omega) (by unfold scq at h; omega) (by unfold scq at h; omega) (by unfold scq at h; omega) (by unfold scq at h; omega) (by unfold scq at h; omega), g4 b j (by unfold scq at h; omega) (by unfold scq at h; omega) (by unfold scq at h; omega)]
          have g5' : ∀ b j, b ≤ X + 33 ∨ X + 34 + 104 ≤ b ∨ (b = X + 34 ∧ (j = 63 ∨ j = 0)) → μ5 b j = μ4 b j := fun b j h => f5 b j (fun z => by have := nb5 b z; omega) (by omega) (by omega) (by omega) (by omega) (by omega) (by omega) (by omega) (by omega) (by omega)
          have g2 : ∀ b j, b ≤ X + 33 ∨ X + 34 + 104 ≤ b ∨ (b = X + 34 ∧ j = 63) → μ5 b j = μ2 b j := fun b j h => by rw [g5' b j (by omega), g4 b j (by omega) (by omega) (by omega)]
          refine K2 _ _ (fun c j h => g2 _ _ (by omega)) ⟨ow, R', S, G5, J5, ?_, C.fa EX.rf q r (fun b j h h1 h2 h3 => ?_) (s1.fr (fun b j h => ?_))⟩ (by rw [g5' _ _ (by omega), z4]) (fun _ => rfl) (fun j => g2 _ _ (by omega))
          · obtain ⟨t, t1', t2', t3'⟩ := P
            have y : ∀ b j, b = X + 29 + 1 ∨ b = X + 29 ∨ b = X + 34 + 104 ∨ (b = X + 34 ∧ j = 63) → μ5 b j = μ b j := fun b j h => by rw [g2 _ _ (by omega), m2 _ _ (by omega) (by omega) (by omega) (by omega)]
            exact ⟨t, t1', t2'.congr (y _ _ (by omega)) (fun j _ _ => y _ _ (by omega)), t3'.congr (y _ _ (by omega)) (fun j _ _ => y _ _ (by omega))⟩
          · rw [g5 b j h, m2 _ _ (by unfold scq at h; omega) h1 h2 h3]
          · rw [g2 _ _ (by omega), f2 _ _ (by omega), fC _ _ (by omega), fg _ _ (by omega)]
        -- both judges
        have V5 : ∀ {μC μ2 μ4 μ5 : m_M}, (∀ b j, b ≠ X + 141 → μ2 b j = μC b j) → (∀ b j, b ≠ X + 34 + 25 → ¬ (b = X + 34 ∧ (j = 0 ∨ j = 35)) → (b < X + 34 + 26 ∨ X + 34 + 30 < b) → μ4 b j = μ2 b j) → FJm (X + 34) μ4 μ5 → ∀ d j, 0 ≤ d → d ≤ 8 → μ5 (X + 20 + d) j = μC (X + 20 + d) j := fun {μC μ2 μ4 μ5} f2 g4 f5 d j d0 d1 => by
          rw [f5 _ j (fun z => by have := bc_rng z; omega) (by omega) (by omega) (by omega) (by omega) (by omega) (by omega) (by omega) (by omega) (by omega), g4 _ _ (by omega) (by omega) (by omega), f2 _ _ (by omega)]
        have Lg' : RLg ((lst (sgM μ (X + 34)) i 0 sl 1 (-1) ((sgM μ (X + 34) 15 i).toNat + 1) ++ frm (sgM μ (X + 34) 15 i + 1)).length : Int) (μg (X + 4 + 5)) (μg (X + 4 + 1)) (μg (X + 4 + 2)) (μg (X + 4 + 3)) (μg (X + 4 + 4)) (lst (sgM μ (X + 34)) i 0 sl 1 (-1) ((sgM μ (X + 34) 15 i).toNat + 1) ++ frm (sgM μ (X + 34) 15 i + 1)) := by
          rw [← en]; exact Lg
        obtain ⟨fw, c0, pf⟩ := rows_fw Lg' I
        obtain ⟨rb', nz⟩ := rows_rb Lg' I
        have e9 : X + 9 = X + 4 + 5 := by omega
        refine jd_31 (code := μg (X + 9)) S.1 S.2.1 S.2.2.1 S.2.2.2.1 S.2.2.2.2.1 Ln ⟨en, fun _ => rfl, fun _ => rfl, fun _ => rfl, fun _ => rfl⟩ rb' fw (fun _ => rfl) (fun μC fC fe v8 v9 l0 l1 => hq _ _ _ (back μC 1 fC (fun μ2 Q Y T2 f2 μ4 g4 z4 L4 G4 KK => ?_))) (fun μC k ix a' fC nfe sr vn => hq _ _ _ (back μC 0 fC (fun μ2 Q Y T2 f2 μ4 g4 z4 L4 G4 KK => ?_)))
        · have en4 : μ4 (X + 34) 35 = _ := L4.1
          have L4' : RLg ((lst (sgM μ (X + 34)) i 0 sl 1 (-1) ((sgM μ (X + 34) 15 i).toNat + 1) ++ frm (sgM μ (X + 34) 15 i + 1)).length : Int) (μ4 (X + 34 + 30)) (μ4 (X + 34 + 26)) (μ4 (X + 34 + 27)) (μ4 (X + 34 + 28)) (μ4 (X + 34 + 29)) (lst (sgM μ (X + 34)) i 0 sl 1 (-1) ((sgM μ (X + 34) 15 i).toNat + 1) ++ frm (sgM μ (X + 34) 15 i + 1)) := by
            rw [← en4]; exact L4
          obtain ⟨_, ag⟩ := Lg'.one L4'
          have AG : AGs _ _ _ _ _ _ _ _ _ := fun t t0 t1 => (ag t t0 t1).2
          have AC : ∀ t : Int, 0 ≤ t → t < _ → μg (X + 9) t = μ4 (X + 34 + 30) t := fun t t0 t1 => by rw [e9]; exact (ag t t0 t1).1
          obtain ⟨fw4, c04, pf4⟩ := rows_fw L4' I
          obtain ⟨rb4, nz4⟩ := rows_rb L4' I
          obtain ⟨fm4, cb4⟩ := fmb4 L4' I
          refine jm_37 G4 ⟨en4, fun _ => rfl, fun _ => rfl, fun _ => rfl, fun _ => rfl⟩ (fun _ => rfl) Ln rb4 fm4 pf4 nz4 fw4 c04 (fun μ5 R' G5 f5 fe5 e53 e54 e59 ml0 ml1 => KK μ5 R' G5 f5 ?_) (fun μ5 R' k5 ix5 a5 G5 f5 nfe5 _ _ _ _ _ _ _ => absurd (AG.fe fe) nfe5)
          have fV := V5 f2 g4 f5
          obtain ⟨u0, u1, u2, u3⟩ := jl_both Ln (cb_of cb4) (by decide) (by decide) (by decide) (by decide) (by decide) (by decide) ((AG.vl AC l0).fr fV) ml0
          obtain ⟨u4, u5, u6, u7⟩ := jl_both Ln (cb_of cb4) (by decide) (by decide) (by decide) (by decide) (by decide) (by decide) ((AG.vl AC l1).fr fV) ml1
          have f0 : ∀ j, μ5 (X + 20) j = μC (X + 20) j := fun j => by have := fV 0 j (by decide) (by decide); rw [Int.add_zero] at this; exact this
          refine Or.inr (Or.inl ⟨(f0 9).trans v9, (f0 8).trans v8, e53, e54, e59, fun n n0 n6 => ?_, u3, u7⟩)
          have : n = 0 ∨ n = 1 ∨ n = 2 ∨ n = 3 ∨ n = 4 ∨ n = 5 := by omega
          rcases this with h | h | h | h | h | h <;> subst h
          · exact u0
          · exact u1
          · exact u2
          · exact u4
          · exact u5
          · exact u6
        · have en4 : μ4 (X + 34) 35 = _ := L4.1
          have L4' : RLg ((lst (sgM μ (X + 34)) i 0 sl 1 (-1) ((sgM μ (X + 34) 15 i).toNat + 1) ++ frm (sgM μ (X + 34) 15 i + 1)).length : Int) (μ4 (X + 34 + 30)) (μ4 (X + 34 + 26)) (μ4 (X + 34 + 27)) (μ4 (X + 34 + 28)) (μ4 (X + 34 + 29)) (lst (sgM μ (X + 34)) i 0 sl 1 (-1) ((sgM μ (X + 34) 15 i).toNat + 1) ++ frm (sgM μ (X + 34) 15 i + 1)) := by
            rw [← en4]; exact L4
          obtain ⟨_, ag⟩ := Lg'.one L4'
          have AG : AGs _ _ _ _ _ _ _ _ _ := fun t t0 t1 => (ag t t0 t1).2
          have AC : ∀ t : Int, 0 ≤ t → t < _ → μg (X + 9) t = μ4 (X + 34 + 30) t := fun t t0 t1 => by rw [e9]; exact (ag t t0 t1).1
          obtain ⟨fw4, c04, pf4⟩ := rows_fw L4' I
          obtain ⟨rb4, nz4⟩ := rows_rb L4' I
          obtain ⟨fm4, cb4⟩ := fmb4 L4' I
          have sr4 := AG.srch sr
          have vn4 := AG.vn AC sr vn
          have js2 : JS μ2 (X + 20) := JS.of T2 S.2.2.2.2.1 sr4 (vn4.fr (fun d j d0 d1 => f2 _ _ (by omega))) (fun t t0 t1 => (cb4 t t0 t1).2.2.2)
          refine jm_37 G4 ⟨en4, fun _ => rfl, fun _ => rfl, fun _ => rfl, fun _ => rfl⟩ (fun _ => rfl) Ln rb4 fm4 pf4 nz4 fw4 c04 (fun μ5 R' G5 f5 fe5 _ _ _ _ _ => absurd (AG.sym.fe fe5) nfe) (fun μ5 R' k5 ix5 a5 G5 f5 nfe5 e53 e54 e890 e891 sr5 nm5 n05 => KK μ5 R' G5 f5 ?_)
          have fV := V5 f2 g4 f5
          obtain ⟨t9, t50, t51, tn⟩ := jn_both sr4 sr5 sr4.k4 (vn4.fr fV) nm5 n05
          exact Or.inr (Or.inr ⟨t9, e53, e54, t50, t51, e890, e891, tn, js2.fr (fun d j d0 d1 => by rw [fV d j d0 d1, f2 _ _ (by omega)])⟩)
      · rw [c3]
        refine aft_hole S G' J P C EX.nx q r f1 s1 (by decide) (fun μ2 Q Y m2 G2 K3 => ?_)
        have e' := m2 (X + 34) 27 (by omega)
        apply e_X12_judge
        refine fun _ _ _ => ⟨G2.1.k, sp_X12_isJudged G2.1 (SF.of m2) (fun _ _ => ⟨na, ng⟩) (fun a => by omega) (fun a b c => by omega) (fun _ _ _ _ _ _ μ3 f3 => ?_) (fun _ _ _ _ _ d => absurd d hho)⟩
        apply g_X12_judge_7
        exact fun _ _ _ _ => ⟨fun z => absurd rfl z, fun _ => K3 μ3 f3⟩
    · rw [c2]
      refine aft_thr H' (by decide) EX.nx (fun μ2 Q Y f2 G2 K => ?_)
      have e' := f140 f2 (X + 34) 27 (by omega)
      apply e_X12_judge
      refine fun _ _ _ => ⟨G2.1.k, sp_X12_isJudged G2.1 (SF.of (f140 f2)) (N μ2 (f140 f2)) (fun a => by omega) (fun _ _ _ => ?_) (fun a b c d => by omega) (fun a b c d => by omega)⟩
      apply g_X12_judge_7
      rw [st_st]
      exact fun _ _ _ _ => ⟨fun z => absurd rfl z, fun _ => K⟩
