/-! ===== the reference's judge, once the bounds are told ===== -/
def FJm (M : Int) (μ μ' : m_M) : Prop := ∀ b j, ¬ BC M b → ¬ (b = M ∧ ((42 ≤ j ∧ j ≤ 49) ∨ j = 53 ∨ j = 54 ∨ j = 59)) → b ≠ M + 44 → b ≠ M + 45 → b ≠ M + 46 → b ≠ M + 88 → b ≠ M + 89 → b ≠ M + 90 → b ≠ M + 102 → b ≠ M + 103 → μ' b j = μ b j
theorem FJm.trans {M : Int} {μ μ' μ'' : m_M} (h : FJm M μ μ') (k : FJm M μ' μ'') : FJm M μ μ'' := fun b j x0 x1 x2 x3 x4 x5 x6 x7 x8 x9 => (k b j x0 x1 x2 x3 x4 x5 x6 x7 x8 x9).trans (h b j x0 x1 x2 x3 x4 x5 x6 x7 x8 x9)
theorem FJm.s {M : Int} {μ μ' : m_M} (h : FS M μ μ') : FJm M μ μ' := fun b j _ x1 x2 x3 x4 _ _ _ _ _ => h b j x2 x3 x4 (fun z => x1 ⟨z.1, Or.inl z.2⟩)
theorem FJm.t {M w : Int} {μ μ' : m_M} (h : FT M w μ μ') : FJm M μ μ' := fun b j x0 _ _ _ _ x5 x6 _ _ _ => h b j x0 (fun z => x5 z.1) (fun z => x6 z.1)
theorem FJm.n {M : Int} {μ μ' : m_M} (h : FNs M μ μ') : FJm M μ μ' := fun b j x0 x1 _ _ _ _ _ x7 x8 x9 => h b j x0 x8 x9 x7 (fun z => x1 ⟨z.1, Or.inr (Or.inr (Or.inr z.2))⟩)
theorem TL.fr {g : Int → Bool} {code arr arr' : Int → Int} {n : Nat} {off : Int} (n48 : n ≤ 48) (H : TL g code n arr off) (f : ∀ j, off ≤ j → j < off + 48 → arr' j = arr j) : TL g code n arr' off := by
  intro i hi gi
  have a := ct_lt hi gi
  have b := ct_le g n
  rw [f _ (by omega) (by omega)]
  exact H i hi gi
theorem MLc.fr {μ μ' : m_M} {M w g : Int} {R R' h v m c code : Int → Int} {n : Nat} {u l u1 l1 u2 l2 : Int} (n48 : n ≤ 48) (H : MLc μ M w g R h v m c code n u l u1 l1 u2 l2) (eu : R' u = R u) (el : R' l = R l) (eu1 : R' u1 = R u1) (el1 : R' l1 = R l1) (eu2 : R' u2 = R u2) (el2 : R' l2 = R l2) (f9 : μ' (M + 89) w = μ (M + 89) w) (f8 : ∀ j, 48 * w ≤ j → j < 48 * w + 48 → μ' (M + 88) j = μ (M + 88) j) : MLc μ' M w g R' h v m c code n u l u1 l1 u2 l2 := by
  unfold MLc at *
  rw [eu, el, eu1, el1, eu2, el2, f9]
  obtain ⟨h1, h2, h3, h4, h5, h6, h7, h8, h9, h10⟩ := H
  refine ⟨h1, h2, h3, h4, h5, h6, h7, h8, h9, fun X Y Z D lx => ?_⟩
  obtain ⟨k1, k2, k3, k4, k5⟩ := h10 X Y Z D lx
  exact ⟨k1, k2, k3, k4, k5.fr n48 f8⟩
theorem nn_pt {h v m c : Int → Int} {n x w : Int} (F : FW h v m n) (c0 : c (n - 4) = 0) (w0 : 0 < w) (e : ∃ X Y Z W, Kp h v m c n X Y Z W ∧ X * w = x * W) : 0 ≤ x := by
  obtain ⟨X, Y, Z, W, K, e⟩ := e
  have k := K.2 (n - 4) (by have := F.1; omega) (by omega)
  unfold wo at k
  rw [F.2.1.1, F.2.1.2.1, F.2.1.2.2, c0] at k
  have hX : 0 ≤ X := by omega
  have := Int.mul_nonneg hX (Int.le_of_lt w0)
  rw [e, Int.mul_comm] at this
  exact nn_of_mul K.1 this
theorem TY.fld {ε : m_E} {μ : m_M} (h : TY ε μ) {M : Int} (hk : kd ε M = 11) : i64 (μ M 44) ∧ i64 (μ M 45) ∧ i64 (μ M 46) ∧ i64 (μ M 47) := ⟨h.2.2.1 M 11 44 _ hk (by decide) rfl (by decide), h.2.2.1 M 11 45 _ hk (by decide) rfl (by decide), h.2.2.1 M 11 46 _ hk (by decide) rfl (by decide), h.2.2.1 M 11 47 _ hk (by decide) rfl (by decide)⟩
theorem jm_37 {Q X : m_Po} {ε : m_E} {μ : m_M} {M : Int} {n : Nat} {h v m c code R : Int → Int} (H : RG ε μ M R) (W : RW μ M n h v m c) (hcode : ∀ x, μ (M + 30) x = code x) (n48 : n ≤ 48) (B : RB h v m c n) (Bf : FMB h v m c n) (P : PF h v m n) (nz : NZ h v m n) (F : FW h v m n) (c0 : c (n - 4) = 0)
    (h1 : ∀ μ' R', RG ε μ' M R' → FJm M μ μ' → Fe h v m c n → μ' M 53 = 1 → μ' M 54 = 1 → μ' M 59 = 0 → MLc μ' M 0 1 R' h v m c code n 48 61 50 63 52 65 → MLc μ' M 1 (-1) R' h v m c code n 54 67 56 69 58 71 → Q 1 ε μ')
    (h0 : ∀ (μ' : m_M) (R' : Int → Int) (k : Nat) (ix a : Int → Int), RG ε μ' M R' → FJm M μ μ' → ¬ Fe h v m c n → μ' M 53 = 1 → μ' M 54 = 0 → μ' (M + 89) 0 = 0 → μ' (M + 89) 1 = 0 → Srch h v m c n k ix a → (k ≠ 0 → NMc μ' M R' k ix a c code) → (k = 0 → μ' M 59 = 0) → Q 0 ε μ') : G cd_X12_judge Q X 37 [(0, (2, M))] [] ε μ := by
  have L := H.1
  apply g_X12_judge_37
  refine fun _ => ⟨L.k, fun μ1 m1 => ?_⟩
  have H1 : RG ε μ1 M R := by rw [m1]; exact rg_field H
  have J1 : FJm M μ μ1 := fun b j _ x1 _ _ _ _ _ _ _ _ => by rw [m1]; exact if_neg (fun z => x1 ⟨z.1, by omega⟩)
  have W1 : RW μ1 M n h v m c := by
    obtain ⟨w1, w2, w3, w4, w5⟩ := W
    refine ⟨?_, fun k => ?_, fun k => ?_, fun k => ?_, fun k => ?_⟩
    · rw [m1, sx_oi (by decide)]; exact w1
    · rw [m1, sx_oa (by omega)]; exact w2 k
    · rw [m1, sx_oa (by omega)]; exact w3 k
    · rw [m1, sx_oa (by omega)]; exact w4 k
    · rw [m1, sx_oa (by omega)]; exact w5 k
  have z53 : μ1 M 53 = 1 := by rw [m1, sx_same]
  clear m1
  -- what both roads share: the flags are written
  have mid : ∀ (μ2 μ6 : m_M) (t : Int), RG ε μ2 M R → FS M μ1 μ2 → μ6 = st (st (st (st μ2 M 54 t) (M + 89) 0 0) (M + 89) 1 0) M 59 0 → RG ε μ6 M R ∧ FJm M μ μ6 ∧ μ6 M 53 = 1 ∧ μ6 M 54 = t ∧ μ6 M 59 = 0 ∧ μ6 (M + 89) 0 = 0 ∧ μ6 (M + 89) 1 = 0 ∧ RW μ6 M n h v m c ∧ (∀ x, μ6 (M + 30) x = code x) ∧ (∀ b j, ¬ (b = M ∧ (j = 54 ∨ j = 59)) → b ≠ M + 89 → μ6 b j = μ2 b j) := by
    intro μ2 μ6 t H2 f2 m6
    have c6 : ∀ b j, ¬ (b = M ∧ (j = 54 ∨ j = 59)) → b ≠ M + 89 → μ6 b j = μ2 b j := fun b j x1 x2 => by
      rw [m6]
      unfold st
      rw [if_neg (fun z => x1 ⟨z.1, Or.inr z.2⟩), if_neg (fun z => x2 z.1), if_neg (fun z => x2 z.1), if_neg (fun z => x1 ⟨z.1, Or.inl z.2⟩)]
    have J6 : FJm M μ μ6 := (J1.trans (FJm.s f2)).trans (fun b j _ x1 _ _ _ _ x6 _ _ _ => c6 b j (fun z => x1 ⟨z.1, by omega⟩) x6)
    have W2' := W1.fs f2
    refine ⟨by rw [m6]; exact rg_field (((rg_field H2).st (by decide) (by decide)).st (by decide) (by decide)), J6, ?_, ?_, ?_, ?_, ?_, ?_, fun x => (J6 _ _ (nbc (by decide)) (by omega) (by omega) (by omega) (by omega) (by omega) (by omega) (by omega) (by omega) (by omega)).trans (hcode x), c6⟩
    · rw [c6 _ _ (by omega) (by omega), f2 _ _ (by omega) (by omega) (by omega) (by omega)]; exact z53
    · rw [m6, sx_oi (by decide), sx_oa (by omega), sx_oa (by omega), sx_same]
    · rw [m6, sx_same]
    · rw [m6, sx_oa (by omega), sx_oi (by decide), sx_same]
    · rw [m6, sx_oa (by omega), sx_same]
    · obtain ⟨w1, w2, w3, w4, w5⟩ := W2'
      exact ⟨(c6 _ _ (by omega) (by omega)).trans w1, fun k => (c6 _ _ (by omega) (by omega)).trans (w2 k), fun k => (c6 _ _ (by omega) (by omega)).trans (w3 k), fun k => (c6 _ _ (by omega) (by omega)).trans (w4 k), fun k => (c6 _ _ (by omega) (by omega)).trans (w5 k)⟩
  have rgs : ∀ μ2 : m_M, FS M μ1 μ2 → RG ε μ2 M R := fun μ2 f2 => H1.of (fun b j hb => by
    rcases hb with hb | ⟨q, hq, e⟩
    · exact f2 b j (fun e => nbc (M := M) (o := 44) (by decide) (e ▸ hb)) (fun e => nbc (M := M) (o := 45) (by decide) (e ▸ hb)) (fun e => nbc (M := M) (o := 46) (by decide) (e ▸ hb)) (fun e => nbc0 (M := M) (e.1 ▸ hb))
    · have a : ∀ q ∈ lm_a, q.1 ≠ 44 ∧ q.1 ≠ 45 ∧ q.1 ≠ 46 ∧ 0 < q.1 := by decide
      have := a q hq
      exact f2 b j (by omega) (by omega) (by omega) (by omega))
  refine sp_X12_isSafe L n48 W1 Bf P (fun μ2 T f2 fe ls gs T6 e42 TTh => ?_) (fun μ2 f2 nfe => ?_)
  · have H2 := rgs μ2 f2
    have l0 := nn_pt F c0 ls.1 ls.2.2
    have g0 := nn_pt F c0 gs.1 gs.2.2
    apply g_X12_judge_47
    rw [L.f56.1]
    intro hT _
    obtain ⟨y4, y5, y6, y7⟩ := hT.fld L.k
    refine ⟨L.k, Or.inr rfl, fun μ3 m3 => ⟨L.k, L.f56.2.1, by rw [L.f56.2.2]; decide, fun μ4 m4 => ⟨by rw [L.f56.2.2]; decide, fun μ5 m5 μ6 m6 => ?_⟩⟩⟩
    rw [m5, m4, m3] at m6
    obtain ⟨H6, J6, x53, x54, x59, xa, xb, W6, c6, k6⟩ := mid μ2 μ6 1 H2 f2 m6
    rw [x54]
    refine ⟨fun _ v3 e3 => ?_, fun z => absurd z (by decide)⟩
    rw [e3]
    have V6 : RV μ6 M T (μ2 (M + 44)) (μ2 (M + 45)) (μ2 (M + 46)) := ⟨(k6 _ _ (by omega) (by omega)).trans e42, fun q => k6 _ _ (by omega) (by omega), fun q => k6 _ _ (by omega) (by omega), fun q => k6 _ _ (by omega) (by omega)⟩
    refine jl_0 H6 W6 V6 c6 n48 T6 B P TTh (gLs.of_l ls) l0 y4 y5 (by rw [if_pos rfl]; exact k6 _ _ (by omega) (by omega)) (by rw [if_pos rfl]; exact k6 _ _ (by omega) (by omega)) (fun μ7 R7 H7 f7 fr7 ml => ?_)
    have V7 : RV μ7 M T (μ2 (M + 44)) (μ2 (M + 45)) (μ2 (M + 46)) := by
      obtain ⟨w1, w2, w3, w4⟩ := V6
      exact ⟨(f7 _ _ nbc0 (by omega) (by omega)).trans w1, fun q => (f7 _ _ (nbc (by decide)) (by omega) (by omega)).trans (w2 q), fun q => (f7 _ _ (nbc (by decide)) (by omega) (by omega)).trans (w3 q), fun q => (f7 _ _ (nbc (by decide)) (by omega) (by omega)).trans (w4 q)⟩
    refine jl_1 H7 (W6.ft f7) V7 (fun x => (f7 _ _ (nbc (by decide)) (by omega) (by omega)).trans (c6 x)) n48 T6 B P TTh (gLs.of_g gs) g0 y6 y7 (by rw [if_neg (by decide), f7 _ _ nbc0 (by omega) (by omega)]; exact k6 _ _ (by omega) (by omega)) (by rw [if_neg (by decide), f7 _ _ nbc0 (by omega) (by omega)]; exact k6 _ _ (by omega) (by omega)) (fun μ8 R8 H8 f8 fr8 ml2 => ?_)
    apply g_X12_judge_84
    refine fun _ _ => ⟨fun _ => h1 μ8 R8 H8 ((J6.trans (FJm.t f7)).trans (FJm.t f8)) fe ?_ ?_ ?_ (ml.fr n48 (fr8 _ (by unfold tme tmp; decide) (by decide) (by decide) (by decide) (by decide) (by decide) (by decide)) (fr8 _ (by unfold tme tmp; decide) (by decide) (by decide) (by decide) (by decide) (by decide) (by decide)) (fr8 _ (by unfold tme tmp; decide) (by decide) (by decide) (by decide) (by decide) (by decide) (by decide)) (fr8 _ (by unfold tme tmp; decide) (by decide) (by decide) (by decide) (by decide) (by decide) (by decide)) (fr8 _ (by unfold tme tmp; decide) (by decide) (by decide) (by decide) (by decide) (by decide) (by decide)) (fr8 _ (by unfold tme tmp; decide) (by decide) (by decide) (by decide) (by decide) (by decide) (by decide)) (f8 _ _ (nbc (by decide)) (by omega) (by omega)) (fun j j0 j1 => f8 _ _ (nbc (by decide)) (by omega) (by omega))) ml2, fun z => absurd z (by decide)⟩
    · rw [f8 _ _ nbc0 (by omega) (by omega), f7 _ _ nbc0 (by omega) (by omega)]; exact x53
    · rw [f8 _ _ nbc0 (by omega) (by omega), f7 _ _ nbc0 (by omega) (by omega)]; exact x54
    · rw [f8 _ _ nbc0 (by omega) (by omega), f7 _ _ nbc0 (by omega) (by omega)]; exact x59
  · have H2 := rgs μ2 f2
    apply g_X12_judge_47
    rw [L.f56.1]
    refine fun _ _ => ⟨L.k, Or.inl rfl, fun μ3 m3 => ⟨L.k, L.f56.2.1, by rw [L.f56.2.2]; decide, fun μ4 m4 => ⟨by rw [L.f56.2.2]; decide, fun μ5 m5 μ6 m6 => ?_⟩⟩⟩
    rw [m5, m4, m3] at m6
    obtain ⟨H6, J6, x53, x54, x59, xa, xb, W6, c6, k6⟩ := mid μ2 μ6 0 H2 f2 m6
    rw [x54]
    refine ⟨fun z => absurd rfl z, fun _ => sp_X12_nevers n48 B nz H6 W6 c6 (fun μ7 R7 k ix a H7 f7 fr7 S nm n0 => ?_)⟩
    apply g_X12_judge_80
    refine fun _ => h0 μ7 R7 k ix a H7 (J6.trans (FJm.n f7)) nfe ?_ ?_ ?_ ?_ S nm (fun z => (n0 z).trans x59)
    · rw [f7 _ _ nbc0 (by omega) (by omega) (by omega) (by omega)]; exact x53
    · rw [f7 _ _ nbc0 (by omega) (by omega) (by omega) (by omega)]; exact x54
    · rw [f7 _ _ (nbc (by decide)) (by omega) (by omega) (by omega) (by omega)]; exact xa
    · rw [f7 _ _ (nbc (by decide)) (by omega) (by omega) (by omega) (by omega)]; exact xb
