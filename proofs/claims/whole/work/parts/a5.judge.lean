/-! ===== the class's judge, once the bounds are gathered ===== -/
/-- a line that the verdict keeps: the corner of three bounds, lexicographically least for g, and the bounds that are 0 there -/
def VLc (μ : m_M) (V w g : Int) (h v m c code : Int → Int) (n : Nat) : Prop := ∃ i j k s, (0 ≤ i ∧ i < (n : Int)) ∧ (0 ≤ j ∧ j < (n : Int)) ∧ (0 ≤ k ∧ k < (n : Int)) ∧ (s = 1 ∨ s = -1) ∧
  LX h v m c n g (cnH v m c i j k s) (cnV h m c i j k s) (cnM h v c i j k s) (s * dt3 h v m i j k) ∧ μ (V + 3) w = s * dt3 h v m i j k ∧ W2 (μ (V + 1) (3 * w)) (μ (V + 2) (3 * w)) = cnH v m c i j k s ∧ W2 (μ (V + 1) (3 * w + 1)) (μ (V + 2) (3 * w + 1)) = cnV h m c i j k s ∧ W2 (μ (V + 1) (3 * w + 2)) (μ (V + 2) (3 * w + 2)) = cnM h v c i j k s ∧
  μ (V + 5) w = ct (fun b => decide (wc h v m c i j k s b = 0)) n ∧ TL (fun b => decide (wc h v m c i j k s b = 0)) code n (μ (V + 4)) (48 * w)
def FJ (X : Int) (μ μ' : m_M) : Prop := ∀ b j, (b < X + 10 ∨ X + 28 < b) → μ' b j = μ b j
theorem FJ.trans {X : Int} {μ μ' μ'' : m_M} (h : FJ X μ μ') (k : FJ X μ' μ'') : FJ X μ μ'' := fun b j h1 => (k b j h1).trans (h b j h1)
theorem jd_31 {Q X' : m_Po} {ε : m_E} {μ : m_M} {X : Int} {n : Nat} {h v m c code : Int → Int} (L : LY ε X) (LB' : LB ε (X + 4)) (LC' : LC ε (X + 10)) (LN' : LN ε (X + 15)) (LV' : LV ε (X + 20)) (n48 : n ≤ 48) (W : RC μ (X + 4) n h v m c) (R : RB h v m c n) (F : FW h v m n) (hcode : ∀ q, μ (X + 9) q = code q)
    (h1 : ∀ μ', FJ X μ μ' → Fe h v m c n → μ' (X + 20) 8 = 0 → μ' (X + 20) 9 = 1 → VLc μ' (X + 20) 0 1 h v m c code n → VLc μ' (X + 20) 1 (-1) h v m c code n → Q 1 ε μ')
    (h0 : ∀ (μ' : m_M) (k : Nat) (ix a : Int → Int), FJ X μ μ' → ¬ Fe h v m c n → Srch h v m c n k ix a → VNc μ' (X + 20) k ix a c code → Q 0 ε μ') : G cd_X10_judge Q X' 31 [(0, (2, X))] [] ε μ := by
  have hC : X + 10 = X + 4 + 6 := by omega
  have hV : X + 20 = X + 10 + 10 := by omega
  have hN : X + 15 = X + 4 + 11 := by omega
  have code5 : ∀ q, μ (X + 4 + 5) q = code q := fun q => by rw [show X + 4 + 5 = X + 9 by omega]; exact hcode q
  apply g_X10_judge_31
  rw [L.f4.1, L.f3.1]
  refine fun _ => ⟨L.k, L.f4.2.1, sp_X2_seek LC' LB' hC n48 W R F (Or.inl rfl) (fun μ1 i j k s f1 hi hj hk S lo ok => ?_) (fun μ1 f1 nfe => ?_)⟩
  · have W1 := W.fk hC f1
    have lx := LX.low (h := h) (v := v) (m := m) (c := c) lo hi hj hk ok
    have fe : Fe h v m c n := ⟨_, _, _, _, lx.1⟩
    have c1 : ∀ q, μ1 (X + 4 + 5) q = code q := fun q => (f1 _ q (by omega)).trans (code5 q)
    apply g_X10_judge_43
    rw [L.f3.1, L.f4.1, L.f5.1, L.f6.1]
    refine fun _ _ => ⟨fun z => absurd z (by decide), fun _ => ⟨L.k, L.f4.2.1, sp_X2_report LC' LB' LV' hC hV n48 (Or.inl rfl) W1 R hi hj hk S c1 (fun μ2 f2 g8 g9 g3 gH gV gM g5 g4 => ?_)⟩⟩
    have J2 : FJ X μ μ2 := fun b t hb => (f2 b t (by omega) (by omega) (by omega) (by omega) (by omega)).trans (f1 b t (by omega))
    have W2' : RC μ2 (X + 4) n h v m c := W.fr (fun b t _ _ => J2 b t (by omega))
    have c2 : ∀ q, μ2 (X + 4 + 5) q = code q := fun q => (J2 _ q (by omega)).trans (code5 q)
    apply g_X10_judge_62
    rw [L.f3.1, L.f4.1]
    refine fun _ => ⟨L.k, L.f4.2.1, sp_X2_seek LC' LB' hC n48 W2' R F (Or.inr rfl) (fun μ3 i' j' k' s' f3 hi' hj' hk' S' lo' ok' => ?_) (fun μ3 f3 nfe => absurd fe nfe)⟩
    have W3 := W2'.fk hC f3
    have lx' := LX.low (h := h) (v := v) (m := m) (c := c) lo' hi' hj' hk' ok'
    have c3 : ∀ q, μ3 (X + 4 + 5) q = code q := fun q => (f3 _ q (by omega)).trans (c2 q)
    apply g_X10_judge_74
    rw [L.f3.1, L.f4.1, L.f6.1]
    refine fun _ _ => ⟨L.k, L.f4.2.1, sp_X2_report LC' LB' LV' hC hV n48 (Or.inr rfl) W3 R hi' hj' hk' S' c3 (fun μ4 f4 k8 k9 k3 kH kV kM k5 k4 => ?_)⟩
    -- what the second leaves of the first
    have K : ∀ b t, X + 20 < b → b ≤ X + 28 → ¬ ((b = X + 20 + 1 ∨ b = X + 20 + 2) ∧ 3 * 1 ≤ t ∧ t ≤ 3 * 1 + 2) → ¬ ((b = X + 20 + 3 ∨ b = X + 20 + 5) ∧ t = 1) → ¬ (b = X + 20 + 4 ∧ 48 * 1 ≤ t ∧ t < 48 * 1 + 48) → μ4 b t = μ2 b t := fun b t b0 b1 x1 x2 x3 => (f4 b t (by omega) (by omega) x1 x2 x3).trans (f3 b t (by omega))
    apply g_X10_judge_91
    refine fun _ => h1 μ4 (J2.trans (fun b t hb => (f4 b t (by omega) (by omega) (by omega) (by omega) (by omega)).trans (f3 b t (by omega)))) fe k8 k9 ⟨i, j, k, s, hi, hj, hk, lo.1, lx, ?_, ?_, ?_, ?_, ?_, ?_⟩ ⟨i', j', k', s', hi', hj', hk', lo'.1, lx', k3, kH, kV, kM, k5, k4⟩
    · rw [K _ _ (by omega) (by omega) (by omega) (by omega) (by omega)]; exact g3
    · rw [K _ _ (by omega) (by omega) (by omega) (by omega) (by omega), K _ _ (by omega) (by omega) (by omega) (by omega) (by omega)]; exact gH
    · rw [K _ _ (by omega) (by omega) (by omega) (by omega) (by omega), K _ _ (by omega) (by omega) (by omega) (by omega) (by omega)]; exact gV
    · rw [K _ _ (by omega) (by omega) (by omega) (by omega) (by omega), K _ _ (by omega) (by omega) (by omega) (by omega) (by omega)]; exact gM
    · rw [K _ _ (by omega) (by omega) (by omega) (by omega) (by omega)]; exact g5
    · intro t ht gt
      have := ct_lt (g := fun b => decide (wc h v m c i j k s b = 0)) ht gt
      have := ct_le (fun b => decide (wc h v m c i j k s b = 0)) n
      rw [K _ _ (by omega) (by omega) (by omega) (by omega) (by omega)]
      exact g4 t ht gt
  · have W1 := W.fk hC f1
    apply g_X10_judge_43
    rw [L.f3.1, L.f4.1, L.f5.1, L.f6.1]
    refine fun _ _ => ⟨fun _ => ⟨L.k, L.f5.2.1, sp_X3_search LN' LB' hN n48 R W1 (fun μ2 k ix a f2 S e4 nf => ?_)⟩, fun z => absurd rfl z⟩
    have J2 : FJ X μ μ2 := fun b t hb => (f2 b t (by omega)).trans (f1 b t (by omega))
    have W2' : RC μ2 (X + 4) n h v m c := W.fr (fun b t _ _ => J2 b t (by omega))
    apply g_X10_judge_104
    rw [L.f3.1, L.f5.1, L.f6.1]
    refine fun _ => ⟨L.k, L.f5.2.1, sp_X3_report LN' LB' LV' hN (by omega) n48 W2' (fun q => (J2 _ q (by omega)).trans (code5 q)) S e4 nf (fun μ3 f3 vn => ?_)⟩
    apply g_X10_judge_119
    exact fun _ => h0 μ3 k ix a (J2.trans (fun b t hb => f3 b t (by omega))) nfe S vn
