/-! ===== the reference's decimals ===== -/
theorem dgs {z : Nat} (h : z < 10) : w32 (48 + (z : Int)) = 48 + (z : Int) := w32_id (by unfold i32; omega)
theorem dc_20 {Q X : m_Po} {ε : m_E} {M r : Int} (hr : r ∈ lm_b) (r36 : r ≠ 36) {R0 : Int → Int} {n : Nat} (hn : n < 10 ^ 39) (hR : (R0 r).natAbs = n) {pre : List Int} (hb : pre.length ≤ 320) {μ0 : m_M}
    (H0 : RG ε μ0 M R0) (P0 : PL (μ0 (M + 104)) (μ0 M 63) pre)
    (hh : ∀ μ' R' ln, RG ε μ' M R' → (∀ s, s ≠ 36 → R' s = R0 s) → DL n ln → PL (μ' (M + 104)) (μ' M 63) (pre ++ ln.reverse) → FD M μ0 μ' → Q 0 ε μ') : G cd_X12_decimals Q X 20 [(0, (2, M)), (1, (2, M + r))] [] ε μ0 := by
  have m36 : (36 : Int) ∈ lm_b := by decide
  -- the end: what was put is turned round
  have fin : ∀ (μ : m_M) (R : Int → Int) (l : List Int), RG ε μ M R → (∀ s, s ≠ 36 → R s = R0 s) → DL n l → l.length ≤ 39 → (∀ x ∈ l, 0 ≤ x ∧ x < 128) → PL (μ (M + 104)) (μ M 63) (pre ++ l) → FD M μ0 μ → G cd_X12_decimals Q X 75 [(0, (2, M)), (3, (0, pre.length)), (4, (0, μ M 63 - 1))] [] ε μ := by
    intro μ R l H fr dn ll hx P f
    have e := P.1
    rw [List.length_append] at e
    have b4 : μ M 63 - 1 < 400 := by omega
    have p0 : (0 : Int) ≤ pre.length := by omega
    have l1 : 1 ≤ l.length := by
      cases l with
      | nil => exact dn.elim
      | cons x t => simp
    refine rv_loop H.1 p0 b4 (g := μ (M + 104)) (fun k k0 k1 => ?_) (μ0 := μ) (fun μ' f1 f2 f3 => ?_) (μ M 63).toNat _ _ μ (by omega) rfl (Int.le_refl _) (by omega) (fun _ _ _ => rfl) (fun _ _ => rfl) (fun k k0 k1 => by omega) (fun k k0 k1 => by omega) (fun _ _ _ => rfl)
    · obtain ⟨q, rfl⟩ : ∃ q : Nat, k = q := ⟨k.toNat, by omega⟩
      have kl : q - pre.length < l.length := by omega
      have : μ (M + 104) q = l[q - pre.length] := by
        refine P.2 _ _ ?_
        rw [List.getElem?_append, if_neg (by omega)]
        exact List.getElem?_eq_getElem kl
      rw [this]
      exact hx _ (List.getElem_mem kl)
    · have g63 : μ' M 63 = μ M 63 := f1 _ _ (by omega)
      have fm : FM M μ μ' := fun b j h1 _ => f1 b j h1
      refine hh μ' R l (H.fm fm) fr dn ?_ (f.trans (FD.m fm))
      rw [g63]
      exact P.turn (fun k hk => f2 k hk) (fun k k0 k1 => f3 k k0 k1)
  have one : ∀ (rr : Nat) (l : List Int) (μ : m_M) (R : Int → Int), l.length ≤ 38 → (∀ t, DL rr t → DL n (l ++ t)) → (∀ x ∈ l, 0 ≤ x ∧ x < 128) → RG ε μ M R → (R 36).natAbs = rr → (∀ s, s ≠ 36 → R s = R0 s) → PL (μ (M + 104)) (μ M 63) (pre ++ l) → FD M μ0 μ →
      (∀ μ' R', rr / 10 ≠ 0 → (∀ t, DL (rr / 10) t → DL n (l ++ [48 + ((rr % 10 : Nat) : Int)] ++ t)) → (∀ x ∈ l ++ [48 + ((rr % 10 : Nat) : Int)], 0 ≤ x ∧ x < 128) → RG ε μ' M R' → (R' 36).natAbs = rr / 10 → (∀ s, s ≠ 36 → R' s = R0 s) → PL (μ' (M + 104)) (μ' M 63) (pre ++ (l ++ [48 + ((rr % 10 : Nat) : Int)])) → FD M μ0 μ' → G cd_X12_decimals Q X 35 [(0, (2, M)), (2, (0, pre.length))] [] ε μ') →
      G cd_X12_decimals Q X 35 [(0, (2, M)), (2, (0, pre.length))] [] ε μ := by
    intro rr l μ R hl hD hx H hr fr P f nxt
    have L := H.1
    have p2 := H.g2
    have rq : (rr : Int) / 10 = ((rr / 10 : Nat) : Int) := by omega
    have rm : (rr : Int) % 10 = ((rr % 10 : Nat) : Int) := by omega
    have r10 : rr % 10 < 10 := Nat.mod_lt _ (by decide)
    generalize hz : rr % 10 = z at *
    have hx' : ∀ x ∈ l ++ [48 + (z : Int)], 0 ≤ x ∧ x < 128 := by
      intro x hm
      rcases List.mem_append.mp hm with q | q
      · exact hx x q
      · simp at q; omega
    apply g_X12_decimals_35
    rw [L.f36.1, p2]
    refine fun _ _ => ⟨L.k, L.f36.2.1, by rw [L.f36.2.2]; decide, (H.2.1 36 m36).1, rg_parts H m36 (by decide) (by decide) (fun μ1 v ev H1 f1 => ?_)⟩
    rw [hr, rq] at ev
    rw [hr, rm]
    have P1 := P.fb f1
    apply g_X12_decimals_49
    rw [dgs r10]
    refine fun _ _ _ _ => ⟨L.k, sp_X12_puts L P1 (by rw [List.length_append]; omega) (by omega) (by omega) (fun μ2 f2 P2 => ?_)⟩
    have H2 := H1.fm f2
    have F2 : FD M μ0 μ2 := (f.trans (FD.b f1)).trans (FD.m f2)
    rw [List.append_assoc] at P2
    have fr2 : ∀ s, s ≠ 36 → up R 36 v s = R0 s := fun s hs => by rw [up_ne hs]; exact fr s hs
    have e2 := P2.1
    apply g_X12_decimals_53
    rw [L.f36.1, H2.g2]
    refine fun _ _ => ⟨L.k, L.f36.2.1, by rw [L.f36.2.2]; decide, (H.2.1 36 m36).1, rg_no H2 m36 ?_⟩
    rw [up_same]
    apply g_X12_decimals_62
    refine fun _ _ _ => ⟨fun q => ?_, fun q v3 e3 => ⟨L.k, fun v4 e4 => ?_⟩⟩
    · have v0 : v ≠ 0 := fun y => by rw [if_pos y] at q; exact absurd q (by decide)
      refine nxt μ2 _ (by omega) (fun t ht => ?_) hx' H2 (by rw [up_same]; omega) fr2 P2 F2
      rw [List.append_assoc]
      exact hD _ ⟨by rw [hz], Or.inr ⟨by omega, ht⟩⟩
    · have v0 : v = 0 := by
        by_cases y : v = 0
        · exact y
        · rw [if_neg y] at q; exact absurd rfl q
      have dn : DL n (l ++ [48 + (z : Int)]) := hD _ ⟨by rw [hz], Or.inl ⟨by omega, rfl⟩⟩
      have ln1 : (l ++ [48 + (z : Int)]).length = l.length + 1 := by simp
      have e4' : v4 = μ2 M 63 - 1 := by
        rw [List.length_append, ln1] at e2
        rw [e4, w32_id (by unfold i32; clear e4; omega)]
      rw [e3, e4']
      exact fin μ2 _ _ H2 fr2 dn (by rw [ln1]; omega) hx' P2 F2
  have loop : ∀ (e rr : Nat) (l : List Int) (μ : m_M) (R : Int → Int), l.length + e = 38 → rr < 10 ^ (e + 1) → (∀ t, DL rr t → DL n (l ++ t)) → (∀ x ∈ l, 0 ≤ x ∧ x < 128) → RG ε μ M R → (R 36).natAbs = rr → (∀ s, s ≠ 36 → R s = R0 s) → PL (μ (M + 104)) (μ M 63) (pre ++ l) → FD M μ0 μ → G cd_X12_decimals Q X 35 [(0, (2, M)), (2, (0, pre.length))] [] ε μ := by
    intro e
    induction e with
    | zero =>
      intro rr l μ R hl hr hD hx H h36 fr P f
      refine one rr l μ R (by omega) hD hx H h36 fr P f (fun μ2 R2 r0 => ?_)
      exfalso
      apply r0
      have : rr < 10 := by simpa using hr
      omega
    | succ e ih =>
      intro rr l μ R hl hr hD hx H h36 fr P f
      refine one rr l μ R (by omega) hD hx H h36 fr P f (fun μ2 R2 r0 a1 a2 a3 a4 a5 a6 a7 => ?_)
      have ln1 : (l ++ [48 + ((rr % 10 : Nat) : Int)]).length = l.length + 1 := by simp
      exact ih (rr / 10) _ μ2 R2 (by rw [ln1]; omega) (by
        rw [Nat.pow_succ] at hr
        exact Nat.div_lt_of_lt_mul (by omega)) a1 a2 a3 a4 a5 a6 a7
  apply g_X12_decimals_20
  rw [H0.1.f36.1, H0.g2]
  refine fun _ => ⟨H0.1.k, fun v2 e2 => ⟨H0.1.f36.2.1, by rw [H0.1.f36.2.2]; decide, (H0.2.1 36 m36).1, rg_take H0 m36 hr (fun μ1 H1 f1 => ?_)⟩⟩
  rw [e2, P0.1]
  exact loop 38 n [] μ1 _ rfl hn (fun t h => h) (fun x h => by simp at h) H1 (by rw [up_same]; exact hR) (fun s hs => up_ne hs) (by rw [List.append_nil]; exact P0.fb f1) (FD.b f1)
theorem rg_decimals {Q X : m_Po} {ε : m_E} {M r : Int} (hr : r ∈ lm_b) (r36 : r ≠ 36) {R0 : Int → Int} (hn : (R0 r).natAbs < 10 ^ 39) {base : List Int} (hb : base.length ≤ 300) {μ0 : m_M} (H0 : RG ε μ0 M R0) (P0 : PL (μ0 (M + 104)) (μ0 M 63) base)
    (hh : ∀ μ' R' ln, RG ε μ' M R' → (∀ s, s ≠ 36 → R' s = R0 s) → DL (R0 r).natAbs ln → PL (μ' (M + 104)) (μ' M 63) (base ++ (sgl (R0 r) ++ ln.reverse)) → FD M μ0 μ' → Q 0 ε μ') : o_X12_decimals [(2, M), (2, M + r)] ε μ0 Q X := by
  have sg' := rg_sg H0 hr
  have pos : ¬ R0 r < 0 → G cd_X12_decimals Q X 20 [(0, (2, M)), (1, (2, M + r))] [] ε μ0 := by
    intro q
    refine dc_20 hr r36 hn rfl (by omega) H0 P0 (fun μ' R' ln a b c d e => hh μ' R' ln a b c ?_ e)
    unfold sgl
    rw [if_neg q, List.nil_append]
    exact d
  apply e_X12_decimals
  refine fun _ => ⟨(H0.2.1 r hr).1, fun q => ?_, fun q => rg_no H0 hr ?_⟩
  · rw [if_pos q] at sg'
    exact pos (by omega)
  · rw [if_neg q] at sg'
    apply g_X12_decimals_11
    refine fun _ _ => ⟨fun c => ?_, fun c => ⟨H0.1.k, sp_X12_puts H0.1 P0 (by omega) (by decide) (by decide) (fun μ1 f1 P1 => ?_)⟩⟩
    · have z : R0 r = 0 := by
        by_cases y : R0 r = 0
        · exact y
        · rw [if_neg y] at c; exact absurd rfl c
      exact pos (by omega)
    · have z : R0 r ≠ 0 := fun y => by rw [if_pos y] at c; exact absurd c (by decide)
      refine dc_20 hr r36 hn rfl (by rw [List.length_append]; simp; omega) (H0.fm f1) P1 (fun μ' R' ln a b c d e => hh μ' R' ln a b c ?_ ((FD.m f1).trans e))
      unfold sgl
      rw [if_pos (by omega), ← List.append_assoc]
      exact d
