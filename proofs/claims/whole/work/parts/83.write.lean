/-! ===== a fraction's text ===== -/
def sgl (n : Int) : List Int := if n < 0 then [45] else []
def TX (n d : Int) (l : List Int) : Prop := ∃ ln, DL n.natAbs ln ∧ ((d = 1 ∧ l = sgl n ++ ln.reverse) ∨ (d ≠ 1 ∧ ∃ ld, DL d.natAbs ld ∧ l = sgl n ++ ln.reverse ++ [47] ++ ld.reverse))
theorem TX.one {n d : Int} {l l' : List Int} (h : TX n d l) (h' : TX n d l') : l = l' := by
  obtain ⟨a, a1, a2⟩ := h
  obtain ⟨b, b1, b2⟩ := h'
  have e := DL.one a1 b1
  subst e
  rcases a2 with ⟨c, r⟩ | ⟨c, x, x1, r⟩ <;> rcases b2 with ⟨c', r'⟩ | ⟨c', y, y1, r'⟩
  · rw [r, r']
  · exact absurd c c'
  · exact absurd c' c
  · have e := DL.one x1 y1
    subst e
    rw [r, r']
theorem LO.same {n d a b n' d' a' b' : Int} (d0 : 0 < d) (d0' : 0 < d') (h : LO n d a b) (h' : LO n' d' a' b') (e : n * d' = n' * d) : a = a' ∧ b = b' := by
  obtain ⟨h1, h2, h3, _, _⟩ := h
  obtain ⟨k1, k2, k3, _, _⟩ := h'
  have x : a * b' = a' * b := by
    have : d * d' * (a * b' - a' * b) = 0 := by
      have : d * d' * (a * b' - a' * b) = (a * d - n * b) * b' * d' - (a' * d' - n' * b') * b * d + (n * d' - n' * d) * b * b' := by grind
      rw [this, h3, k3, e]; simp
    have := zero_of_mul (Int.mul_pos d0 d0') this
    omega
  have xn : a.natAbs * b'.natAbs = a'.natAbs * b.natAbs := by rw [← Int.natAbs_mul, ← Int.natAbs_mul, x]
  have c1 : Nat.Coprime a.natAbs b.natAbs := h2
  have c2 : Nat.Coprime a'.natAbs b'.natAbs := k2
  have p1 : b.natAbs ∣ b'.natAbs := c1.symm.dvd_of_dvd_mul_left ⟨a'.natAbs, by rw [xn, Nat.mul_comm]⟩
  have p2 : b'.natAbs ∣ b.natAbs := c2.symm.dvd_of_dvd_mul_left ⟨a.natAbs, by rw [← xn, Nat.mul_comm]⟩
  have eb : b.natAbs = b'.natAbs := Nat.dvd_antisymm p1 p2
  have eb' : b = b' := by omega
  refine ⟨?_, eb'⟩
  rw [eb'] at x
  have : b' * (a - a') = 0 := by rw [Int.mul_sub, Int.mul_comm b' a, Int.mul_comm b' a', x]; omega
  have := zero_of_mul k1 this
  omega
theorem w2_nn {x y : Int} (h : 0 ≤ W2 x y) : 0 ≤ x := by unfold W2 at h; omega
theorem gcd_mod (l v : Int) (hl : 0 < l) : Int.gcd l (((v.natAbs : Nat) : Int) % l) = Int.gcd v l := by
  have := gcd_step (a := ((v.natAbs : Nat) : Int)) (b := l) (by omega)
  rw [this]
  unfold Int.gcd
  simp
theorem wr_37 {Q X : m_Po} {ε : m_E} {μ : m_M} {p V l : Int} {pre : List Int} (L : LPg ε p) (l1 : 1 ≤ l) (l2 : l ≤ 2147483648) (bV : V.natAbs < 10 ^ 38) (hw : W2 (μ (p + 3) 0) (μ (p + 3) 1) = V.natAbs) (H : PL (μ (p + 1)) (μ p 3) pre) (hp : pre = sgl V)
    (hh : ∀ μ' t, FPg p μ μ' → (∃ n d, LO V l n d ∧ TX n d t) → PL (μ' (p + 1)) (μ' p 3) t → Q t.length ε μ') : G cd_X4_write Q X 37 [(0, (2, p)), (5, (1, l))] [] ε μ := by
  have gp := gcd_pos_r (a := V) (b := l) (by omega)
  have lo := LO.div (n := V) (d := l) (by omega)
  have gl : ((Int.gcd V l : Nat) : Int) ≤ l := by
    have : Int.gcd V l ≤ l.natAbs := Nat.le_of_dvd (by omega) (Nat.gcd_dvd_right _ _)
    omega
  have gi : ((Int.gcd V l : Nat) : Int) = if 1 ≤ ((Int.gcd V l : Nat) : Int) then ((Int.gcd V l : Nat) : Int) else 1 := by rw [if_pos (by omega)]
  have nabs : (Int.tdiv V (Int.gcd V l)).natAbs = V.natAbs / Int.gcd V l := by rw [Int.natAbs_tdiv]; simp; rfl
  have dpos := lo.1
  have nn0 : ((V.natAbs / Int.gcd V l : Nat) : Int) = ((V.natAbs : Nat) : Int) / ((Int.gcd V l : Nat) : Int) := Int.natCast_ediv _ _
  have nsm : V.natAbs / Int.gcd V l < 10 ^ 39 := Nat.lt_of_le_of_lt (Nat.div_le_self _ _) (Nat.lt_of_lt_of_le bV (Nat.pow_le_pow_right (by decide) (by decide)))
  have sg' : sgl (Int.tdiv V (Int.gcd V l)) = sgl V := by
    unfold sgl
    by_cases q : V < 0
    · have : Int.tdiv V (Int.gcd V l) < 0 := by
        rcases Int.lt_or_le (Int.tdiv V (Int.gcd V l)) 0 with z | z
        · exact z
        · exfalso
          have a := Int.mul_nonneg z (show 0 ≤ l by omega)
          have b := Int.mul_pos (show 0 < -V by omega) dpos
          rw [lo.2.2.1] at a
          rw [Int.neg_mul] at b
          omega
      rw [if_pos q, if_pos this]
    · have : ¬ Int.tdiv V (Int.gcd V l) < 0 := by
        rw [Int.tdiv_eq_ediv_of_nonneg (by omega)]
        have := Int.ediv_nonneg (show 0 ≤ V by omega) (show 0 ≤ ((Int.gcd V l : Nat) : Int) by omega)
        omega
      rw [if_neg q, if_neg this]
  have plen : pre.length ≤ 1 := by rw [hp]; unfold sgl; split <;> simp
  generalize hg : Int.gcd V l = g at *
  apply g_X4_write_37
  rw [L.f2.1]
  refine fun _ _ => ⟨L.k, L.f2.2.1, fun v7 e7 v9 e9 => ⟨L.k, L.f2.2.1, sp_X9_divide L.f2.2.1 l1 l2 (w2_nn (by rw [hw]; omega)) (fun μ1 f1 _ w1 => ?_)⟩⟩
  rw [hw]
  apply g_X4_write_66
  refine fun _ _ _ _ _ _ => sp_X10_commonDivisor (by omega) (by have := Int.emod_nonneg ((V.natAbs : Nat) : Int) (show l ≠ 0 by omega); omega) ?_
  rw [gcd_mod l V (by omega), hg, ← gi]
  apply g_X4_write_69
  rw [L.f2.1]
  refine fun _ _ _ _ _ v11 e11 => ⟨L.k, L.f2.2.1, sp_X9_set L.f2.2.1 (fun μ2 f2 s0 s1 => ?_)⟩
  rw [e11]
  clear gi
  apply g_X4_write_82
  rw [L.f2.1]
  have hw2 : W2 (μ2 (p + 3) 0) (μ2 (p + 3) 1) = V.natAbs := by rw [s0, s1, e7, e9]; exact hw
  refine fun _ _ _ => ⟨L.k, L.f2.2.1, sp_X9_divide L.f2.2.1 (by omega) (by omega) (w2_nn (by rw [hw2]; omega)) (fun μ3 f3 h3 w3 => ?_)⟩
  rw [hw2, ← nn0] at w3
  have F3 : Exc (p + 3) μ μ3 := (f1.trans f2).trans f3
  have H3 : PL (μ3 (p + 1)) (μ3 p 3) pre := H.congr (F3 _ _ (by omega)) (fun j _ _ => F3 _ j (by omega))
  apply g_X4_write_91
  refine fun _ _ _ _ => ⟨L.k, sp_X4_addDigits L nsm h3 w3 H3 (by omega) (fun μ4 ln f4 dn H4 => ?_)⟩
  have F4 : FPg p μ μ4 := (FPg.of F3).trans f4
  have dn' : DL (Int.tdiv V g).natAbs ln := by rw [nabs]; exact dn
  have lnl : ln.length ≤ 39 := DL.len (k := 38) dn nsm
  have wd : w64 (Int.tdiv l g) = Int.tdiv l g := tdiv_ab (by omega) lo.2.2.2.2
  have dle : Int.tdiv l g ≤ 2147483648 := by have := lo.2.2.2.2; omega
  apply g_X4_write_96
  rw [if_neg (by omega), wd]
  clear wd
  refine fun _ _ _ => ⟨fun z => z, fun t et v13 e13 => ⟨fun c => ?_, fun c => ⟨L.k, sp_X4_add L H4 (by rw [List.length_append, List.length_reverse]; omega) (by decide) (by decide) (fun μ5 f5 _ _ H5 => ?_)⟩⟩⟩
  · apply g_X4_write_142
    refine fun _ => ⟨L.k, ?_⟩
    rw [H4.1]
    refine hh μ4 _ F4 ⟨_, _, lo, ln, dn', Or.inl ⟨by rw [← et, ← e13]; exact c, ?_⟩⟩ H4
    rw [sg', hp]
  · rw [e13, et] at c ⊢
    apply g_X4_write_128
    rw [L.f2.1]
    refine fun _ _ => ⟨L.k, L.f2.2.1, sp_X9_set L.f2.2.1 (fun μ6 f6 u0 u1 => ?_)⟩
    have H6 : PL (μ6 (p + 1)) (μ6 p 3) (pre ++ ln.reverse ++ [47]) := H5.congr (f6 _ _ (by omega)) (fun j _ _ => f6 _ j (by omega))
    have hw6 : W2 (μ6 (p + 3) 0) (μ6 (p + 3) 1) = (((Int.tdiv l g).natAbs : Nat) : Int) := by
      rw [u0, u1]
      unfold W2
      omega
    have dsm : (Int.tdiv l g).natAbs < 10 ^ 39 := Nat.lt_of_le_of_lt (show (Int.tdiv l g).natAbs ≤ 2147483648 by omega) (by decide)
    apply g_X4_write_138
    refine fun _ => ⟨L.k, sp_X4_addDigits L dsm (by rw [u0]; decide) hw6 H6 (by rw [List.length_append, List.length_append, List.length_reverse]; simp; omega) (fun μ7 ld f7 dd H7 => ?_)⟩
    apply g_X4_write_142
    refine fun _ => ⟨L.k, ?_⟩
    rw [H7.1]
    refine hh μ7 _ (((F4.trans f5).trans (FPg.of f6)).trans f7) ⟨_, _, lo, ln, dn', Or.inr ⟨c, ld, dd, ?_⟩⟩ H7
    rw [sg', hp]
theorem sp_X4_write {Q X : m_Po} {ε : m_E} {μ : m_M} {p hi lo l : Int} (L : LPg ε p) (l1 : 1 ≤ l) (l2 : l ≤ 2147483648) (bV : (W2 hi lo).natAbs < 10 ^ 38)
    (hh : ∀ μ' t, FPg p μ μ' → (∃ n d, LO (W2 hi lo) l n d ∧ TX n d t) → PL (μ' (p + 1)) (μ' p 3) t → Q t.length ε μ') : o_X4_write [(2, p), (1, hi), (1, lo), (1, l)] ε μ Q X := by
  apply e_X4_write
  rw [L.f2.1]
  refine fun _ _ _ _ => ⟨L.k, fun μ1 m1 => ⟨L.f2.2.1, sp_X9_set L.f2.2.1 (fun μ2 f2 s0 s1 => ?_)⟩⟩
  have F2 : FPg p μ μ2 := (by rw [m1]; exact FPg.st (by omega) : FPg p μ μ1).trans (FPg.of f2)
  have z2 : μ2 p 3 = 0 := by rw [f2 _ _ (by omega), m1, sx_same]
  have hw2 : W2 (μ2 (p + 3) 0) (μ2 (p + 3) 1) = W2 hi lo := by rw [s0, s1]
  apply g_X4_write_14
  rw [L.f2.1]
  refine fun _ _ => ⟨L.k, L.f2.2.1, sp_X9_sign L.f2.2.1 ?_⟩
  rw [hw2]
  generalize hV : W2 hi lo = V at *
  have big : (10 : Nat) ^ 38 = 100000000000000000000000000000000000000 := by decide
  rw [big] at bV
  apply g_X4_write_21
  refine fun _ _ _ => ⟨fun q => ?_, fun q => ⟨L.k, sp_X4_add L (l := []) (PL.nil z2) (by decide) (by decide) (by decide) (fun μ3 f3 _ d3 H3 => ?_)⟩⟩
  · have q' := sg_nneg q
    exact wr_37 L l1 l2 (by rw [big]; exact bV) (by rw [hw2]; omega) (PL.nil z2) (by unfold sgl; rw [if_neg (by omega)]) (fun μ' t f h H => hh μ' t (F2.trans f) h H)
  · have q' := sg_neg' q
    apply g_X4_write_30
    rw [L.f2.1]
    refine fun _ _ => ⟨L.k, L.f2.2.1, sp_X9_negate L.f2.2.1 (fun μ4 f4 w4 => ?_)⟩
    rw [d3, d3, hw2, w128_id (by omega)] at w4
    refine wr_37 L l1 l2 (pre := [45]) (by rw [big]; exact bV) (by rw [w4]; omega) (H3.congr (f4 _ _ (by omega)) (fun j _ _ => f4 _ j (by omega))) (by unfold sgl; rw [if_pos q']) (fun μ' t f h H => hh μ' t (((F2.trans f3).trans (FPg.of f4)).trans f) h H)
