/-! ===== frames; what memory's types give ===== -/
def Exc (a : Int) (μ μ' : m_M) : Prop := ∀ b j, b ≠ a → μ' b j = μ b j
theorem Exc.rf {a : Int} {μ : m_M} : Exc a μ μ := fun _ _ _ => rfl
theorem Exc.trans {a : Int} {μ μ' μ'' : m_M} (h : Exc a μ μ') (k : Exc a μ' μ'') : Exc a μ μ'' := fun b j hb => (k b j hb).trans (h b j hb)
theorem Exc.st {a i v : Int} {μ : m_M} : Exc a μ (st μ a i v) := fun b j hb => if_neg (fun z => hb z.1)
theorem sx_same {μ : m_M} {a i v : Int} : st μ a i v a i = v := if_pos ⟨rfl, rfl⟩
theorem sx_oi {μ : m_M} {a i v j : Int} (h : j ≠ i) : st μ a i v a j = μ a j := if_neg (fun z => h z.2)
theorem sx_oa {μ : m_M} {a i v b j : Int} (h : b ≠ a) : st μ a i v b j = μ b j := if_neg (fun z => h z.1)
theorem TY.int {ε : m_E} {μ : m_M} (h : TY ε μ) {a i : Int} (hk : kd ε a = 100) (h0 : 0 ≤ i) (h1 : i < ln ε a) : i32 (μ a i) := (h.2.1 a 0 hk (by decide)).2.2 i h0 h1
theorem TY.long {ε : m_E} {μ : m_M} (h : TY ε μ) {a i : Int} (hk : kd ε a = 101) (h0 : 0 ≤ i) (h1 : i < ln ε a) : i64 (μ a i) := (h.2.1 a 1 hk (by decide)).2.2 i h0 h1
theorem TY.wide {ε : m_E} {μ : m_M} (h : TY ε μ) {a : Int} (hk : kd ε a = 8) : i64 (μ a 0) ∧ i64 (μ a 1) := ⟨h.2.2.1 a 8 0 _ hk (by decide) rfl (by decide), h.2.2.1 a 8 1 _ hk (by decide) rfl (by decide)⟩
/-! ===== Wide: 128 bits ===== -/
def W2 (hi lo : Int) : Int := hi * 18446744073709551616 + lo % 18446744073709551616
def w128 (z : Int) : Int := (z + 170141183460469231731687303715884105728) % 340282366920938463463374607431768211456 - 170141183460469231731687303715884105728
theorem w128_id {z : Int} (h : -170141183460469231731687303715884105728 ≤ z ∧ z < 170141183460469231731687303715884105728) : w128 z = z := by
  unfold w128; omega
theorem w128_add (x y : Int) : w128 (w128 x + y) = w128 (x + y) := by
  unfold w128; omega
theorem wide_mul {a b : Int} (ha : i64 a) (hb : i64 b) {ah al bh bl p1 p2 p3 p4 : Int} (e1 : ah = a / 4294967296) (e2 : al = a % 4294967296) (e3 : bh = b / 4294967296) (e4 : bl = b % 4294967296) (q1 : p1 = ah * bl) (q2 : p2 = al * bl) (q3 : p3 = al * bh) (q4 : p4 = ah * bh) :
    (-9223372034707292160 ≤ p1 ∧ p1 ≤ 9223372030412324865) ∧ (0 ≤ p2 ∧ p2 ≤ 18446744065119617025) ∧ (-9223372034707292160 ≤ p3 ∧ p3 ≤ 9223372030412324865) ∧ (-4611686018427387904 ≤ p4 ∧ p4 ≤ 4611686018427387904) ∧ a * b = p4 * 18446744073709551616 + (p1 + p3) * 4294967296 + p2 := by
  unfold i64 at ha hb
  have a1 : -2147483648 ≤ ah ∧ ah ≤ 2147483647 := by omega
  have a2 : 0 ≤ al ∧ al ≤ 4294967295 := by omega
  have a3 : -2147483648 ≤ bh ∧ bh ≤ 2147483647 := by omega
  have a4 : 0 ≤ bl ∧ bl ≤ 4294967295 := by omega
  have ea : a = ah * 4294967296 + al := by omega
  have eb : b = bh * 4294967296 + bl := by omega
  refine ⟨?_, ?_, ?_, ?_, ?_⟩
  · have z1 : (ah + 2147483648) * bl ≥ 0 := Int.mul_nonneg (by omega) a4.1
    have z2 : (2147483647 - ah) * bl ≥ 0 := Int.mul_nonneg (by omega) a4.1
    rw [Int.add_mul] at z1
    rw [Int.sub_mul] at z2
    omega
  · have z1 : al * bl ≥ 0 := Int.mul_nonneg a2.1 a4.1
    have z2 : al * bl ≤ 4294967295 * 4294967295 := Int.mul_le_mul a2.2 a4.2 a4.1 (by decide)
    omega
  · have z1 : al * (bh + 2147483648) ≥ 0 := Int.mul_nonneg a2.1 (by omega)
    have z2 : al * (2147483647 - bh) ≥ 0 := Int.mul_nonneg a2.1 (by omega)
    rw [Int.mul_add] at z1
    rw [Int.mul_sub] at z2
    omega
  · have z1 : (ah + 2147483648) * (2147483648 - bh) ≥ 0 := Int.mul_nonneg (by omega) (by omega)
    have z2 : (2147483648 - ah) * (2147483648 - bh) ≥ 0 := Int.mul_nonneg (by omega) (by omega)
    have z3 : (ah + 2147483648) * (bh + 2147483648) ≥ 0 := Int.mul_nonneg (by omega) (by omega)
    have z4 : (2147483648 - ah) * (bh + 2147483648) ≥ 0 := Int.mul_nonneg (by omega) (by omega)
    have y1 : (ah + 2147483648) * (2147483648 - bh) = 2147483648 * ah - ah * bh + 4611686018427387904 - 2147483648 * bh := by grind
    have y2 : (2147483648 - ah) * (2147483648 - bh) = 4611686018427387904 - 2147483648 * bh - 2147483648 * ah + ah * bh := by grind
    have y3 : (ah + 2147483648) * (bh + 2147483648) = ah * bh + 2147483648 * ah + 2147483648 * bh + 4611686018427387904 := by grind
    have y4 : (2147483648 - ah) * (bh + 2147483648) = 2147483648 * bh + 4611686018427387904 - ah * bh - 2147483648 * ah := by grind
    omega
  · rw [q1, q2, q3, q4, ea, eb]; grind
theorem wide_high {p1 p2 p3 p4 mid oth : Int} (b1 : -9223372034707292160 ≤ p1 ∧ p1 ≤ 9223372030412324865) (b2 : 0 ≤ p2 ∧ p2 ≤ 18446744065119617025) (b3 : -9223372034707292160 ≤ p3 ∧ p3 ≤ 9223372030412324865) (b4 : -4611686018427387904 ≤ p4 ∧ p4 ≤ 4611686018427387904)
    (em : mid = w64 (w64 p1 + w64 p2 % 18446744073709551616 / 4294967296)) (eo : oth = w64 (w64 p3 + mid % 4294967296)) :
    i64 mid ∧ i64 oth ∧ ∃ r, 0 ≤ r ∧ r < 18446744073709551616 ∧ p4 * 18446744073709551616 + (p1 + p3) * 4294967296 + p2 = (p4 + mid / 4294967296 + oth / 4294967296) * 18446744073709551616 + r ∧ w64 (w64 (w64 p4 + mid / 4294967296) + oth / 4294967296) = p4 + mid / 4294967296 + oth / 4294967296 := by
  have e1 : mid = p1 + p2 / 4294967296 := by
    unfold w64 at em; omega
  have e2 : oth = p3 + mid % 4294967296 := by
    clear em
    unfold w64 at eo; omega
  clear em eo
  refine ⟨?_, ?_, (oth % 4294967296) * 4294967296 + p2 % 4294967296, by omega, by omega, by omega, ?_⟩
  · unfold i64; omega
  · unfold i64; omega
  · unfold w64; omega
theorem wide_sum {hi lo x r hi' lo' c ab : Int} (hlo : i64 lo) (hr0 : 0 ≤ r) (hr1 : r < 18446744073709551616) (e : ab = x * 18446744073709551616 + r) (e1 : lo' = w64 (lo + w64 ab)) (ec : c = if w64 ab % 18446744073709551616 - 9223372036854775808 ≤ lo' % 18446744073709551616 - 9223372036854775808 then 0 else 1) (e2 : hi' = w64 (w64 (hi + x) + c)) :
    W2 hi' lo' = w128 (W2 hi lo + ab) := by
  have c1 : w64 ab % 18446744073709551616 = r := by
    unfold w64; omega
  rw [c1] at ec
  have c2 : lo' % 18446744073709551616 = (lo % 18446744073709551616 + r) % 18446744073709551616 := by
    rw [e1]; unfold w64; omega
  have c3 : lo % 18446744073709551616 + r = lo' % 18446744073709551616 + c * 18446744073709551616 := by
    rw [ec]; split <;> omega
  have c4 : hi' = w64 (hi + x + c) := by rw [e2]; unfold w64; omega
  clear e2 ec e1 c1 c2
  unfold W2 w128
  rw [c4, e]
  unfold w64
  omega
theorem sp_X9_addProduct {Q X : m_Po} {ε : m_E} {μ : m_M} {a x y : Int} (hk : kd ε a = 8) (h : ∀ μ', Exc a μ μ' → W2 (μ' a 0) (μ' a 1) = w128 (W2 (μ a 0) (μ a 1) + x * y) → Q 0 ε μ') : o_X9_addProduct [(2, a), (1, x), (1, y)] ε μ Q X := by
  apply e_X9_addProduct
  intro hT hx hy v5 e5 v7 e7 v9 e9 v11 e11 v13 e13 v15 e15
  obtain ⟨hh, hl⟩ := hT.wide hk
  rw [shr64_32 hx] at e5
  rw [and64_lo] at e7 e11 e15
  rw [shr64_32 hy] at e9
  rw [ushr64_32] at e13
  obtain ⟨b1, b2, b3, b4, eab⟩ := wide_mul hx hy e5 e7 e9 e11 rfl rfl rfl rfl
  obtain ⟨i13, i15, r, r0, r1, er, ew⟩ := wide_high b1 b2 b3 b4 e13 e15
  refine ⟨hk, fun μ1 m1 v17 e17 μ2 m2 t et v19 e19 => ⟨hk, fun t1 et1 => ⟨hk, fun μ3 m3 => h μ3 ?_ ?_⟩⟩⟩
  · subst m1 m2 m3
    exact (Exc.st.trans Exc.st).trans Exc.st
  · subst m1 m2 m3
    simp only [st, true_and, and_self, reduceIte, Int.reduceEq] at et ⊢
    rw [xor64_top (show i64 v17 by rw [e17]; exact w64_i64 _), xor64_top (w64_i64 _)] at et
    rw [shr64_32 i13, shr64_32 i15, ew]
    refine wide_sum hl r0 r1 (eab.trans er) (by rw [e17]) ?_ rfl
    rw [et1, e19, et, e17]
    split <;> simp
theorem sp_X9_clear {Q X : m_Po} {ε : m_E} {μ : m_M} {a : Int} (hk : kd ε a = 8) (h : ∀ μ', Exc a μ μ' → μ' a 0 = 0 → μ' a 1 = 0 → Q 0 ε μ') : o_X9_clear [(2, a)] ε μ Q X := by
  apply e_X9_clear
  refine fun _ => ⟨hk, fun μ1 m1 μ2 m2 => h μ2 ?_ ?_ ?_⟩ <;> subst m1 m2
  · exact Exc.st.trans Exc.st
  · simp [st]
  · simp [st]
theorem sp_X9_set {Q X : m_Po} {ε : m_E} {μ : m_M} {a x y : Int} (hk : kd ε a = 8) (h : ∀ μ', Exc a μ μ' → μ' a 0 = x → μ' a 1 = y → Q 0 ε μ') : o_X9_set [(2, a), (1, x), (1, y)] ε μ Q X := by
  apply e_X9_set
  refine fun _ _ _ => ⟨hk, fun μ1 m1 μ2 m2 => h μ2 ?_ ?_ ?_⟩ <;> subst m1 m2
  · exact Exc.st.trans Exc.st
  · simp [st]
  · simp [st]
def sg (z : Int) : Int := if z < 0 then -1 else if z = 0 then 0 else 1
theorem sp_X9_sign {Q X : m_Po} {ε : m_E} {μ : m_M} {a : Int} (hk : kd ε a = 8) (h : Q (sg (W2 (μ a 0) (μ a 1))) ε μ) : o_X9_sign [(2, a)] ε μ Q X := by
  apply e_X9_sign
  intro hT
  obtain ⟨hh, hl⟩ := hT.wide hk
  unfold i64 at hh hl
  unfold sg W2 at h
  refine ⟨hk, fun c t et => ?_, fun c t et => ?_⟩
  · rw [et]
    by_cases z : 0 ≤ μ a 0
    · rw [if_neg (by omega), if_neg (by omega)] at h
      rw [if_pos z]; exact h
    · rw [if_pos (by omega)] at h
      rw [if_neg z]; exact h
  · rw [et]
    by_cases z : μ a 1 = 0
    · rw [c, z, if_neg (by decide), if_pos (by decide)] at h
      rw [if_pos z]; exact h
    · rw [if_neg (by omega), if_neg (by omega)] at h
      rw [if_neg z]; exact h
theorem sp_X9_negate {Q X : m_Po} {ε : m_E} {μ : m_M} {a : Int} (hk : kd ε a = 8) (h : ∀ μ', Exc a μ μ' → W2 (μ' a 0) (μ' a 1) = w128 (-(W2 (μ a 0) (μ a 1))) → Q 0 ε μ') : o_X9_negate [(2, a)] ε μ Q X := by
  apply e_X9_negate
  intro hT
  obtain ⟨hh, hl⟩ := hT.wide hk
  refine ⟨hk, fun t et => ⟨hk, fun μ1 m1 => ⟨hk, fun μ2 m2 => h μ2 ?_ ?_⟩⟩⟩ <;> subst m1 m2
  · exact Exc.st.trans Exc.st
  · simp only [st, true_and, and_self, reduceIte, Int.reduceEq]
    rw [xor64_m1 hh] at et
    unfold i64 at hh hl
    unfold W2 w128
    unfold w64 at et ⊢
    by_cases z : μ a 1 = 0
    · rw [if_pos z] at et; omega
    · rw [if_neg z] at et; omega
theorem div_piece {r d x : Int} (hd : 1 ≤ d) (hd2 : d ≤ 2147483648) (hr0 : 0 ≤ r) (hr1 : r < d) (hx0 : 0 ≤ x) (hx1 : x < 4294967296) :
    o_or64 (o_shl64 r 32) x = r * 4294967296 + x ∧ 0 ≤ r * 4294967296 + x ∧ (r * 4294967296 + x) / d < 4294967296 ∧ 0 ≤ (r * 4294967296 + x) / d ∧ 0 ≤ (r * 4294967296 + x) % d ∧ (r * 4294967296 + x) % d < d ∧ r * 4294967296 + x < 9223372036854775808 := by
  have h1 : r * 4294967296 + x < 9223372036854775808 := by omega
  have h0 : 0 ≤ r * 4294967296 + x := by omega
  refine ⟨?_, h0, ?_, Int.ediv_nonneg h0 (by omega), Int.emod_nonneg _ (by omega), Int.emod_lt_of_pos _ (by omega), h1⟩
  · rw [shl64_32, or64_sum _ hx0 hx1, w64_id (by unfold i64; omega)]
  · apply Int.ediv_lt_of_lt_mul (by omega)
    omega
theorem divmod_of {n d q r : Int} (h : n = d * q + r) (h0 : 0 ≤ r) (h1 : r < d) : n / d = q ∧ n % d = r := by
  have := (Int.ediv_emod_unique (a := n) (b := d) (r := r) (q := q) (by omega)).mpr ⟨by rw [h]; omega, h0, h1⟩
  exact this
theorem sp_X9_divide {Q X : m_Po} {ε : m_E} {μ : m_M} {a d : Int} (hk : kd ε a = 8) (hd : 1 ≤ d) (hd2 : d ≤ 2147483648) (hn : 0 ≤ μ a 0) (h : ∀ μ', Exc a μ μ' → 0 ≤ μ' a 0 → W2 (μ' a 0) (μ' a 1) = W2 (μ a 0) (μ a 1) / d → Q (W2 (μ a 0) (μ a 1) % d) ε μ') : o_X9_divide [(2, a), (1, d)] ε μ Q X := by
  apply e_X9_divide
  intro hT _
  obtain ⟨hh, hl⟩ := hT.wide hk
  refine ⟨fun z => by omega, fun _ => ⟨fun _ => ⟨hk, fun v3 e3 => ⟨by omega, fun v5 e5 => ⟨by omega, hk, fun v7 e7 v9 e9 => ⟨by omega, hk, fun μ1 m1 μ2 m2 => ?_⟩⟩⟩⟩, fun z => by omega⟩⟩
  unfold i64 at hh
  rw [ushr64_32] at e3
  have a3 : 0 ≤ v3 ∧ v3 < 2147483648 := by omega
  have x1 : 0 ≤ μ a 0 % 4294967296 ∧ μ a 0 % 4294967296 < 4294967296 := by omega
  rw [Int.tmod_eq_emod_of_nonneg a3.1, and64_lo] at e5
  obtain ⟨p1, p2, p3, p4, p5, p6, p7⟩ := div_piece hd hd2 (Int.emod_nonneg v3 (by omega)) (Int.emod_lt_of_pos v3 (by omega)) x1.1 x1.2
  rw [p1] at e5
  rw [← e5] at p2 p3 p4 p5 p6 p7
  have x2 : 0 ≤ μ a 1 % 18446744073709551616 / 4294967296 ∧ μ a 1 % 18446744073709551616 / 4294967296 < 4294967296 := by omega
  rw [Int.tmod_eq_emod_of_nonneg p2, ushr64_32] at e7
  obtain ⟨q1, q2, q3, q4, q5, q6, q7⟩ := div_piece hd hd2 p5 p6 x2.1 x2.2
  rw [q1] at e7
  rw [← e7] at q2 q3 q4 q5 q6 q7
  have x3 : 0 ≤ μ a 1 % 4294967296 ∧ μ a 1 % 4294967296 < 4294967296 := by omega
  rw [Int.tmod_eq_emod_of_nonneg q2, and64_lo] at e9
  obtain ⟨r1, r2, r3, r4, r5, r6, r7⟩ := div_piece hd hd2 q5 q6 x3.1 x3.2
  rw [r1] at e9
  rw [← e9] at r2 r3 r4 r5 r6 r7
  have s1 : 0 ≤ v3 / d ∧ v3 / d < 2147483648 := ⟨Int.ediv_nonneg a3.1 (by omega), by
    apply Int.ediv_lt_of_lt_mul (by omega)
    have := Int.mul_le_mul_of_nonneg_left hd (show (0 : Int) ≤ 2147483648 by decide)
    omega⟩
  have f1 : o_or64 (o_shl64 (w64 (Int.tdiv v3 d)) 32) (w64 (Int.tdiv v5 d)) = v3 / d * 4294967296 + v5 / d := by
    rw [Int.tdiv_eq_ediv_of_nonneg a3.1, Int.tdiv_eq_ediv_of_nonneg p2, w64_id (z := v3 / d) (by unfold i64; omega), w64_id (z := v5 / d) (by unfold i64; omega), shl64_32, or64_sum _ p4 p3, w64_id (by unfold i64; omega)]
  have f2 : o_or64 (o_shl64 (w64 (Int.tdiv v7 d)) 32) (w64 (Int.tdiv v9 d)) = w64 (v7 / d * 4294967296 + v9 / d) := by
    rw [Int.tdiv_eq_ediv_of_nonneg q2, Int.tdiv_eq_ediv_of_nonneg r2, w64_id (z := v7 / d) (by unfold i64; omega), w64_id (z := v9 / d) (by unfold i64; omega), shl64_32, or64_sum _ r4 r3]
  rw [f1] at m1
  rw [f2] at m2
  rw [Int.tmod_eq_emod_of_nonneg r2]
  have g1 := Int.mul_ediv_add_emod v3 d
  have g2 := Int.mul_ediv_add_emod v5 d
  have g3 := Int.mul_ediv_add_emod v7 d
  have g4 := Int.mul_ediv_add_emod v9 d
  have N : W2 (μ a 0) (μ a 1) = d * ((v3 / d * 4294967296 + v5 / d) * 18446744073709551616 + (v7 / d * 4294967296 + v9 / d)) + v9 % d := by
    have e : d * ((v3 / d * 4294967296 + v5 / d) * 18446744073709551616 + (v7 / d * 4294967296 + v9 / d)) = d * (v3 / d) * 79228162514264337593543950336 + d * (v5 / d) * 18446744073709551616 + d * (v7 / d) * 4294967296 + d * (v9 / d) := by grind
    rw [e]
    unfold W2
    omega
  obtain ⟨N1, N2⟩ := divmod_of N r5 r6
  rw [← N2]
  refine h μ2 ?_ ?_ ?_ <;> subst m1 m2
  · exact Exc.st.trans Exc.st
  · simp only [st, true_and, and_self, reduceIte, Int.reduceEq]
    omega
  · simp only [st, true_and, and_self, reduceIte, Int.reduceEq]
    rw [N1]
    unfold W2 w64
    omega
