/-! ===== the reference's minors and crosses; threes in numbers ===== -/
theorem minor_w {a b c x1 x2 y1 y2 z1 z2 : Int} (ha : bd a 20) (hb : bd b 20) (hc : bd c 20) (p1 : bd x1 40) (p2 : bd x2 40) (q1 : bd y1 40) (q2 : bd y2 40) (r1 : bd z1 40) (r2 : bd z2 40) :
    w64 (w64 (w64 (a * w64 (w64 x1 - w64 x2)) - w64 (b * w64 (w64 y1 - w64 y2))) + w64 (c * w64 (w64 z1 - w64 z2))) = a * (x1 - x2) - b * (y1 - y2) + c * (z1 - z2) := by
  rw [w64_sub p1 p2, w64_sub q1 q2, w64_sub r1 r2]
  have u1 := bd_mul ha (bd_sub p1 p2)
  have u2 := bd_mul hb (bd_sub q1 q2)
  have u3 := bd_mul hc (bd_sub r1 r2)
  rw [w64_bd (bd_mono u1 (by decide)), w64_bd (bd_mono u2 (by decide)), w64_bd (bd_mono u3 (by decide)), w64_bd (bd_mono (bd_sub u1 u2) (by decide)), w64_bd (bd_add (bd_sub u1 u2) (bd_mono u3 (by decide)))]
theorem sp_X12_minor {Q X : m_Po} {ε : m_E} {μ : m_M} {M n i j k : Int} {h v m c : Int → Int} (L : LM ε M) (n48 : n ≤ 48) (W : RW μ M n h v m c) (R : RB h v m c n) (hi : 0 ≤ i ∧ i < n) (hj : 0 ≤ j ∧ j < n) (hk : 0 ≤ k ∧ k < n) (hh : Q (dt3 h v m i j k) ε μ) : o_X12_minor [(2, M), (0, i), (0, j), (0, k)] ε μ Q X := by
  obtain ⟨a1, a2, a3', a4⟩ := R i hi.1 hi.2
  obtain ⟨b1, b2, b3, b4⟩ := R j hj.1 hj.2
  obtain ⟨d1, d2, d3, d4⟩ := R k hk.1 hk.2
  have i1 : i < 48 := by omega
  have j1 : j < 48 := by omega
  have k1 : k < 48 := by omega
  have hi0 := hi.1
  have hj0 := hj.1
  have hk0 := hk.1
  have e := minor_w a1 a2 a3' (bd_mul b2 d3) (bd_mul d2 b3) (bd_mul b1 d3) (bd_mul d1 b3) (bd_mul b1 d2) (bd_mul d1 b2)
  have e2 : h i * (v j * m k - v k * m j) - v i * (h j * m k - h k * m j) + m i * (h j * v k - h k * v j) = dt3 h v m i j k := by
    unfold dt3 crH crV crM; grind
  rw [e2] at e
  apply e_X12_minor
  simp only [L.k, L.f30.1, L.f30.2.1, L.f30.2.2, L.f31.1, L.f31.2.1, L.f31.2.2, L.f32.1, L.f32.2.1, L.f32.2.2, eq_self, true_and, i1, j1, k1, hi0, hj0, hk0, W.2.1, W.2.2.1, W.2.2.2.1, e]
  exact fun _ _ _ _ => hh
def cw (h v m : Int → Int) (w p q : Int) : Int := if w = 0 then crH v m p q else if w = 1 then crV h m p q else crM h v p q
theorem cw_bd {h v m c : Int → Int} {n p q w : Int} (R : RB h v m c n) (hp : 0 ≤ p ∧ p < n) (hq : 0 ≤ q ∧ q < n) : bd (cw h v m w p q) 41 := by
  obtain ⟨a1, a2, a3, a4⟩ := R p hp.1 hp.2
  obtain ⟨b1, b2, b3, b4⟩ := R q hq.1 hq.2
  have x0 : bd (crH v m p q) 41 := cr_bd a2 b3 a3 b2
  have x1 : bd (crV h m p q) 41 := cr_bd a3 b1 a1 b3
  have x2 : bd (crM h v p q) 41 := cr_bd a1 b2 a2 b1
  unfold cw
  split
  · exact x0
  · split <;> assumption
theorem sp_X12_across {Q X : m_Po} {ε : m_E} {μ : m_M} {M n i j w : Int} {h v m c : Int → Int} (L : LM ε M) (n48 : n ≤ 48) (W : RW μ M n h v m c) (R : RB h v m c n) (hi : 0 ≤ i ∧ i < n) (hj : 0 ≤ j ∧ j < n) (hh : Q (cw h v m w i j) ε μ) : o_X12_across [(2, M), (0, i), (0, j), (0, w)] ε μ Q X := by
  obtain ⟨a1, a2, a3', a4⟩ := R i hi.1 hi.2
  obtain ⟨b1, b2, b3, b4⟩ := R j hj.1 hj.2
  have i1 : i < 48 := by omega
  have j1 : j < 48 := by omega
  have hi0 := hi.1
  have hj0 := hj.1
  have e1 : w64 (w64 (v i * m j) - w64 (v j * m i)) = crH v m i j := by rw [w64_sub (bd_mul a2 b3) (bd_mul b2 a3')]; unfold crH; rw [Int.mul_comm (v j)]
  have e2 : w64 (w64 (m i * h j) - w64 (m j * h i)) = crV h m i j := by rw [w64_sub (bd_mul a3' b1) (bd_mul b3 a1)]; unfold crV; rw [Int.mul_comm (m j)]
  have e3 : w64 (w64 (h i * v j) - w64 (h j * v i)) = crM h v i j := by rw [w64_sub (bd_mul a1 b2) (bd_mul b1 a2)]; unfold crM; rw [Int.mul_comm (h j)]
  apply e_X12_across
  simp only [L.k, L.f30.1, L.f30.2.1, L.f30.2.2, L.f31.1, L.f31.2.1, L.f31.2.2, L.f32.1, L.f32.2.1, L.f32.2.2, forall_eq, eq_self, true_and, and_true, and_self, implies_true, i1, j1, hi0, hj0, W.2.1, W.2.2.1, W.2.2.2.1, e1, e2, e3]
  exact fun _ _ _ _ => hh
/-! in one plane all crosses go one way -/
theorem pl1 {h v m : Int → Int} {i j k : Int} (d : dt3 h v m i j k = 0) : crV h m j k * crM h v i j = crM h v j k * crV h m i j ∧ crM h v j k * crH v m i j = crH v m j k * crM h v i j ∧ crH v m j k * crV h m i j = crV h m j k * crH v m i j := by
  have e1 : crV h m j k * crM h v i j - crM h v j k * crV h m i j = -(dt3 h v m i j k) * h j := by unfold dt3 crH crV crM; grind
  have e2 : crM h v j k * crH v m i j - crH v m j k * crM h v i j = -(dt3 h v m i j k) * v j := by unfold dt3 crH crV crM; grind
  have e3 : crH v m j k * crV h m i j - crV h m j k * crH v m i j = -(dt3 h v m i j k) * m j := by unfold dt3 crH crV crM; grind
  rw [d] at e1 e2 e3
  simp only [Int.neg_zero, Int.zero_mul] at e1 e2 e3
  omega
theorem pl2 {h v m : Int → Int} {i j k : Int} (d : dt3 h v m i j k = 0) : crV h m k i * crM h v i j = crM h v k i * crV h m i j ∧ crM h v k i * crH v m i j = crH v m k i * crM h v i j ∧ crH v m k i * crV h m i j = crV h m k i * crH v m i j := by
  have e1 : crV h m k i * crM h v i j - crM h v k i * crV h m i j = dt3 h v m i j k * h i := by unfold dt3 crH crV crM; grind
  have e2 : crM h v k i * crH v m i j - crH v m k i * crM h v i j = dt3 h v m i j k * v i := by unfold dt3 crH crV crM; grind
  have e3 : crH v m k i * crV h m i j - crV h m k i * crH v m i j = dt3 h v m i j k * m i := by unfold dt3 crH crV crM; grind
  rw [d] at e1 e2 e3
  simp only [Int.zero_mul] at e1 e2 e3
  omega
def T3 (h v m : Int → Int) (i j k w : Int) : Prop := cw h v m w j k ≠ 0 ∧ cw h v m w k i ≠ 0 ∧ cw h v m w i j ≠ 0
theorem cw0 (h v m : Int → Int) (p q : Int) : cw h v m 0 p q = crH v m p q := rfl
theorem cw1 (h v m : Int → Int) (p q : Int) : cw h v m 1 p q = crV h m p q := rfl
theorem cw2 (h v m : Int → Int) (p q : Int) : cw h v m 2 p q = crM h v p q := rfl
theorem ss3 {a : Int → Int} : SS a ((3 : Nat) : Int) ↔ (0 < a 0 ∧ 0 < a 1 ∧ 0 < a 2) ∨ (a 0 < 0 ∧ a 1 < 0 ∧ a 2 < 0) := by
  constructor
  · rintro (S | S)
    · exact Or.inl ⟨S 0 (by decide) (by decide), S 1 (by decide) (by decide), S 2 (by decide) (by decide)⟩
    · exact Or.inr ⟨S 0 (by decide) (by decide), S 1 (by decide) (by decide), S 2 (by decide) (by decide)⟩
  · have three : ∀ t : Int, 0 ≤ t → t < ((3 : Nat) : Int) → t = 0 ∨ t = 1 ∨ t = 2 := fun t t0 t1 => by omega
    rintro (⟨x, y, z⟩ | ⟨x, y, z⟩)
    · refine Or.inl (fun t t0 t1 => ?_)
      rcases three t t0 t1 with rfl | rfl | rfl <;> assumption
    · refine Or.inr (fun t t0 t1 => ?_)
      rcases three t t0 t1 with rfl | rfl | rfl <;> assumption
theorem a3_0 (h v m : Int → Int) (i j k : Int) : a3 h v m i j k 0 = cx h v m i j j k := rfl
theorem a3_1 (h v m : Int → Int) (i j k : Int) : a3 h v m i j k 1 = cx h v m i j k i := rfl
theorem a3_2 (h v m : Int → Int) (i j k : Int) : a3 h v m i j k 2 = cx h v m i j i j := rfl
/-- no part in which none of the three is 0: no clash -/
theorem th_none {h v m : Int → Int} {i j k : Int} (n0 : ¬ T3 h v m i j k 0) (n1 : ¬ T3 h v m i j k 1) (n2 : ¬ T3 h v m i j k 2) : ¬ SS (a3 h v m i j k) ((3 : Nat) : Int) := by
  rw [ss3, a3_0, a3_1, a3_2]
  unfold T3 at n0 n1 n2
  rw [cw0, cw0, cw0] at n0
  rw [cw1, cw1, cw1] at n1
  rw [cw2, cw2, cw2] at n2
  unfold cx
  by_cases z : crH v m i j = 0
  · rw [if_pos z, if_pos z, if_pos z]
    by_cases y : crV h m i j = 0
    · rw [if_pos y, if_pos y, if_pos y]
      intro q
      exact n2 ⟨by omega, by omega, by omega⟩
    · rw [if_neg y, if_neg y, if_neg y]
      intro q
      exact n1 ⟨by omega, by omega, by omega⟩
  · rw [if_neg z, if_neg z, if_neg z]
    intro q
    exact n0 ⟨by omega, by omega, by omega⟩
/-- the first part in which none is 0 is the one that the class takes -/
theorem th_some {h v m : Int → Int} {i j k w : Int} (d : dt3 h v m i j k = 0) (hw : w = 0 ∨ w = 1 ∨ w = 2) (t : T3 h v m i j k w) (nb : ∀ u, 0 ≤ u → u < w → ¬ T3 h v m i j k u) : ¬ par h v m i j ∧ ∃ s, (s = 1 ∨ s = -1) ∧ ∀ p q, cx h v m i j p q = s * cw h v m w p q := by
  obtain ⟨p1, p2, p3⟩ := pl1 d
  obtain ⟨q1, q2, q3⟩ := pl2 d
  rcases hw with rfl | rfl | rfl
  · unfold T3 at t
    rw [cw0, cw0, cw0] at t
    refine ⟨fun z => t.2.2 z.1, -1, Or.inr rfl, fun p q => ?_⟩
    unfold cx
    rw [if_neg t.2.2, cw0]; omega
  · have n0 := nb 0 (by decide) (by decide)
    unfold T3 at t n0
    rw [cw1, cw1, cw1] at t
    rw [cw0, cw0, cw0] at n0
    have z : crH v m i j = 0 := by
      by_cases z : crH v m i j = 0
      · exact z
      · exfalso
        apply n0
        refine ⟨fun y => ?_, fun y => ?_, z⟩
        · rw [y, Int.zero_mul] at p3
          exact t.1 (mul_nz z (by rw [Int.mul_comm]; exact p3.symm))
        · rw [y, Int.zero_mul] at q3
          exact t.2.1 (mul_nz z (by rw [Int.mul_comm]; exact q3.symm))
    refine ⟨fun y => t.2.2 y.2.1, 1, Or.inl rfl, fun p q => ?_⟩
    unfold cx
    rw [if_pos z, if_neg t.2.2, cw1]; omega
  · have n0 := nb 0 (by decide) (by decide)
    have n1 := nb 1 (by decide) (by decide)
    unfold T3 at t n0 n1
    rw [cw2, cw2, cw2] at t
    rw [cw0, cw0, cw0] at n0
    rw [cw1, cw1, cw1] at n1
    have z : crH v m i j = 0 := by
      by_cases z : crH v m i j = 0
      · exact z
      · exfalso
        apply n0
        refine ⟨fun y => ?_, fun y => ?_, z⟩
        · rw [y, Int.zero_mul] at p2
          exact t.1 (mul_nz z (by rw [Int.mul_comm]; exact p2))
        · rw [y, Int.zero_mul] at q2
          exact t.2.1 (mul_nz z (by rw [Int.mul_comm]; exact q2))
    have y' : crV h m i j = 0 := by
      by_cases y' : crV h m i j = 0
      · exact y'
      · exfalso
        apply n1
        refine ⟨fun y => ?_, fun y => ?_, y'⟩
        · rw [y, Int.zero_mul] at p1
          exact t.1 (mul_nz y' (by rw [Int.mul_comm]; exact p1.symm))
        · rw [y, Int.zero_mul] at q1
          exact t.2.1 (mul_nz y' (by rw [Int.mul_comm]; exact q1.symm))
    refine ⟨fun y => t.2.2 y.2.2, 1, Or.inl rfl, fun p q => ?_⟩
    unfold cx
    rw [if_pos z, if_pos y', cw2]; omega
