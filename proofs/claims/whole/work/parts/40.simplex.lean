/-! ===== numbers: order by three parts, corners of three bounds ===== -/
def lp (x y z : Int) : Prop := 0 < x ∨ (x = 0 ∧ (0 < y ∨ (y = 0 ∧ 0 < z)))
theorem lp_add {x y z a b c : Int} (h : lp x y z) (k : lp a b c) : lp (x + a) (y + b) (z + c) := by
  unfold lp at *; omega
theorem lp_not {x y z : Int} (h : ¬ (x = 0 ∧ y = 0 ∧ z = 0)) : lp x y z ∨ lp (-x) (-y) (-z) := by
  unfold lp; omega
theorem lp_anti {x y z : Int} (h : lp x y z) (k : lp (-x) (-y) (-z)) : False := by
  unfold lp at *; omega
theorem lp_ne {x y z : Int} (h : lp x y z) : ¬ (x = 0 ∧ y = 0 ∧ z = 0) := by
  unfold lp at *; omega
theorem mul_pos' {a b : Int} (h : 0 < a) (k : 0 < b) : 0 < a * b := Int.mul_pos h k
theorem pos_of_mul {a b : Int} (h : 0 < a) (k : 0 < a * b) : 0 < b := by
  rcases Int.lt_trichotomy b 0 with q | q | q
  · have := Int.mul_neg_of_pos_of_neg h q; omega
  · rw [q, Int.mul_zero] at k; omega
  · exact q
theorem zero_of_mul {a b : Int} (h : 0 < a) (k : a * b = 0) : b = 0 := by
  rcases Int.mul_eq_zero.mp k with q | q
  · omega
  · exact q
theorem lp_mul {d x y z : Int} (hd : 0 < d) (h : lp x y z) : lp (d * x) (d * y) (d * z) := by
  rcases h with h | ⟨rfl, h | ⟨rfl, h⟩⟩
  · exact Or.inl (Int.mul_pos hd h)
  · exact Or.inr ⟨Int.mul_zero _, Or.inl (Int.mul_pos hd h)⟩
  · exact Or.inr ⟨Int.mul_zero _, Or.inr ⟨Int.mul_zero _, Int.mul_pos hd h⟩⟩
theorem lp_div {d x y z : Int} (hd : 0 < d) (h : lp (d * x) (d * y) (d * z)) : lp x y z := by
  rcases h with h | ⟨h1, h | ⟨h2, h⟩⟩
  · exact Or.inl (pos_of_mul hd h)
  · exact Or.inr ⟨zero_of_mul hd h1, Or.inl (pos_of_mul hd h)⟩
  · exact Or.inr ⟨zero_of_mul hd h1, Or.inr ⟨zero_of_mul hd h2, pos_of_mul hd h⟩⟩
/-- not below: 0 or above -/
def ln0 (x y z : Int) : Prop := lp x y z ∨ (x = 0 ∧ y = 0 ∧ z = 0)
theorem ln0_mul {d x y z : Int} (hd : 0 ≤ d) (h : lp x y z) : ln0 (d * x) (d * y) (d * z) := by
  rcases Int.lt_or_eq_of_le hd with q | q
  · exact Or.inl (lp_mul q h)
  · rw [← q]; exact Or.inr ⟨Int.zero_mul _, Int.zero_mul _, Int.zero_mul _⟩
theorem ln0_add {x y z a b c : Int} (h : ln0 x y z) (k : ln0 a b c) : ln0 (x + a) (y + b) (z + c) := by
  unfold ln0 lp at *; omega
theorem ln0_lp {x y z a b c : Int} (h : ln0 x y z) (k : lp a b c) : lp (x + a) (y + b) (z + c) := by
  unfold ln0 lp at *; omega
theorem ln0_anti {x y z : Int} (h : ln0 x y z) (k : ln0 (-x) (-y) (-z)) : x = 0 ∧ y = 0 ∧ z = 0 := by
  unfold ln0 lp at *; omega
/-- three vectors x, y, z with parts p, q, r: p's share of the one is least -/
theorem lp_pick2 {p q x1 x2 x3 y1 y2 y3 : Int} (hy : lp y1 y2 y3) (hx : lp x1 x2 x3) (hp : 0 < p) (hq : q ≤ 0) : lp (p * y1 - q * x1) (p * y2 - q * x2) (p * y3 - q * x3) := by
  have a := ln0_mul (d := -q) (by omega) hx
  have b := lp_mul hp hy
  have c := ln0_lp a b
  have e : ∀ u v : Int, -q * v + p * u = p * u - q * v := fun u v => by grind
  rwa [e, e, e] at c
theorem lp_trans3 {p q r x1 x2 x3 y1 y2 y3 z1 z2 z3 : Int} (hq : 0 < q) (hp : 0 < p) (hr : 0 < r) (h1 : lp (p * y1 - q * x1) (p * y2 - q * x2) (p * y3 - q * x3)) (h2 : lp (q * z1 - r * y1) (q * z2 - r * y2) (q * z3 - r * y3)) : lp (p * z1 - r * x1) (p * z2 - r * x2) (p * z3 - r * x3) := by
  have a := lp_add (lp_mul hr h1) (lp_mul hp h2)
  have e : ∀ x y z : Int, r * (p * y - q * x) + p * (q * z - r * y) = q * (p * z - r * x) := fun x y z => by grind
  rw [e, e, e] at a
  exact lp_div hq a
theorem lp_flip {p q x1 x2 x3 y1 y2 y3 : Int} (h : lp (-(p * y1 - q * x1)) (-(p * y2 - q * x2)) (-(p * y3 - q * x3))) : lp (q * x1 - p * y1) (q * x2 - p * y2) (q * x3 - p * y3) := by
  have e : ∀ x y : Int, -(p * y - q * x) = q * x - p * y := fun x y => by grind
  rwa [e, e, e] at h
/-- the least share: one of three that has a part above 0 -/
theorem lp_least {p q r x1 x2 x3 y1 y2 y3 z1 z2 z3 : Int} (hx : lp x1 x2 x3) (hy : lp y1 y2 y3) (hz : lp z1 z2 z3) (h : 0 < p ∨ 0 < q ∨ 0 < r)
    (nxy : 0 < p → 0 < q → ¬ (p * y1 - q * x1 = 0 ∧ p * y2 - q * x2 = 0 ∧ p * y3 - q * x3 = 0)) (nxz : 0 < p → 0 < r → ¬ (p * z1 - r * x1 = 0 ∧ p * z2 - r * x2 = 0 ∧ p * z3 - r * x3 = 0)) (nyz : 0 < q → 0 < r → ¬ (q * z1 - r * y1 = 0 ∧ q * z2 - r * y2 = 0 ∧ q * z3 - r * y3 = 0)) :
    (0 < p ∧ lp (p * y1 - q * x1) (p * y2 - q * x2) (p * y3 - q * x3) ∧ lp (p * z1 - r * x1) (p * z2 - r * x2) (p * z3 - r * x3)) ∨
    (0 < q ∧ lp (q * x1 - p * y1) (q * x2 - p * y2) (q * x3 - p * y3) ∧ lp (q * z1 - r * y1) (q * z2 - r * y2) (q * z3 - r * y3)) ∨
    (0 < r ∧ lp (r * x1 - p * z1) (r * x2 - p * z2) (r * x3 - p * z3) ∧ lp (r * y1 - q * z1) (r * y2 - q * z2) (r * y3 - q * z3)) := by
  by_cases hp : 0 < p
  · by_cases hq : 0 < q
    · rcases lp_not (nxy hp hq) with a | a
      · by_cases hr : 0 < r
        · rcases lp_not (nxz hp hr) with b | b
          · exact Or.inl ⟨hp, a, b⟩
          · have b := lp_flip b
            exact Or.inr (Or.inr ⟨hr, b, lp_trans3 hp hr hq b a⟩)
        · exact Or.inl ⟨hp, a, lp_pick2 hz hx hp (by omega)⟩
      · have a := lp_flip a
        by_cases hr : 0 < r
        · rcases lp_not (nyz hq hr) with b | b
          · exact Or.inr (Or.inl ⟨hq, a, b⟩)
          · have b := lp_flip b
            exact Or.inr (Or.inr ⟨hr, lp_trans3 hq hr hp b a, b⟩)
        · exact Or.inr (Or.inl ⟨hq, a, lp_pick2 hz hy hq (by omega)⟩)
    · by_cases hr : 0 < r
      · rcases lp_not (nxz hp hr) with b | b
        · exact Or.inl ⟨hp, lp_pick2 hy hx hp (by omega), b⟩
        · exact Or.inr (Or.inr ⟨hr, lp_flip b, lp_pick2 hy hz hr (by omega)⟩)
      · exact Or.inl ⟨hp, lp_pick2 hy hx hp (by omega), lp_pick2 hz hx hp (by omega)⟩
  · by_cases hq : 0 < q
    · by_cases hr : 0 < r
      · rcases lp_not (nyz hq hr) with b | b
        · exact Or.inr (Or.inl ⟨hq, lp_pick2 hx hy hq (by omega), b⟩)
        · exact Or.inr (Or.inr ⟨hr, lp_pick2 hx hz hr (by omega), lp_flip b⟩)
      · exact Or.inr (Or.inl ⟨hq, lp_pick2 hx hy hq (by omega), lp_pick2 hz hy hq (by omega)⟩)
    · have hr : 0 < r := by omega
      exact Or.inr (Or.inr ⟨hr, lp_pick2 hx hz hr (by omega), lp_pick2 hy hz hr (by omega)⟩)
/-- crosses and volumes of bounds' directions -/
def crH (v m : Int → Int) (i j : Int) : Int := v i * m j - m i * v j
def crV (h m : Int → Int) (i j : Int) : Int := m i * h j - h i * m j
def crM (h v : Int → Int) (i j : Int) : Int := h i * v j - v i * h j
def dt3 (h v m : Int → Int) (i j k : Int) : Int := h i * crH v m j k + v i * crV h m j k + m i * crM h v j k
theorem dt3_rot (h v m : Int → Int) (i j k : Int) : dt3 h v m j k i = dt3 h v m i j k := by
  unfold dt3 crH crV crM; grind
section Cor
variable {h v m c : Int → Int} {i j k b s : Int}
/-- what a bound is worth at the point (x, y, z) / w, times w -/
def wo (h v m c : Int → Int) (b x y z w : Int) : Int := h b * x + v b * y + m b * z + c b * w
/-- the corner's three numbers, times the volume -/
def cnH (v m c : Int → Int) (i j k s : Int) : Int := -(s * crH v m j k) * c i + -(s * crH v m k i) * c j + -(s * crH v m i j) * c k
def cnV (h m c : Int → Int) (i j k s : Int) : Int := -(s * crV h m j k) * c i + -(s * crV h m k i) * c j + -(s * crV h m i j) * c k
def cnM (h v c : Int → Int) (i j k s : Int) : Int := -(s * crM h v j k) * c i + -(s * crM h v k i) * c j + -(s * crM h v i j) * c k
/-- a bound's part along the edge at i, away from j and k -/
def pa3 (h v m : Int → Int) (s b j k : Int) : Int := h b * (s * crH v m j k) + v b * (s * crV h m j k) + m b * (s * crM h v j k)
theorem cram_h (x y z w : Int) : s * dt3 h v m i j k * x - w * cnH v m c i j k s = wo h v m c i x y z w * (s * crH v m j k) + wo h v m c j x y z w * (s * crH v m k i) + wo h v m c k x y z w * (s * crH v m i j) := by
  unfold wo cnH dt3 crH crV crM; grind
theorem cram_v (x y z w : Int) : s * dt3 h v m i j k * y - w * cnV h m c i j k s = wo h v m c i x y z w * (s * crV h m j k) + wo h v m c j x y z w * (s * crV h m k i) + wo h v m c k x y z w * (s * crV h m i j) := by
  unfold wo cnV dt3 crH crV crM; grind
theorem cram_m (x y z w : Int) : s * dt3 h v m i j k * z - w * cnM h v c i j k s = wo h v m c i x y z w * (s * crM h v j k) + wo h v m c j x y z w * (s * crM h v k i) + wo h v m c k x y z w * (s * crM h v i j) := by
  unfold wo cnM dt3 crH crV crM; grind
/-- what the bound b is worth at the corner, times the volume -/
theorem wo_cn : wo h v m c b (cnH v m c i j k s) (cnV h m c i j k s) (cnM h v c i j k s) (s * dt3 h v m i j k) = c b * (s * dt3 h v m i j k) + -(pa3 h v m s b j k) * c i + -(pa3 h v m s b k i) * c j + -(pa3 h v m s b i j) * c k := by
  unfold wo cnH cnV cnM pa3; grind
theorem wo_base0 : wo h v m c i (cnH v m c i j k s) (cnV h m c i j k s) (cnM h v c i j k s) (s * dt3 h v m i j k) = 0 := by
  unfold wo cnH cnV cnM dt3 crH crV crM; grind
theorem wo_base1 : wo h v m c j (cnH v m c i j k s) (cnV h m c i j k s) (cnM h v c i j k s) (s * dt3 h v m i j k) = 0 := by
  unfold wo cnH cnV cnM dt3 crH crV crM; grind
theorem wo_base2 : wo h v m c k (cnH v m c i j k s) (cnV h m c i j k s) (cnM h v c i j k s) (s * dt3 h v m i j k) = 0 := by
  unfold wo cnH cnV cnM dt3 crH crV crM; grind
/-- the bound b anywhere, by the base's bounds -/
theorem wo_any (x y z w : Int) : s * dt3 h v m i j k * wo h v m c b x y z w = w * wo h v m c b (cnH v m c i j k s) (cnV h m c i j k s) (cnM h v c i j k s) (s * dt3 h v m i j k) + wo h v m c i x y z w * pa3 h v m s b j k + wo h v m c j x y z w * pa3 h v m s b k i + wo h v m c k x y z w * pa3 h v m s b i j := by
  have e1 := cram_h (h := h) (v := v) (m := m) (c := c) (i := i) (j := j) (k := k) (s := s) x y z w
  have e2 := cram_v (h := h) (v := v) (m := m) (c := c) (i := i) (j := j) (k := k) (s := s) x y z w
  have e3 := cram_m (h := h) (v := v) (m := m) (c := c) (i := i) (j := j) (k := k) (s := s) x y z w
  generalize cnH v m c i j k s = p1 at *
  generalize cnV h m c i j k s = p2 at *
  generalize cnM h v c i j k s = p3 at *
  generalize s * dt3 h v m i j k = d at *
  generalize wo h v m c i x y z w = w1 at *
  generalize wo h v m c j x y z w = w2 at *
  generalize wo h v m c k x y z w = w3 at *
  unfold wo pa3
  generalize s * crH v m j k = a1 at *
  generalize s * crH v m k i = a2 at *
  generalize s * crH v m i j = a3 at *
  generalize s * crV h m j k = b1 at *
  generalize s * crV h m k i = b2 at *
  generalize s * crV h m i j = b3 at *
  generalize s * crM h v j k = c1 at *
  generalize s * crM h v k i = c2 at *
  generalize s * crM h v i j = c3 at *
  have : d * (h b * x + v b * y + m b * z + c b * w) = h b * (d * x - w * p1) + v b * (d * y - w * p2) + m b * (d * z - w * p3) + w * (h b * p1 + v b * p2 + m b * p3 + c b * d) := by grind
  rw [this, e1, e2, e3]
  grind
/-- the three edges rise (by h, or by less h; then v, then m), the volume is above 0 -/
def Low (h v m : Int → Int) (g i j k s : Int) : Prop := (s = 1 ∨ s = -1) ∧ 0 < s * dt3 h v m i j k ∧ lp (g * (s * crH v m j k)) (s * crV h m j k) (s * crM h v j k) ∧ lp (g * (s * crH v m k i)) (s * crV h m k i) (s * crM h v k i) ∧ lp (g * (s * crH v m i j)) (s * crV h m i j) (s * crM h v i j)
/-- no point that keeps the base's bounds is below the corner -/
theorem low_min {g : Int} (L : Low h v m g i j k s) {x y z w : Int} (h1 : 0 ≤ wo h v m c i x y z w) (h2 : 0 ≤ wo h v m c j x y z w) (h3 : 0 ≤ wo h v m c k x y z w) :
    ln0 (g * (s * dt3 h v m i j k * x - w * cnH v m c i j k s)) (s * dt3 h v m i j k * y - w * cnV h m c i j k s) (s * dt3 h v m i j k * z - w * cnM h v c i j k s) := by
  obtain ⟨-, -, a, b, d⟩ := L
  have t := ln0_add (ln0_add (ln0_mul h1 a) (ln0_mul h2 b)) (ln0_mul h3 d)
  rw [cram_h (x := x) (y := y) (z := z), cram_v (x := x) (y := y) (z := z), cram_m (x := x) (y := y) (z := z)]
  have e : ∀ a1 a2 a3 b1 b2 b3 : Int, a1 * (g * b1) + a2 * (g * b2) + a3 * (g * b3) = g * (a1 * b1 + a2 * b2 + a3 * b3) := fun a1 a2 a3 b1 b2 b3 => by grind
  rwa [e] at t
/-- .. and one that doesn't touch one of them is above it -/
theorem low_more {g : Int} (L : Low h v m g i j k s) {x y z w : Int} (h1 : 0 ≤ wo h v m c i x y z w) (h2 : 0 ≤ wo h v m c j x y z w) (h3 : 0 ≤ wo h v m c k x y z w) (hn : 0 < wo h v m c i x y z w ∨ 0 < wo h v m c j x y z w ∨ 0 < wo h v m c k x y z w) :
    lp (g * (s * dt3 h v m i j k * x - w * cnH v m c i j k s)) (s * dt3 h v m i j k * y - w * cnV h m c i j k s) (s * dt3 h v m i j k * z - w * cnM h v c i j k s) := by
  obtain ⟨-, -, a, b, d⟩ := L
  rw [cram_h (x := x) (y := y) (z := z), cram_v (x := x) (y := y) (z := z), cram_m (x := x) (y := y) (z := z)]
  have e : ∀ a1 a2 a3 b1 b2 b3 : Int, a1 * (g * b1) + a2 * (g * b2) + a3 * (g * b3) = g * (a1 * b1 + a2 * b2 + a3 * b3) := fun a1 a2 a3 b1 b2 b3 => by grind
  rw [← e]
  have w1 := ln0_mul h1 a
  have w2 := ln0_mul h2 b
  have w3 := ln0_mul h3 d
  rcases hn with q | q | q
  · have p := lp_mul q a
    revert p w2 w3
    unfold ln0 lp; omega
  · have p := lp_mul q b
    revert p w1 w3
    unfold ln0 lp; omega
  · have p := lp_mul q d
    revert p w1 w2
    unfold ln0 lp; omega
/-- a broken bound that grows along no edge: no point keeps all -/
theorem low_none {x y z w : Int} (hd : 0 < s * dt3 h v m i j k) (hw : 0 < w) (h1 : 0 ≤ wo h v m c i x y z w) (h2 : 0 ≤ wo h v m c j x y z w) (h3 : 0 ≤ wo h v m c k x y z w) (hb : 0 ≤ wo h v m c b x y z w)
    (hv : wo h v m c b (cnH v m c i j k s) (cnV h m c i j k s) (cnM h v c i j k s) (s * dt3 h v m i j k) < 0) (p1 : pa3 h v m s b j k ≤ 0) (p2 : pa3 h v m s b k i ≤ 0) (p3 : pa3 h v m s b i j ≤ 0) : False := by
  have e := wo_any (h := h) (v := v) (m := m) (c := c) (i := i) (j := j) (k := k) (b := b) (s := s) x y z w
  have a0 := Int.mul_nonneg (Int.le_of_lt hd) hb
  have a1 := Int.mul_nonneg h1 (Int.neg_nonneg_of_nonpos p1)
  have a2 := Int.mul_nonneg h2 (Int.neg_nonneg_of_nonpos p2)
  have a3 := Int.mul_nonneg h3 (Int.neg_nonneg_of_nonpos p3)
  have a4 := Int.mul_pos hw (Int.neg_pos_of_neg hv)
  rw [Int.mul_neg] at a1 a2 a3 a4
  omega
/-- exchange: the volume and the edges of a base in which b has taken i's place -/
theorem ex_vol : s * dt3 h v m b j k = pa3 h v m s b j k := by
  unfold pa3 dt3; grind
theorem ex_h (hs : s = 1 ∨ s = -1) : s * dt3 h v m i j k * (s * crH v m k b) = pa3 h v m s b j k * (s * crH v m k i) - pa3 h v m s b k i * (s * crH v m j k) := by
  rcases hs with rfl | rfl <;> (unfold pa3 dt3 crH crV crM; grind)
theorem ex_v (hs : s = 1 ∨ s = -1) : s * dt3 h v m i j k * (s * crV h m k b) = pa3 h v m s b j k * (s * crV h m k i) - pa3 h v m s b k i * (s * crV h m j k) := by
  rcases hs with rfl | rfl <;> (unfold pa3 dt3 crH crV crM; grind)
theorem ex_m (hs : s = 1 ∨ s = -1) : s * dt3 h v m i j k * (s * crM h v k b) = pa3 h v m s b j k * (s * crM h v k i) - pa3 h v m s b k i * (s * crM h v j k) := by
  rcases hs with rfl | rfl <;> (unfold pa3 dt3 crH crV crM; grind)
theorem ex_h2 (hs : s = 1 ∨ s = -1) : s * dt3 h v m i j k * (s * crH v m b j) = pa3 h v m s b j k * (s * crH v m i j) - pa3 h v m s b i j * (s * crH v m j k) := by
  rcases hs with rfl | rfl <;> (unfold pa3 dt3 crH crV crM; grind)
theorem ex_v2 (hs : s = 1 ∨ s = -1) : s * dt3 h v m i j k * (s * crV h m b j) = pa3 h v m s b j k * (s * crV h m i j) - pa3 h v m s b i j * (s * crV h m j k) := by
  rcases hs with rfl | rfl <;> (unfold pa3 dt3 crH crV crM; grind)
theorem ex_m2 (hs : s = 1 ∨ s = -1) : s * dt3 h v m i j k * (s * crM h v b j) = pa3 h v m s b j k * (s * crM h v i j) - pa3 h v m s b i j * (s * crM h v j k) := by
  rcases hs with rfl | rfl <;> (unfold pa3 dt3 crH crV crM; grind)
theorem low_ex {g : Int} (L : Low h v m g i j k s) (hp : 0 < pa3 h v m s b j k) (h1 : lp (pa3 h v m s b j k * (g * (s * crH v m k i)) - pa3 h v m s b k i * (g * (s * crH v m j k))) (pa3 h v m s b j k * (s * crV h m k i) - pa3 h v m s b k i * (s * crV h m j k)) (pa3 h v m s b j k * (s * crM h v k i) - pa3 h v m s b k i * (s * crM h v j k)))
    (h2 : lp (pa3 h v m s b j k * (g * (s * crH v m i j)) - pa3 h v m s b i j * (g * (s * crH v m j k))) (pa3 h v m s b j k * (s * crV h m i j) - pa3 h v m s b i j * (s * crV h m j k)) (pa3 h v m s b j k * (s * crM h v i j) - pa3 h v m s b i j * (s * crM h v j k))) : Low h v m g b j k s := by
  obtain ⟨hs, hd, a, -, -⟩ := L
  have e : ∀ p q x y : Int, p * (g * x) - q * (g * y) = g * (p * x - q * y) := fun p q x y => by grind
  rw [e, ← ex_h hs, ← ex_v hs, ← ex_m hs, show ∀ x y : Int, g * (x * y) = x * (g * y) from fun x y => by grind] at h1
  rw [e, ← ex_h2 hs, ← ex_v2 hs, ← ex_m2 hs, show ∀ x y : Int, g * (x * y) = x * (g * y) from fun x y => by grind] at h2
  exact ⟨hs, by rw [ex_vol]; exact hp, a, lp_div hd h1, lp_div hd h2⟩
theorem low_rot {g : Int} (L : Low h v m g i j k s) : Low h v m g j k i s := by
  obtain ⟨hs, hd, a, b, c⟩ := L
  exact ⟨hs, by rw [dt3_rot]; exact hd, b, c, a⟩
theorem pa3_self : pa3 h v m s i j k = s * dt3 h v m i j k := ex_vol.symm
theorem pa3_zero1 : pa3 h v m s j j k = 0 := by unfold pa3 crH crV crM; grind
theorem pa3_zero2 : pa3 h v m s k j k = 0 := by unfold pa3 crH crV crM; grind
/-- of edges that differ no share is like another -/
theorem lp_indep {g p q : Int} (hg : g = 1 ∨ g = -1) (hd : 0 < s * dt3 h v m i j k) (hp : 0 < p) : ¬ (p * (g * (s * crH v m k i)) - q * (g * (s * crH v m j k)) = 0 ∧ p * (s * crV h m k i) - q * (s * crV h m j k) = 0 ∧ p * (s * crM h v k i) - q * (s * crM h v j k) = 0) := by
  rintro ⟨a, b, d⟩
  have e1 : pa3 h v m s j k i = s * dt3 h v m i j k := by rw [pa3_self, dt3_rot]
  have e2 : pa3 h v m s j j k = 0 := pa3_zero1
  have a' : p * (s * crH v m k i) - q * (s * crH v m j k) = 0 := by
    rcases hg with rfl | rfl
    · rw [Int.one_mul, Int.one_mul] at a; exact a
    · have : p * (-1 * (s * crH v m k i)) - q * (-1 * (s * crH v m j k)) = -(p * (s * crH v m k i) - q * (s * crH v m j k)) := by grind
      omega
  have : p * pa3 h v m s j k i - q * pa3 h v m s j j k = h j * (p * (s * crH v m k i) - q * (s * crH v m j k)) + v j * (p * (s * crV h m k i) - q * (s * crV h m j k)) + m j * (p * (s * crM h v k i) - q * (s * crM h v j k)) := by
    unfold pa3; grind
  rw [a', b, d, e1, e2] at this
  have := Int.mul_pos hp hd
  omega
/-- a broken bound that grows along an edge can take some base bound's place -/
theorem low_some {g : Int} (hg : g = 1 ∨ g = -1) (L : Low h v m g i j k s) (hp : 0 < pa3 h v m s b j k ∨ 0 < pa3 h v m s b k i ∨ 0 < pa3 h v m s b i j) :
    (0 < pa3 h v m s b j k ∧ Low h v m g b j k s) ∨ (0 < pa3 h v m s b k i ∧ Low h v m g i b k s) ∨ (0 < pa3 h v m s b i j ∧ Low h v m g i j b s) := by
  have L1 := low_rot L
  have L2 := low_rot L1
  have hd := L.2.1
  rcases lp_least L.2.2.1 L.2.2.2.1 L.2.2.2.2 hp (fun a _ => lp_indep hg hd a) (fun a c => fun ⟨q1, q2, q3⟩ => lp_indep (q := pa3 h v m s b j k) hg L2.2.1 c ⟨by omega, by omega, by omega⟩) (fun a _ => lp_indep hg L1.2.1 a) with ⟨q, a, b⟩ | ⟨q, a, b⟩ | ⟨q, a, b⟩
  · exact Or.inl ⟨q, low_ex L q a b⟩
  · exact Or.inr (Or.inl ⟨q, low_rot (low_rot (low_ex L1 q b a))⟩)
  · exact Or.inr (Or.inr ⟨q, low_rot (low_ex L2 q a b)⟩)
end Cor
section Hst
variable {h v m c : Int → Int} {i j k b s : Int}
theorem cn_rotH : cnH v m c j k i s = cnH v m c i j k s := by unfold cnH; grind
theorem cn_rotV : cnV h m c j k i s = cnV h m c i j k s := by unfold cnV; grind
theorem cn_rotM : cnM h v c j k i s = cnM h v c i j k s := by unfold cnM; grind
/-- the corner of the first base is below that of the second -/
def CL (h v m c : Int → Int) (g i j k s i' j' k' s' : Int) : Prop :=
  lp (g * (s * dt3 h v m i j k * cnH v m c i' j' k' s' - s' * dt3 h v m i' j' k' * cnH v m c i j k s)) (s * dt3 h v m i j k * cnV h m c i' j' k' s' - s' * dt3 h v m i' j' k' * cnV h m c i j k s) (s * dt3 h v m i j k * cnM h v c i' j' k' s' - s' * dt3 h v m i' j' k' * cnM h v c i j k s)
theorem cl_rot1 {g i' j' k' s' : Int} (H : CL h v m c g i j k s i' j' k' s') : CL h v m c g j k i s i' j' k' s' := by
  unfold CL at *
  rwa [dt3_rot h v m i j k, cn_rotH (i := i) (j := j) (k := k) (s := s), cn_rotV (i := i) (j := j) (k := k) (s := s), cn_rotM (i := i) (j := j) (k := k) (s := s)]
theorem cl_rot2 {g i' j' k' s' : Int} (H : CL h v m c g i j k s i' j' k' s') : CL h v m c g i j k s j' k' i' s' := by
  unfold CL at *
  rwa [dt3_rot h v m i' j' k', cn_rotH (i := i') (j := j') (k := k') (s := s'), cn_rotV (i := i') (j := j') (k := k') (s := s'), cn_rotM (i := i') (j := j') (k := k') (s := s')]
theorem cl_trans {g i1 j1 k1 s1 i2 j2 k2 s2 : Int} (d0 : 0 < s * dt3 h v m i j k) (d1 : 0 < s1 * dt3 h v m i1 j1 k1) (d2 : 0 < s2 * dt3 h v m i2 j2 k2) (h1 : CL h v m c g i j k s i1 j1 k1 s1) (h2 : CL h v m c g i1 j1 k1 s1 i2 j2 k2 s2) : CL h v m c g i j k s i2 j2 k2 s2 := by
  unfold CL at *
  have a := lp_add (lp_mul d0 h2) (lp_mul d2 h1)
  generalize s * dt3 h v m i j k = D0 at *
  generalize s1 * dt3 h v m i1 j1 k1 = D1 at *
  generalize s2 * dt3 h v m i2 j2 k2 = D2 at *
  have e1 : ∀ p0 p1 p2 : Int, D0 * (g * (D1 * p2 - D2 * p1)) + D2 * (g * (D0 * p1 - D1 * p0)) = D1 * (g * (D0 * p2 - D2 * p0)) := fun p0 p1 p2 => by grind
  have e2 : ∀ p0 p1 p2 : Int, D0 * (D1 * p2 - D2 * p1) + D2 * (D0 * p1 - D1 * p0) = D1 * (D0 * p2 - D2 * p0) := fun p0 p1 p2 => by grind
  rw [e1, e2, e2] at a
  exact lp_div d1 a
theorem cl_ex {g : Int} (L : Low h v m g i j k s) (L' : Low h v m g b j k s) (hp : 0 < pa3 h v m s b j k) (hb : wo h v m c b (cnH v m c i j k s) (cnV h m c i j k s) (cnM h v c i j k s) (s * dt3 h v m i j k) < 0) : CL h v m c g i j k s b j k s := by
  have e := wo_any (h := h) (v := v) (m := m) (c := c) (i := i) (j := j) (k := k) (b := b) (s := s) (cnH v m c b j k s) (cnV h m c b j k s) (cnM h v c b j k s) (s * dt3 h v m b j k)
  rw [wo_base0, wo_base1, wo_base2] at e
  have q : 0 < wo h v m c i (cnH v m c b j k s) (cnV h m c b j k s) (cnM h v c b j k s) (s * dt3 h v m b j k) := by
    have := Int.mul_pos L'.2.1 (Int.neg_pos_of_neg hb)
    rw [Int.mul_neg] at this
    refine pos_of_mul hp ?_
    rw [Int.mul_comm]
    simp only [Int.mul_zero, Int.zero_mul, Int.add_zero] at e
    omega
  exact low_more L (Int.le_of_lt q) (by rw [wo_base1]; decide) (by rw [wo_base2]; decide) (Or.inl q)
theorem cl_not {g i' j' k' s' : Int} (H : CL h v m c g i j k s i' j' k' s') (hi : i = i' ∨ i = j' ∨ i = k') (hj : j = i' ∨ j = j' ∨ j = k') (hk : k = i' ∨ k = j' ∨ k = k') : False := by
  have z : ∀ t, (t = i' ∨ t = j' ∨ t = k') → wo h v m c t (cnH v m c i' j' k' s') (cnV h m c i' j' k' s') (cnM h v c i' j' k' s') (s' * dt3 h v m i' j' k') = 0 := by
    rintro t (rfl | rfl | rfl)
    · exact wo_base0
    · exact wo_base1
    · exact wo_base2
  unfold CL at H
  rw [cram_h (x := cnH v m c i' j' k' s') (y := cnV h m c i' j' k' s') (z := cnM h v c i' j' k' s'), cram_v (x := cnH v m c i' j' k' s') (y := cnV h m c i' j' k' s') (z := cnM h v c i' j' k' s'), cram_m (x := cnH v m c i' j' k' s') (y := cnV h m c i' j' k' s') (z := cnM h v c i' j' k' s'), z i hi, z j hj, z k hk] at H
  simp only [Int.zero_mul, Int.add_zero, Int.mul_zero] at H
  exact lp_ne H ⟨rfl, rfl, rfl⟩
theorem low_distinct {g : Int} (L : Low h v m g i j k s) : i ≠ j ∧ j ≠ k ∧ i ≠ k := by
  have hd := L.2.1
  refine ⟨?_, ?_, ?_⟩ <;> rintro rfl
  · have : dt3 h v m i i k = 0 := by unfold dt3 crH crV crM; grind
    rw [this] at hd; omega
  · have : dt3 h v m i j j = 0 := by unfold dt3 crH crV crM; grind
    rw [this] at hd; omega
  · have : dt3 h v m i j i = 0 := by unfold dt3 crH crV crM; grind
    rw [this] at hd; omega
def q3 : List (Nat × Nat × Nat) := (List.range 48).flatMap fun c => (List.range c).flatMap fun b => (List.range b).map fun a => (a, b, c)
theorem q3_len : q3.length = 17296 := by decide +kernel
def srt (i j k : Int) : Nat × Nat × Nat := ((min i (min j k)).toNat, (i + j + k - min i (min j k) - max i (max j k)).toNat, (max i (max j k)).toNat)
theorem srt_mem (hi : 0 ≤ i ∧ i < 48) (hj : 0 ≤ j ∧ j < 48) (hk : 0 ≤ k ∧ k < 48) (hd : i ≠ j ∧ j ≠ k ∧ i ≠ k) : srt i j k ∈ q3 := by
  unfold srt q3
  refine List.mem_flatMap.mpr ⟨_, List.mem_range.mpr (show (max i (max j k)).toNat < 48 by omega), List.mem_flatMap.mpr ⟨_, List.mem_range.mpr (show (i + j + k - min i (min j k) - max i (max j k)).toNat < (max i (max j k)).toNat by omega), List.mem_map.mpr ⟨_, List.mem_range.mpr (show (min i (min j k)).toNat < (i + j + k - min i (min j k) - max i (max j k)).toNat by omega), rfl⟩⟩⟩
theorem srt_eq {i' j' k' : Int} (hi : 0 ≤ i ∧ i < 48) (hj : 0 ≤ j ∧ j < 48) (hk : 0 ≤ k ∧ k < 48) (hi' : 0 ≤ i' ∧ i' < 48) (hj' : 0 ≤ j' ∧ j' < 48) (hk' : 0 ≤ k' ∧ k' < 48) (e : srt i j k = srt i' j' k') : (i = i' ∨ i = j' ∨ i = k') ∧ (j = i' ∨ j = j' ∨ j = k') ∧ (k = i' ∨ k = j' ∨ k = k') := by
  unfold srt at e
  simp only [Prod.mk.injEq] at e
  obtain ⟨e1, e2, e3⟩ := e
  omega
/-- the bases that were left, all below the one that stands -/
def Hs (h v m c : Int → Int) (g n : Int) (T : List (Nat × Nat × Nat)) (i j k s : Int) : Prop :=
  Low h v m g i j k s ∧ (0 ≤ i ∧ i < n) ∧ (0 ≤ j ∧ j < n) ∧ (0 ≤ k ∧ k < n) ∧ T.Nodup ∧ (∀ t ∈ T, t ∈ q3) ∧ ∀ t ∈ T, ∃ i' j' k' s' : Int, Low h v m g i' j' k' s' ∧ (0 ≤ i' ∧ i' < n) ∧ (0 ≤ j' ∧ j' < n) ∧ (0 ≤ k' ∧ k' < n) ∧ srt i' j' k' = t ∧ CL h v m c g i' j' k' s' i j k s
theorem hs_len {g n : Int} {T : List (Nat × Nat × Nat)} (H : Hs h v m c g n T i j k s) : T.length ≤ 17296 := by
  obtain ⟨-, -, -, -, hn, hq, -⟩ := H
  rw [← q3_len]
  exact hn.length_le_of_subset hq
theorem hs_nil {g n : Int} (L : Low h v m g i j k s) (hi : 0 ≤ i ∧ i < n) (hj : 0 ≤ j ∧ j < n) (hk : 0 ≤ k ∧ k < n) : Hs h v m c g n [] i j k s :=
  ⟨L, hi, hj, hk, List.nodup_nil, fun t (ht : t ∈ []) => absurd ht List.not_mem_nil, fun t (ht : t ∈ []) => absurd ht List.not_mem_nil⟩
theorem hs_next {g n i' j' k' s' : Int} {T : List (Nat × Nat × Nat)} (hn : n ≤ 48) (H : Hs h v m c g n T i j k s) (L : Low h v m g i' j' k' s') (hi : 0 ≤ i' ∧ i' < n) (hj : 0 ≤ j' ∧ j' < n) (hk : 0 ≤ k' ∧ k' < n) (hc : CL h v m c g i j k s i' j' k' s') : Hs h v m c g n (srt i j k :: T) i' j' k' s' := by
  obtain ⟨L0, a, b, d, e, f, F⟩ := H
  refine ⟨L, hi, hj, hk, List.nodup_cons.mpr ⟨fun hm => ?_, e⟩, fun t ht => ?_, fun t ht => ?_⟩
  · obtain ⟨i1, j1, k1, s1, L1, a1, b1, d1, e1, f1⟩ := F _ hm
    obtain ⟨q1, q2, q3⟩ := srt_eq (by omega) (by omega) (by omega) (by omega) (by omega) (by omega) e1
    exact cl_not f1 q1 q2 q3
  · rcases List.mem_cons.mp ht with rfl | ht
    · exact srt_mem (by omega) (by omega) (by omega) (low_distinct L0)
    · exact f t ht
  · rcases List.mem_cons.mp ht with rfl | ht
    · exact ⟨i, j, k, s, L0, a, b, d, rfl, hc⟩
    · obtain ⟨i1, j1, k1, s1, L1, a1, b1, d1, e1, f1⟩ := F t ht
      exact ⟨i1, j1, k1, s1, L1, a1, b1, d1, e1, cl_trans L1.2.1 L0.2.1 L.2.1 f1 hc⟩
/-- some point (x, y, z) / w keeps all bounds below n -/
def Kp (h v m c : Int → Int) (n x y z w : Int) : Prop := 0 < w ∧ ∀ b, 0 ≤ b → b < n → 0 ≤ wo h v m c b x y z w
def Fe (h v m c : Int → Int) (n : Int) : Prop := ∃ x y z w, Kp h v m c n x y z w
/-- the corner's value is least among all that are kept -/
theorem low_least {g n x y z w : Int} (L : Low h v m g i j k s) (hi : 0 ≤ i ∧ i < n) (hj : 0 ≤ j ∧ j < n) (hk : 0 ≤ k ∧ k < n) (K : Kp h v m c n x y z w) :
    ln0 (g * (s * dt3 h v m i j k * x - w * cnH v m c i j k s)) (s * dt3 h v m i j k * y - w * cnV h m c i j k s) (s * dt3 h v m i j k * z - w * cnM h v c i j k s) :=
  low_min L (K.2 i hi.1 hi.2) (K.2 j hj.1 hj.2) (K.2 k hk.1 hk.2)
end Hst
