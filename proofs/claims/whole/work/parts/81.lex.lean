/-! ===== the class's corner and the reference's three fractions are one point ===== -/
def gLs (h v m c : Int → Int) (n g x w : Int) : Prop := 0 < w ∧ (∀ X Y Z W, Kp h v m c n X Y Z W → 0 ≤ g * (X * w - x * W)) ∧ ∃ X Y Z W, Kp h v m c n X Y Z W ∧ X * w = x * W
theorem gLs.of_l {h v m c : Int → Int} {n x w : Int} (H : Lst h v m c n x w) : gLs h v m c n 1 x w := ⟨H.1, fun X Y Z W K => by have := H.2.1 X Y Z W K; omega, H.2.2⟩
theorem gLs.of_g {h v m c : Int → Int} {n x w : Int} (H : Gst h v m c n x w) : gLs h v m c n (-1) x w := ⟨H.1, fun X Y Z W K => by have := H.2.1 X Y Z W K; omega, H.2.2⟩
/-- a point that is kept, and lexicographically below all that are -/
def LX (h v m c : Int → Int) (n g X Y Z D : Int) : Prop := Kp h v m c n X Y Z D ∧ ∀ x y z w, Kp h v m c n x y z w → ln0 (g * (D * x - w * X)) (D * y - w * Y) (D * z - w * Z)
theorem LX.low {h v m c : Int → Int} {n g i j k s : Int} (L : Low h v m g i j k s) (hi : 0 ≤ i ∧ i < n) (hj : 0 ≤ j ∧ j < n) (hk : 0 ≤ k ∧ k < n) (ok : ∀ b : Int, 0 ≤ b → b < n → 0 ≤ wc h v m c i j k s b) : LX h v m c n g (cnH v m c i j k s) (cnV h m c i j k s) (cnM h v c i j k s) (s * dt3 h v m i j k) :=
  ⟨⟨L.2.1, ok⟩, fun _ _ _ _ K => low_least L hi hj hk K⟩
theorem ln0_1 {x y z : Int} (h : ln0 x y z) : 0 ≤ x := by unfold ln0 lp at h; omega
theorem ln0_2 {x y z : Int} (h : ln0 x y z) (e : x = 0) : 0 ≤ y := by unfold ln0 lp at h; omega
theorem ln0_3 {x y z : Int} (h : ln0 x y z) (e : x = 0) (f : y = 0) : 0 ≤ z := by unfold ln0 lp at h; omega
theorem le_of_mul {a x y : Int} (h : 0 < a) (k : a * x ≤ a * y) : x ≤ y := by
  have : 0 ≤ y - x := nn_of_mul h (by rw [Int.mul_sub]; omega)
  omega
theorem lx_h {h v m c : Int → Int} {n g X Y Z D a b : Int} (hg : g = 1 ∨ g = -1) (H : LX h v m c n g X Y Z D) (A : gLs h v m c n g a b) : X * b = a * D := by
  obtain ⟨b0, A1, X', Y', Z', W', K', e⟩ := A
  have p := A1 _ _ _ _ H.1
  have q := ln0_1 (H.2 _ _ _ _ K')
  have w0 := K'.1
  have q2 : 0 ≤ b * (g * (D * X' - W' * X)) := Int.mul_nonneg (Int.le_of_lt b0) q
  have e2 : b * (g * (D * X' - W' * X)) = W' * (g * (a * D - X * b)) + g * D * (X' * b - a * W') := by grind
  rw [e2, e] at q2
  have q3 : 0 ≤ W' * (g * (a * D - X * b)) := by omega
  have q4 := nn_of_mul w0 q3
  rcases hg with rfl | rfl <;> omega
theorem lx_two {vh vv v1 : Int → Int} {X Y D a b t : Int} (e : X * b = a * D) (b0 : 0 < b) (k : 0 ≤ vh t * X + vv t * Y + v1 t * D) : 0 ≤ (vh t * a + v1 t * b) * D + vv t * b * Y := by
  have := Int.mul_nonneg (Int.le_of_lt b0) k
  have e2 : b * (vh t * X + vv t * Y + v1 t * D) = (vh t * a + v1 t * b) * D + vv t * b * Y + vh t * (X * b - a * D) := by grind
  rw [e2, e] at this
  omega
/-- from the sharpest row: the corner is not below it -/
theorem lx_ge {P V D Y x y : Int} (y0 : 0 < y) (hV : 0 < V) (eq : P * y + V * x = 0) (k : 0 ≤ P * D + V * Y) : x * D ≤ Y * y := by
  have a := Int.mul_nonneg (Int.le_of_lt y0) k
  have e : y * (P * D + V * Y) = V * (Y * y - x * D) + D * (P * y + V * x) := by grind
  rw [e, eq] at a
  have := nn_of_mul hV (by omega : 0 ≤ V * (Y * y - x * D))
  omega
/-- a row holds at the sharpest place, if it holds at the corner and is no row from below -/
theorem lx_row {P V D Y x y : Int} (D0 : 0 < D) (y0 : 0 < y) (hV : V ≤ 0) (ge : x * D ≤ Y * y) (k : 0 ≤ P * D + V * Y) : 0 ≤ P * y + V * x := by
  refine nn_of_mul D0 ?_
  have a := Int.mul_nonneg (Int.le_of_lt y0) k
  have b := Int.mul_nonneg (show 0 ≤ -V by omega) (show 0 ≤ Y * y - x * D by omega)
  have e : D * (P * y + V * x) = y * (P * D + V * Y) + -V * (Y * y - x * D) := by grind
  omega
theorem lx_v {h v m c vh vv v1 : Int → Int} {n T : Nat} {g X Y Z D a b x y : Int} (P : PF h v m n) (H : LX h v m c n g X Y Z D) (TTh : TT h v m c (Zi n) (Di n n) vh vv v1 T) (b0 : 0 < b) (e : X * b = a * D) (y0 : 0 < y) (mx : MX (fun t => vh t * a + v1 t * b) (fun t => vv t * b) T x y) : Y * y = x * D := by
  have D0 := H.1.1
  have K : ∀ t : Int, 0 ≤ t → t < T → 0 ≤ (vh t * a + v1 t * b) * D + vv t * b * Y := fun t t0 t1 => lx_two e b0 (tw_keep H.1.2 (TTh.1 t t0 t1).to)
  obtain ⟨mx1, t, t0, t1, t2, t3⟩ := mx
  have ge := lx_ge y0 t2 t3 (K t t0 t1)
  obtain ⟨z, s, s0, Kz⟩ := tz_back (x := a * y) (y := x * b) (w := b * y) (Int.mul_pos b0 y0) P.1 TTh.2.1.to (fun r r0 r1 => by
    have q : 0 ≤ (vh r * a + v1 r * b) * y + vv r * b * x := by
      rcases Int.lt_or_le 0 (vv r * b) with c1 | c1
      · exact mx1 r r0 r1 c1
      · exact lx_row D0 y0 c1 ge (K r r0 r1)
    have e2 : vh r * (a * y) + vv r * (x * b) + v1 r * (b * y) = (vh r * a + v1 r * b) * y + vv r * b * x := by grind
    rw [e2]; exact q)
  have l := H.2 _ _ _ _ Kz
  have l2 := ln0_2 l (by
    have : g * (D * (s * (a * y)) - s * (b * y) * X) = -(g * s * y) * (X * b - a * D) := by grind
    rw [this, e]; simp)
  have l3 : 0 ≤ s * b * (x * D - Y * y) := by
    have : D * (s * (x * b)) - s * (b * y) * Y = s * b * (x * D - Y * y) := by grind
    omega
  have l4 := nn_of_mul (Int.mul_pos s0 b0) l3
  omega
theorem lx_km {h v m c : Int → Int} {X Y Z D a b x y i : Int} (e : X * b = a * D) (e2 : Y * y = x * D) : b * y * wo h v m c i X Y Z D = KP h v c a b x y i * D + b * y * m i * Z := by
  unfold wo KP
  have : b * y * (h i * X + v i * Y + m i * Z + c i * D) = h i * y * (X * b) + v i * b * (Y * y) + b * y * m i * Z + c i * b * y * D := by grind
  rw [this, e, e2]
  grind
theorem lx_m {h v m c : Int → Int} {n g X Y Z D a b x y z w : Int} (H : LX h v m c n g X Y Z D) (b0 : 0 < b) (e : X * b = a * D) (y0 : 0 < y) (e2 : Y * y = x * D) (w0 : 0 < w) (mx : MX (KP h v c a b x y) (fun t => b * y * m t) n z w) : Z * w = z * D := by
  have D0 := H.1.1
  have by0 := Int.mul_pos b0 y0
  have K : ∀ t : Int, 0 ≤ t → t < n → 0 ≤ KP h v c a b x y t * D + b * y * m t * Z := fun t t0 t1 => by
    rw [← lx_km e e2]
    exact Int.mul_nonneg (Int.le_of_lt by0) (H.1.2 t t0 t1)
  obtain ⟨mx1, t, t0, t1, t2, t3⟩ := mx
  have ge := lx_ge w0 t2 t3 (K t t0 t1)
  have Kz : Kp h v m c n (a * y * w) (x * b * w) (z * (b * y)) (b * y * w) := by
    refine ⟨Int.mul_pos by0 w0, fun r r0 r1 => ?_⟩
    have q : 0 ≤ KP h v c a b x y r * w + b * y * m r * z := by
      rcases Int.lt_or_le 0 (b * y * m r) with c1 | c1
      · exact mx1 r r0 r1 c1
      · exact lx_row D0 w0 c1 ge (K r r0 r1)
    have e3 : wo h v m c r (a * y * w) (x * b * w) (z * (b * y)) (b * y * w) = KP h v c a b x y r * w + b * y * m r * z := by unfold wo KP; grind
    rw [e3]; exact q
  have l := H.2 _ _ _ _ Kz
  have l3 := ln0_3 l (by
    have : g * (D * (a * y * w) - b * y * w * X) = -(g * y * w) * (X * b - a * D) := by grind
    rw [this, e]; simp) (by
    have : D * (x * b * w) - b * y * w * Y = -(b * w) * (Y * y - x * D) := by grind
    rw [this, e2]; simp)
  have l4 : 0 ≤ b * y * (z * D - Z * w) := by
    have : D * (z * (b * y)) - b * y * w * Z = b * y * (z * D - Z * w) := by grind
    omega
  have l5 := nn_of_mul by0 l4
  omega
/-- and the rows that are 0 there are the same -/
theorem lx_t {h v m c : Int → Int} {X Y Z D a b x y z w i : Int} (D0 : 0 < D) (b0 : 0 < b) (e : X * b = a * D) (y0 : 0 < y) (e2 : Y * y = x * D) (w0 : 0 < w) (e3 : Z * w = z * D) : KT h v m c a b x y z w i = 0 ↔ wo h v m c i X Y Z D = 0 := by
  have k := lx_km (h := h) (v := v) (m := m) (c := c) (Z := Z) (i := i) e e2
  have q : D * KT h v m c a b x y z w i = w * (b * y) * wo h v m c i X Y Z D := by
    have : D * KT h v m c a b x y z w i = w * (KP h v c a b x y i * D + b * y * m i * Z) - b * y * m i * (Z * w - z * D) := by unfold KT; grind
    rw [this, ← k, e3]
    grind
  constructor
  · intro z0
    rw [z0, Int.mul_zero] at q
    exact zero_of_mul (Int.mul_pos w0 (Int.mul_pos b0 y0)) q.symm
  · intro z0
    rw [z0, Int.mul_zero] at q
    exact zero_of_mul D0 q
