set_option maxHeartbeats 1000000
/-! ===== what both programs need of the rows ===== -/
theorem rlg_frm {n : Int} {cd h v m c : Int → Int} {l : List Rw} {k : Int} (H : RLg n cd h v m c (l ++ frm k)) : n = l.length + 4 ∧ (h (n - 4) = 1 ∧ v (n - 4) = 0 ∧ m (n - 4) = 0 ∧ c (n - 4) = 0) ∧ (h (n - 3) = -1 ∧ v (n - 3) = 0 ∧ m (n - 3) = 0) ∧ (h (n - 2) = 0 ∧ v (n - 2) = 1 ∧ m (n - 2) = 0) ∧ (h (n - 1) = 0 ∧ v (n - 1) = -1 ∧ m (n - 1) = 0) := by
  obtain ⟨h1, h2⟩ := H
  have hn : n = l.length + 4 := by rw [h1, List.length_append]; simp [frm]
  have g : ∀ (d : Nat) (x : Rw), (frm k)[d]? = some x → h ((l.length : Int) + d) = x.2.1 ∧ v ((l.length : Int) + d) = x.2.2.1 ∧ m ((l.length : Int) + d) = x.2.2.2.1 ∧ c ((l.length : Int) + d) = x.2.2.2.2 := fun d x hx => by
    have := h2 (l.length + d) x (by rw [List.getElem?_append_right (by omega), show l.length + d - l.length = d by omega]; exact hx)
    rw [show ((l.length + d : Nat) : Int) = (l.length : Int) + d by omega] at this
    exact this.2
  have g0 := g 0 _ rfl
  have g1 := g 1 _ rfl
  have g2 := g 2 _ rfl
  have g3 := g 3 _ rfl
  rw [show (l.length : Int) + ((0 : Nat) : Int) = n - 4 by omega] at g0
  rw [show (l.length : Int) + ((1 : Nat) : Int) = n - 3 by omega] at g1
  rw [show (l.length : Int) + ((2 : Nat) : Int) = n - 2 by omega] at g2
  rw [show (l.length : Int) + ((3 : Nat) : Int) = n - 1 by omega] at g3
  exact ⟨hn, g0, ⟨g1.1, g1.2.1, g1.2.2.1⟩, ⟨g2.1, g2.2.1, g2.2.2.1⟩, ⟨g3.1, g3.2.1, g3.2.2.1⟩⟩
theorem rows_fw {n : Int} {cd h v m c ne fa J sl W T : Int → Int} {p q i0 kf P : Int} {t : Nat} (H : RLg n cd h v m c (gs ne fa J sl W T p q i0 (t + 1) ++ frm kf)) (I : GI ne fa J sl W T p q i0 (t + 1) P) : FW h v m n ∧ c (n - 4) = 0 ∧ PF h v m n := by
  obtain ⟨hn, f0, f1, f2, f3⟩ := rlg_frm H
  obtain ⟨r, e⟩ := gs_two (ne := ne) (fa := fa) (J := J) (sl := sl) (W := W) (T := T) (p := p) (q := q) (i0 := i0) t
  have m1 : m 1 = ne i0 + fa i0 := by
    have := H.2 1 (mrB i0 (fa i0 * J (4 * i0) + ne i0 * J (4 * i0 + 2)) (fa i0 * J (4 * i0 + 1) + ne i0 * J (4 * i0 + 3)) (ne i0 + fa i0) (W i0) (T i0)) (by rw [e]; rfl)
    exact this.2.2.2.1
  have i1 := I.1 0 (by omega)
  rw [show i0 + ((0 : Nat) : Int) = i0 by omega] at i1
  have len : 2 ≤ (gs ne fa J sl W T p q i0 (t + 1)).length := by rw [e]; simp
  have n6 : 6 ≤ n := by omega
  have m0 : 0 < m 1 := by omega
  refine ⟨⟨n6, ⟨f0.1, f0.2.1, f0.2.2.1⟩, f1, f2, f3, m0⟩, f0.2.2.2, ⟨1, by decide, by omega, m0⟩, ⟨n - 4, by omega, by omega, f0.2.2.1, f0.2.1, by rw [f0.1]; decide⟩, ⟨n - 3, by omega, by omega, f1.2.2, f1.2.1, by rw [f1.1]; decide⟩, ⟨n - 2, by omega, by omega, f2.2.2, by rw [f2.2.1]; decide⟩⟩
theorem rows_bd {n : Int} {cd h v m c ne fa J sl W T : Int → Int} {p q i0 kf P : Int} {t : Nat} (H : RLg n cd h v m c (gs ne fa J sl W T p q i0 t ++ frm kf)) (I : GI ne fa J sl W T p q i0 t P) {i : Int} (hi0 : 0 ≤ i) (hi1 : i < n) : ((ab (h i) (1000 * P) ∧ ab (v i) (1000 * P) ∧ ab (m i) P ∧ ab (c i) (P * 5000000000 + 1000 * P * 7200000)) ∨ (ab (h i) 8000 ∧ ab (v i) 8000 ∧ ab (m i) P ∧ ab (c i) 57600000000)) ∧ ¬ (h i = 0 ∧ v i = 0 ∧ m i = 0) ∧ (m i = 0 ∨ ∃ d : Nat, d < t ∧ (m i = ne (i0 + d) + fa (i0 + d) ∨ m i = -(ne (i0 + d) + fa (i0 + d)))) := by
  obtain ⟨x, _, hx, _, x1, x2, x3, x4⟩ := H.at hi0 hi1
  rw [x1, x2, x3, x4]
  exact gsl_ok I hx
theorem rows_rb {n : Int} {cd h v m c ne fa J sl W T : Int → Int} {p q i0 kf P : Int} {t : Nat} (H : RLg n cd h v m c (gs ne fa J sl W T p q i0 t ++ frm kf)) (I : GI ne fa J sl W T p q i0 t P) : RB h v m c n ∧ NZ h v m n := by
  have P4 := I.2.2.2.2.2.2.2
  constructor
  · intro i i0' i1
    obtain ⟨b, _⟩ := rows_bd H I i0' i1
    unfold bd
    unfold ab at b
    rcases b with b | b <;> omega
  · exact fun i i0' i1 => (rows_bd H I i0' i1).2.1
theorem gpq_ab {m : Int → Int} {i j P : Int} (hi : ab (m i) P) (hj : ab (m j) P) : ab (gp m i j) P ∧ ab (gq m i j) P := by
  have k : ∀ (a : Int) (g : Nat), ab a P → ab (Int.tdiv a g) P := fun a g ha => by
    have q : (Int.tdiv a g).natAbs ≤ a.natAbs := by rw [Int.natAbs_tdiv]; exact Nat.div_le_self _ _
    generalize Int.tdiv a g = z at *
    unfold ab at *
    omega
  exact ⟨k _ _ (abn hj), k _ _ hi⟩
theorem fmb4 {n : Int} {cd h v m c ne fa J sl W T : Int → Int} {p q i0 kf : Int} {t : Nat} (H : RLg n cd h v m c (gs ne fa J sl W T p q i0 t ++ frm kf)) (I : GI ne fa J sl W T p q i0 t 4) : FMB h v m c n ∧ (∀ i : Int, 0 ≤ i → i < n → ab (h i) 8000 ∧ ab (v i) 8000 ∧ ab (m i) 4 ∧ ab (c i) 8000000000000) := by
  have B : ∀ i : Int, 0 ≤ i → i < n → ab (h i) 8000 ∧ ab (v i) 8000 ∧ ab (m i) 4 ∧ ab (c i) 57600000000 := fun i i0' i1 => by
    rcases (rows_bd H I i0' i1).1 with ⟨b1, b2, b3, b4⟩ | b
    · exact ⟨ab_l b1 (by decide), ab_l b2 (by decide), b3, ab_l b4 (by decide)⟩
    · exact b
  refine ⟨⟨fun i i0' i1 => ?_, fun i j i0' i1 j0 j1 _ _ => ?_⟩, fun i i0' i1 => ?_⟩
  · obtain ⟨b1, b2, b3, b4⟩ := B i i0' i1
    exact ⟨ab_l b3 (by decide), ab_l b1 (by decide), ab_l b2 (by decide), ab_l b4 (by decide)⟩
  · obtain ⟨b1, b2, b3, b4⟩ := B i i0' i1
    obtain ⟨d1, d2, d3, d4⟩ := B j j0 j1
    obtain ⟨g1, g2⟩ := gpq_ab (i := i) (j := j) b3 d3
    exact ⟨ab_l (abm g1 b1) (by decide), ab_l (abm g2 d1) (by decide), ab_l (abm g1 b2) (by decide), ab_l (abm g2 d2) (by decide), ab_l (abm g1 b4) (by decide), ab_l (abm g2 d4) (by decide)⟩
  · obtain ⟨b1, b2, b3, b4⟩ := B i i0' i1
    exact ⟨b1, b2, b3, ab_l b4 (by decide)⟩
theorem fmb256 {n : Int} {cd h v m c ne fa J sl W T : Int → Int} {p q i0 kf : Int} {t : Nat} (H : RLg n cd h v m c (gs ne fa J sl W T p q i0 t ++ frm kf)) (I : GI ne fa J sl W T p q i0 t 256) (hall : ∀ d : Nat, d < t → ne (i0 + d) + fa (i0 + d) = 256) : FMB h v m c n := by
  have B : ∀ i : Int, 0 ≤ i → i < n → ab (h i) 256000 ∧ ab (v i) 256000 ∧ ab (m i) 256 ∧ ab (c i) 4000000000000 := fun i i0' i1 => by
    rcases (rows_bd H I i0' i1).1 with ⟨b1, b2, b3, b4⟩ | ⟨b1, b2, b3, b4⟩
    · exact ⟨ab_l b1 (by decide), ab_l b2 (by decide), b3, ab_l b4 (by decide)⟩
    · exact ⟨ab_l b1 (by decide), ab_l b2 (by decide), b3, ab_l b4 (by decide)⟩
  refine ⟨fun i i0' i1 => ?_, fun i j i0' i1 j0 j1 pi nj => ?_⟩
  · obtain ⟨b1, b2, b3, b4⟩ := B i i0' i1
    exact ⟨ab_l b3 (by decide), ab_l b1 (by decide), ab_l b2 (by decide), ab_l b4 (by decide)⟩
  · obtain ⟨b1, b2, b3, b4⟩ := B i i0' i1
    obtain ⟨d1, d2, d3, d4⟩ := B j j0 j1
    have mi : m i = 256 := by
      rcases (rows_bd H I i0' i1).2.2 with z | ⟨d, hd, z | z⟩
      · omega
      · rw [z]; exact hall d hd
      · have := hall d hd; omega
    have mj : m j = -256 := by
      rcases (rows_bd H I j0 j1).2.2 with z | ⟨d, hd, z | z⟩
      · omega
      · have := hall d hd; omega
      · rw [z, hall d hd]
    have e1 : gp m i j = 1 := by unfold gp; rw [mi, mj]; decide
    have e2 : gq m i j = 1 := by unfold gq; rw [mi, mj]; decide
    rw [e1, e2]
    simp only [Int.one_mul]
    exact ⟨b1, d1, b2, d2, b4, d4⟩
/-! lists of rows that are multiples of each other -/
def mul2 (x y : Rw) : Prop := ∃ s : Int, 0 < s ∧ y.2.1 = s * x.2.1 ∧ y.2.2.1 = s * x.2.2.1 ∧ y.2.2.2.1 = s * x.2.2.2.1 ∧ y.2.2.2.2 = s * x.2.2.2.2
def L2 : List Rw → List Rw → Prop
  | [], [] => True
  | x :: s, y :: t => mul2 x y ∧ L2 s t
  | _, _ => False
theorem L2.app : ∀ {s t s' t' : List Rw}, L2 s t → L2 s' t' → L2 (s ++ s') (t ++ t')
  | [], [], _, _, _, h => h
  | _ :: _, _ :: _, _, _, ⟨h1, h2⟩, h => ⟨h1, L2.app h2 h⟩
theorem L2.get : ∀ {s t : List Rw}, L2 s t → s.length = t.length ∧ ∀ (i : Nat) (x y : Rw), s[i]? = some x → t[i]? = some y → mul2 x y
  | [], [], _ => ⟨rfl, fun i x y h => by simp at h⟩
  | x :: s, y :: t, ⟨h1, h2⟩ => by
    obtain ⟨k1, k2⟩ := L2.get h2
    refine ⟨by simp [k1], fun i u v hu hv => ?_⟩
    cases i with
    | zero =>
      simp at hu hv
      rw [← hu, ← hv]; exact h1
    | succ i => exact k2 i u v (by simpa using hu) (by simpa using hv)
theorem mul2.rf {x : Rw} : mul2 x x := ⟨1, by decide, by omega, by omega, by omega, by omega⟩
theorem L2.rf : ∀ {s : List Rw}, L2 s s
  | [] => True.intro
  | _ :: _ => ⟨mul2.rf, L2.rf⟩
theorem l2_frm {k k' : Int} : L2 (frm k) (frm k') := ⟨⟨1, by decide, rfl, rfl, rfl, rfl⟩, ⟨1, by decide, rfl, rfl, rfl, rfl⟩, ⟨1, by decide, rfl, rfl, rfl, rfl⟩, ⟨1, by decide, rfl, rfl, rfl, rfl⟩, True.intro⟩
theorem L2.fe {n n' : Int} {cd h v m c cd' h' v' m' c' : Int → Int} {l l' : List Rw} (D : L2 l l') (H : RLg n cd h v m c l) (K : RLg n' cd' h' v' m' c' l') : Fe h v m c n ↔ Fe h' v' m' c' n' := by
  obtain ⟨e, g⟩ := D.get
  have en : n = n' := by rw [H.1, K.1, e]
  have w : ∀ b x y z w, 0 ≤ b → b < n → (0 ≤ wo h v m c b x y z w ↔ 0 ≤ wo h' v' m' c' b x y z w) := fun b x y z w b0 b1 => by
    obtain ⟨r, e1, _, _, r1, r2, r3, r4⟩ := H.at b0 b1
    obtain ⟨r', e2, _, _, q1, q2, q3, q4⟩ := K.at b0 (by omega)
    obtain ⟨s, s0, s1, s2, s3, s4⟩ := g _ _ _ e1 e2
    have : wo h' v' m' c' b x y z w = s * wo h v m c b x y z w := by
      unfold wo
      rw [q1, q2, q3, q4, s1, s2, s3, s4, r1, r2, r3, r4]
      grind
    rw [this]
    constructor
    · exact fun h => Int.mul_nonneg (by omega) h
    · intro hw
      rcases Int.lt_or_le (wo h v m c b x y z w) 0 with q | q
      · have := Int.mul_neg_of_pos_of_neg s0 q
        omega
      · exact q
  constructor
  · rintro ⟨x, y, z, w', w0, al⟩
    exact ⟨x, y, z, w', w0, fun b b0 b1 => (w b x y z w' b0 (by omega)).mp (al b b0 (by omega))⟩
  · rintro ⟨x, y, z, w', w0, al⟩
    exact ⟨x, y, z, w', w0, fun b b0 b1 => (w b x y z w' b0 (by omega)).mpr (al b b0 (by omega))⟩
