set_option maxHeartbeats 1000000
/-! ===== rows that agree below n: what is found of them is the same ===== -/
def AGs (n : Int) (h v m c h' v' m' c' : Int → Int) : Prop := ∀ i, 0 ≤ i → i < n → h i = h' i ∧ v i = v' i ∧ m i = m' i ∧ c i = c' i
theorem AGs.sym {n : Int} {h v m c h' v' m' c' : Int → Int} (A : AGs n h v m c h' v' m' c') : AGs n h' v' m' c' h v m c := fun i i0 i1 => ⟨(A i i0 i1).1.symm, (A i i0 i1).2.1.symm, (A i i0 i1).2.2.1.symm, (A i i0 i1).2.2.2.symm⟩
theorem AGs.wo {n : Int} {h v m c h' v' m' c' : Int → Int} (A : AGs n h v m c h' v' m' c') {b x y z w : Int} (b0 : 0 ≤ b) (b1 : b < n) : wo h v m c b x y z w = wo h' v' m' c' b x y z w := by
  obtain ⟨e1, e2, e3, e4⟩ := A b b0 b1
  unfold Jvm.Pilot.CArchYardLaw_law_r4426_3bcbf1.wo
  rw [e1, e2, e3, e4]
theorem AGs.kp {n : Int} {h v m c h' v' m' c' : Int → Int} (A : AGs n h v m c h' v' m' c') {x y z w : Int} (K : Kp h v m c n x y z w) : Kp h' v' m' c' n x y z w := ⟨K.1, fun b b0 b1 => by rw [← A.wo b0 b1]; exact K.2 b b0 b1⟩
theorem AGs.fe {n : Int} {h v m c h' v' m' c' : Int → Int} (A : AGs n h v m c h' v' m' c') (F : Fe h v m c n) : Fe h' v' m' c' n := by
  obtain ⟨x, y, z, w, k⟩ := F
  exact ⟨x, y, z, w, A.kp k⟩
theorem AGs.lx {n g : Int} {h v m c h' v' m' c' : Int → Int} (A : AGs n h v m c h' v' m' c') {x y z w : Int} (K : LX h v m c n g x y z w) : LX h' v' m' c' n g x y z w := ⟨A.kp K.1, fun x y z w k => K.2 x y z w (A.sym.kp k)⟩
theorem AGs.cr {n : Int} {h v m c h' v' m' c' : Int → Int} (A : AGs n h v m c h' v' m' c') {i j : Int} (i0 : 0 ≤ i ∧ i < n) (j0 : 0 ≤ j ∧ j < n) : crH v m i j = crH v' m' i j ∧ crV h m i j = crV h' m' i j ∧ crM h v i j = crM h' v' i j := by
  obtain ⟨e1, e2, e3, _⟩ := A i i0.1 i0.2
  obtain ⟨d1, d2, d3, _⟩ := A j j0.1 j0.2
  unfold crH crV crM
  rw [e1, e2, e3, d1, d2, d3]
  exact ⟨rfl, rfl, rfl⟩
theorem AGs.dt {n : Int} {h v m c h' v' m' c' : Int → Int} (A : AGs n h v m c h' v' m' c') {i j k : Int} (i0 : 0 ≤ i ∧ i < n) (j0 : 0 ≤ j ∧ j < n) (k0 : 0 ≤ k ∧ k < n) : dt3 h v m i j k = dt3 h' v' m' i j k := by
  obtain ⟨e1, e2, e3, _⟩ := A i i0.1 i0.2
  obtain ⟨c1, c2, c3⟩ := A.cr j0 k0
  unfold dt3
  rw [e1, e2, e3, c1, c2, c3]
theorem AGs.cn {n : Int} {h v m c h' v' m' c' : Int → Int} (A : AGs n h v m c h' v' m' c') {i j k s : Int} (i0 : 0 ≤ i ∧ i < n) (j0 : 0 ≤ j ∧ j < n) (k0 : 0 ≤ k ∧ k < n) : cnH v m c i j k s = cnH v' m' c' i j k s ∧ cnV h m c i j k s = cnV h' m' c' i j k s ∧ cnM h v c i j k s = cnM h' v' c' i j k s := by
  have c1 := A.cr j0 k0
  have c2 := A.cr k0 i0
  have c3 := A.cr i0 j0
  have d1 := (A i i0.1 i0.2).2.2.2
  have d2 := (A j j0.1 j0.2).2.2.2
  have d3 := (A k k0.1 k0.2).2.2.2
  unfold cnH cnV cnM
  rw [c1.1, c1.2.1, c1.2.2, c2.1, c2.2.1, c2.2.2, c3.1, c3.2.1, c3.2.2, d1, d2, d3]
  exact ⟨rfl, rfl, rfl⟩
theorem ct_congr {f g : Int → Bool} : ∀ n : Nat, (∀ i : Nat, i < n → f i = g i) → ct f n = ct g n := by
  intro n
  induction n with
  | zero => intro _; rfl
  | succ n ih =>
    intro h
    unfold ct
    rw [ih (fun i hi => h i (by omega)), h n (by omega)]
theorem AGs.vl {n : Nat} {h v m c h' v' m' c' code code' : Int → Int} {μ : m_M} {V w g : Int} (A : AGs n h v m c h' v' m' c') (C : ∀ i : Int, 0 ≤ i → i < n → code i = code' i) (K : VLc μ V w g h v m c code n) : VLc μ V w g h' v' m' c' code' n := by
  obtain ⟨i, j, k, s, hi, hj, hk, hs, lx, e1, e2, e3, e4, e5, e6⟩ := K
  obtain ⟨a1, a2, a3⟩ := A.cn (s := s) hi hj hk
  have a4 := A.dt hi hj hk
  rw [a1, a2, a3, a4] at lx
  rw [a4] at e1
  rw [a1] at e2
  rw [a2] at e3
  rw [a3] at e4
  have wc' : ∀ b : Nat, b < n → wc h v m c i j k s b = wc h' v' m' c' i j k s b := fun b hb => by
    unfold wc
    rw [a1, a2, a3, a4, A.wo (by omega) (by omega)]
  have gc : ∀ b : Nat, b < n → (fun b => decide (wc h v m c i j k s b = 0)) (b : Int) = (fun b => decide (wc h' v' m' c' i j k s b = 0)) (b : Int) := fun b hb => by
    simp only [wc' b hb]
  refine ⟨i, j, k, s, hi, hj, hk, hs, A.lx lx, e1, e2, e3, e4, by rw [e5, ct_congr (f := fun b => decide (wc h v m c i j k s b = 0)) (g := fun b => decide (wc h' v' m' c' i j k s b = 0)) n gc], fun b hb hg => ?_⟩
  rw [← gc b hb] at hg
  have := e6 b hb hg
  rw [ct_congr (f := fun b => decide (wc h v m c i j k s b = 0)) (g := fun b => decide (wc h' v' m' c' i j k s b = 0)) b (fun t ht => gc t (by omega))] at this
  rw [this]
  exact C b (by omega) (by omega)
theorem okc_ag {k : Nat} {ix a c c' : Int → Int} (h : ∀ t : Int, 0 ≤ t → t < k → c (ix t) = c' (ix t)) : OKc k ix a c ↔ OKc k ix a c' := by
  unfold OKc
  rw [sm_congr k (g := fun t => ((a t).natAbs : Int) * c' (ix t)) (fun t t0 t1 => by rw [h t t0 t1])]
theorem AGs.p2 {n : Int} {h v m c h' v' m' c' : Int → Int} (A : AGs n h v m c h' v' m' c') {i j : Int} (hi : 0 ≤ i ∧ i < n) (hj : 0 ≤ j ∧ j < n) : a2 h v m i j = a2 h' v' m' i j ∧ (Pr2 h v m c i j ↔ Pr2 h' v' m' c' i j) ∧ (par h v m i j ↔ par h' v' m' i j) := by
  obtain ⟨e1, e2, e3, e4⟩ := A i hi.1 hi.2
  obtain ⟨d1, d2, d3, d4⟩ := A j hj.1 hj.2
  have ea : a2 h v m i j = a2 h' v' m' i j := by
    unfold a2 selx
    rw [e1, e2, e3, d1, d2, d3]
  have ep : par h v m i j ↔ par h' v' m' i j := by
    obtain ⟨c1, c2, c3⟩ := A.cr hi hj
    unfold par
    rw [c1, c2, c3]
  refine ⟨ea, ?_, ep⟩
  unfold Pr2
  rw [ea, ep, okc_ag (c' := c')]
  intro t _ _
  unfold ix2
  split
  · exact e4
  · exact d4
theorem AGs.p3 {n : Int} {h v m c h' v' m' c' : Int → Int} (A : AGs n h v m c h' v' m' c') {i j k : Int} (hi : 0 ≤ i ∧ i < n) (hj : 0 ≤ j ∧ j < n) (hk : 0 ≤ k ∧ k < n) : a3 h v m i j k = a3 h' v' m' i j k ∧ (Pr3 h v m c i j k ↔ Pr3 h' v' m' c' i j k) := by
  have cij := A.cr hi hj
  have cjk := A.cr hj hk
  have cki := A.cr hk hi
  have ea : a3 h v m i j k = a3 h' v' m' i j k := by
    unfold a3 cx
    simp only [cij.1, cij.2.1, cij.2.2, cjk.1, cjk.2.1, cjk.2.2, cki.1, cki.2.1, cki.2.2]
  refine ⟨ea, ?_⟩
  unfold Pr3
  rw [ea, (A.p2 hi hj).2.2, A.dt hi hj hk, okc_ag (c' := c')]
  intro t _ _
  unfold ix3
  split
  · exact (A i hi.1 hi.2).2.2.2
  · split
    · exact (A j hj.1 hj.2).2.2.2
    · exact (A k hk.1 hk.2).2.2.2
theorem AGs.p4 {n : Int} {h v m c h' v' m' c' : Int → Int} (A : AGs n h v m c h' v' m' c') {i j k l : Int} (hi : 0 ≤ i ∧ i < n) (hj : 0 ≤ j ∧ j < n) (hk : 0 ≤ k ∧ k < n) (hl : 0 ≤ l ∧ l < n) : a4 h v m i j k l = a4 h' v' m' i j k l ∧ (Pr4 h v m c i j k l ↔ Pr4 h' v' m' c' i j k l) := by
  have ea : a4 h v m i j k l = a4 h' v' m' i j k l := by
    unfold a4
    rw [A.dt hj hk hl, A.dt hi hk hl, A.dt hi hj hl, A.dt hi hj hk]
  refine ⟨ea, ?_⟩
  unfold Pr4
  rw [ea, okc_ag (c' := c')]
  intro t _ _
  unfold ix4
  split
  · exact (A i hi.1 hi.2).2.2.2
  · split
    · exact (A j hj.1 hj.2).2.2.2
    · split
      · exact (A k hk.1 hk.2).2.2.2
      · exact (A l hl.1 hl.2).2.2.2
theorem AGs.n2 {n : Int} {h v m c h' v' m' c' : Int → Int} (A : AGs n h v m c h' v' m' c') (N : No2 (Pr2 h v m c) n) : No2 (Pr2 h' v' m' c') n := fun a b a0 a1 b1 q => N a b a0 a1 b1 ((A.p2 ⟨by omega, by omega⟩ ⟨by omega, by omega⟩).2.1.mpr q)
theorem AGs.n3 {n : Int} {h v m c h' v' m' c' : Int → Int} (A : AGs n h v m c h' v' m' c') (N : No3 (Pr3 h v m c) n) : No3 (Pr3 h' v' m' c') n := fun a b d a0 a1 b1 d1 q => N a b d a0 a1 b1 d1 ((A.p3 ⟨by omega, by omega⟩ ⟨by omega, by omega⟩ ⟨by omega, by omega⟩).2.mpr q)
theorem AGs.n4 {n : Int} {h v m c h' v' m' c' : Int → Int} (A : AGs n h v m c h' v' m' c') (N : No4 (Pr4 h v m c) n) : No4 (Pr4 h' v' m' c') n := fun a b d e a0 a1 b1 d1 e1 q => N a b d e a0 a1 b1 d1 e1 ((A.p4 ⟨by omega, by omega⟩ ⟨by omega, by omega⟩ ⟨by omega, by omega⟩ ⟨by omega, by omega⟩).2.mpr q)
theorem AGs.srch {n : Int} {h v m c h' v' m' c' ix a : Int → Int} {k : Nat} (A : AGs n h v m c h' v' m' c') (S : Srch h v m c n k ix a) : Srch h' v' m' c' n k ix a := by
  rcases S with ⟨hk, i, j, F, e1, e2⟩ | ⟨hk, N2, i, j, l, F, e1, e2⟩ | ⟨hk, N2, N3, i, j, l, q, F, e1, e2⟩ | ⟨hk, N2, N3, N4⟩
  · obtain ⟨f0, f1, f2, f3, f4⟩ := F
    have p := A.p2 (i := i) (j := j) ⟨by omega, by omega⟩ ⟨by omega, by omega⟩
    refine Or.inl ⟨hk, i, j, ⟨f0, f1, f2, p.2.1.mp f3, fun a b a0 a1 b1 q r => f4 a b a0 a1 b1 q ((A.p2 ⟨by omega, by omega⟩ ⟨by omega, by omega⟩).2.1.mpr r)⟩, e1, ?_⟩
    rw [e2, p.1]
  · obtain ⟨f0, f1, f2, f3, f4, f5⟩ := F
    have p := A.p3 (i := i) (j := j) (k := l) ⟨by omega, by omega⟩ ⟨by omega, by omega⟩ ⟨by omega, by omega⟩
    refine Or.inr (Or.inl ⟨hk, A.n2 N2, i, j, l, ⟨f0, f1, f2, f3, p.2.mp f4, fun a b d a0 a1 b1 d1 q r => f5 a b d a0 a1 b1 d1 q ((A.p3 ⟨by omega, by omega⟩ ⟨by omega, by omega⟩ ⟨by omega, by omega⟩).2.mpr r)⟩, e1, ?_⟩)
    rw [e2, p.1]
  · obtain ⟨f0, f1, f2, f3, f4, f5, f6⟩ := F
    have p := A.p4 (i := i) (j := j) (k := l) (l := q) ⟨by omega, by omega⟩ ⟨by omega, by omega⟩ ⟨by omega, by omega⟩ ⟨by omega, by omega⟩
    refine Or.inr (Or.inr (Or.inl ⟨hk, A.n2 N2, A.n3 N3, i, j, l, q, ⟨f0, f1, f2, f3, f4, p.2.mp f5, fun a b d e a0 a1 b1 d1 e1 z r => f6 a b d e a0 a1 b1 d1 e1 z ((A.p4 ⟨by omega, by omega⟩ ⟨by omega, by omega⟩ ⟨by omega, by omega⟩ ⟨by omega, by omega⟩).2.mpr r)⟩, e1, ?_⟩))
    rw [e2, p.1]
  · exact Or.inr (Or.inr (Or.inr ⟨hk, A.n2 N2, A.n3 N3, A.n4 N4⟩))
theorem AGs.vn {n : Int} {h v m c h' v' m' c' code code' ix a : Int → Int} {k : Nat} {μ : m_M} {V : Int} (A : AGs n h v m c h' v' m' c') (C : ∀ i : Int, 0 ≤ i → i < n → code i = code' i) (S : Srch h v m c n k ix a) (K : VNc μ V k ix a c code) : VNc μ V k ix a c' code' := by
  obtain ⟨k1, k2, k3, k4, k5⟩ := K
  refine ⟨k1, k2, k3, k4, fun z => ?_⟩
  obtain ⟨k6, k7⟩ := k5 z
  refine ⟨fun t t0 t1 => ?_, ?_⟩
  · obtain ⟨x1, x2⟩ := S.ix t t0 t1
    exact ⟨(k6 t t0 t1).1.trans (C _ x1 x2), (k6 t t0 t1).2⟩
  · rw [k7]
    refine sm_congr k (fun t t0 t1 => ?_)
    obtain ⟨x1, x2⟩ := S.ix t t0 t1
    simp only [(A _ x1 x2).2.2.2]
