set_option maxHeartbeats 1000000
/-! ===== verdict and the reference's answer are one; the pages are one ===== -/
theorem sm_ab {f : Int → Int} {B : Int} : ∀ n : Nat, (∀ t : Int, 0 ≤ t → t < n → ab (f t) B) → ab (sm f n) (n * B) := by
  intro n
  induction n with
  | zero => intro _; exact ⟨by simp [sm], by simp [sm]⟩
  | succ n ih =>
    intro h
    show ab (sm f n + f n) _
    have e : ((n + 1 : Nat) : Int) * B = n * B + B := by rw [Int.natCast_add, Int.add_mul]; simp
    rw [e]
    have i1 := ih (fun t t0 t1 => h t t0 (by omega))
    have i2 := h n (by omega) (by omega)
    unfold ab at *
    generalize (n : Int) * B = z at *
    omega
theorem TX.len {a d : Int} {t : List Int} (h : TX a d t) (ha : a.natAbs < 10 ^ 38) (hd : d.natAbs ≤ 2147483648) : t.length ≤ 80 := by
  obtain ⟨l, h1, h2⟩ := h
  have i1 : l.length ≤ 38 := h1.len (k := 37) ha
  have i0 : (sgl a).length ≤ 1 := by unfold sgl; split <;> simp
  rcases h2 with ⟨_, e⟩ | ⟨_, l', h3, e⟩
  · rw [e, List.length_append, List.length_reverse]; omega
  · have i2 : l'.length ≤ 10 := h3.len (k := 9) (by omega)
    rw [e, List.length_append, List.length_append, List.length_append, List.length_reverse, List.length_reverse]
    simp only [List.length_cons, List.length_nil]
    omega
theorem W2.z {x : Int} (h0 : 0 ≤ x) (h1 : i64 x) : W2 0 x = x := by
  unfold i64 at h1; unfold W2; omega
/-- the numbers of a never are small -/
def JS (μ : m_M) (V : Int) : Prop := (∀ t : Int, 0 ≤ t → t < μ V 8 → (μ (V + 7) t).natAbs < 10 ^ 38 ∧ W2 0 (μ (V + 7) t) = μ (V + 7) t) ∧ (0 < μ V 8 → (W2 (μ (V + 8) 0) (μ (V + 8) 1)).natAbs < 10 ^ 38)
theorem TY.w7 {ε : m_E} {μ : m_M} (T : TY ε μ) {a t : Int} (hk : kd ε a = 101) (t0 : 0 ≤ t) (t1 : t < ln ε a) : i64 (μ a t) := (T.2.1 a 1 hk (by decide)).2.2 t t0 t1
theorem JS.of {ε : m_E} {μ : m_M} {V : Int} {n : Int} {k : Nat} {h v m c code ix a : Int → Int} (T : TY ε μ) (L : LV ε V) (S : Srch h v m c n k ix a) (A : VNc μ V k ix a c code) (hc : ∀ i : Int, 0 ≤ i → i < n → ab (c i) 8000000000000) : JS μ V := by
  obtain ⟨a9, a8, a50, a51, al⟩ := A
  have k4 := S.k4
  unfold JS
  rw [a8]
  by_cases z : k = 0
  · subst z
    exact ⟨fun t t0 t1 => absurd t1 (by omega), fun t => absurd t (by decide)⟩
  · obtain ⟨al1, al2⟩ := al z
    have w : ∀ t : Int, 0 ≤ t → t < k → i64 (μ (V + 7) t) ∧ 0 ≤ μ (V + 7) t := fun t t0 t1 => by
      refine ⟨T.w7 L.f6.2.1 t0 (by rw [L.f6.2.2]; omega), ?_⟩
      rw [(al1 t t0 t1).2]
      exact gd_div0 _ _
    refine ⟨fun t t0 t1 => ⟨?_, W2.z (w t t0 t1).2 (w t t0 t1).1⟩, fun _ => ?_⟩
    · have := w t t0 t1
      unfold i64 at this
      omega
    · rw [al2]
      have b : ab (sm (fun t => ((a t).natAbs : Int) / gd a k * c (ix t)) k) (k * (9223372036854775808 * 8000000000000)) := by
        refine sm_ab k (fun t t0 t1 => abm ?_ (hc _ (S.ix t t0 t1).1 (S.ix t t0 t1).2))
        have := w t t0 t1
        rw [← (al1 t t0 t1).2]
        unfold i64 at this
        unfold ab
        omega
      unfold ab at b
      have : (k : Int) * (9223372036854775808 * 8000000000000) ≤ 4 * (9223372036854775808 * 8000000000000) := Int.mul_le_mul_of_nonneg_right (by omega) (by decide)
      omega
/-- what was judged last, in both programs: nothing yet, a safe arch, or one that no line keeps -/
def JV (μ : m_M) (V M : Int) (R : Int → Int) : Prop :=
  (μ V 9 = 0 ∧ μ V 8 = 0 ∧ μ (V + 5) 0 = 0 ∧ μ (V + 5) 1 = 0 ∧ μ M 53 = 0 ∧ μ M 59 = 0 ∧ μ (M + 89) 0 = 0 ∧ μ (M + 89) 1 = 0) ∨
  (μ V 9 = 1 ∧ μ V 8 = 0 ∧ μ M 53 = 1 ∧ μ M 54 = 1 ∧ μ M 59 = 0 ∧ (∀ n, 0 ≤ n → n < 6 → JQ μ V R n) ∧ JT μ V M 0 ∧ JT μ V M 1) ∨
  (μ V 9 = 0 ∧ μ M 53 = 1 ∧ μ M 54 = 0 ∧ μ (V + 5) 0 = 0 ∧ μ (V + 5) 1 = 0 ∧ μ (M + 89) 0 = 0 ∧ μ (M + 89) 1 = 0 ∧ JN μ V M R ∧ JS μ V)
/-- cells that the verdict and the reference's answer stand in -/
def vc (V M b j : Int) : Prop := (V ≤ b ∧ b ≤ V + 8) ∨ (b = M ∧ (j = 53 ∨ j = 54 ∨ j = 59)) ∨ b = M + 88 ∨ b = M + 89 ∨ b = M + 90
theorem JV.fr {μ μ' : m_M} {V M : Int} {R R' : Int → Int} (J : JV μ V M R) (f : ∀ b j, vc V M b j → μ' b j = μ b j) (q : ∀ n, 0 ≤ n → n < 6 → R' (48 + 2 * n) = R (48 + 2 * n) ∧ R' (61 + 2 * n) = R (61 + 2 * n)) (p : ∀ t, 0 ≤ t → t < 5 → R' (92 + 2 * t) = R (92 + 2 * t)) : JV μ' V M R' := by
  have fv : ∀ d j, 0 ≤ d → d ≤ 8 → μ' (V + d) j = μ (V + d) j := fun d j h1 h2 => f _ _ (Or.inl ⟨by omega, by omega⟩)
  have f0 : ∀ j, μ' V j = μ V j := fun j => f _ _ (Or.inl ⟨by omega, by omega⟩)
  have g53 : μ' M 53 = μ M 53 := f _ _ (Or.inr (Or.inl ⟨rfl, Or.inl rfl⟩))
  have g54 : μ' M 54 = μ M 54 := f _ _ (Or.inr (Or.inl ⟨rfl, Or.inr (Or.inl rfl)⟩))
  have g59 : μ' M 59 = μ M 59 := f _ _ (Or.inr (Or.inl ⟨rfl, Or.inr (Or.inr rfl)⟩))
  have g88 : ∀ j, μ' (M + 88) j = μ (M + 88) j := fun j => f _ _ (Or.inr (Or.inr (Or.inl rfl)))
  have g89 : ∀ j, μ' (M + 89) j = μ (M + 89) j := fun j => f _ _ (Or.inr (Or.inr (Or.inr (Or.inl rfl))))
  have g90 : ∀ j, μ' (M + 90) j = μ (M + 90) j := fun j => f _ _ (Or.inr (Or.inr (Or.inr (Or.inr rfl))))
  unfold JV JT JN JS JQ at *
  simp only [f0, g53, g54, g59, g88, g89, g90, fv 1 _ (by decide) (by decide), fv 2 _ (by decide) (by decide), fv 3 _ (by decide) (by decide), fv 4 _ (by decide) (by decide), fv 5 _ (by decide) (by decide), fv 6 _ (by decide) (by decide), fv 7 _ (by decide) (by decide), fv 8 _ (by decide) (by decide)]
  rcases J with J | ⟨j1, j2, j3, j4, j5, j6, j7⟩ | ⟨j1, j2, j3, j4, j5, j6, j7, ⟨n1, n2, n3, n4, n5⟩, j9⟩
  · exact Or.inl J
  · refine Or.inr (Or.inl ⟨j1, j2, j3, j4, j5, fun n n0 n6 => ?_, j7⟩)
    rw [(q n n0 n6).1, (q n n0 n6).2]
    exact j6 n n0 n6
  · refine Or.inr (Or.inr ⟨j1, j2, j3, j4, j5, j6, j7, ⟨n1, n2, n3, fun t t0 t1 => ?_, fun z => ?_⟩, j9⟩)
    · rw [p t t0 (by omega)]
      exact n4 t t0 t1
    · rw [show (100 : Int) = 92 + 2 * 4 by decide, p 4 (by decide) (by decide)]
      exact n5 z
def PG (μ : m_M) (p M : Int) : Prop := ∃ t : List Int, t.length ≤ 80 ∧ PL (μ (p + 1)) (μ p 3) t ∧ PL (μ (M + 104)) (μ M 63) t
theorem PL.geti {f : Int → Int} {n : Int} {l : List Int} (H : PL f n l) {i : Int} (i0 : 0 ≤ i) (i1 : i < n) : l[i.toNat]? = some (f i) := by
  obtain ⟨h1, h2⟩ := H
  have q : i.toNat < l.length := by omega
  have e := List.getElem?_eq_getElem q
  rw [e]
  have := h2 i.toNat _ e
  rw [show ((i.toNat : Nat) : Int) = i by omega] at this
  rw [this]
theorem PG.at {μ : m_M} {p M : Int} (G : PG μ p M) : μ p 3 = μ M 63 ∧ 0 ≤ μ p 3 ∧ μ p 3 ≤ 80 ∧ ∀ i : Int, 0 ≤ i → i < μ p 3 → μ (p + 1) i = μ (M + 104) i := by
  obtain ⟨t, t80, a, b⟩ := G
  refine ⟨a.1.trans b.1.symm, by rw [a.1]; omega, by rw [a.1]; omega, fun i i0 i1 => ?_⟩
  have e1 := a.geti i0 i1
  have e2 := b.geti i0 (by rw [b.1, ← a.1]; exact i1)
  rw [e1] at e2
  exact Option.some.inj e2
