set_option maxHeartbeats 1000000
theorem ct_hit {g : Int → Bool} {q : Nat} : ∀ {n : Nat}, q < ct g n → ∃ i : Nat, i < n ∧ g i = true ∧ ct g i = q := by
  intro n
  induction n with
  | zero => intro h; exact absurd h (Nat.not_lt_zero _)
  | succ n ih =>
    intro h
    by_cases a : q < ct g n
    · obtain ⟨i, h1, h2, h3⟩ := ih a
      exact ⟨i, by omega, h2, h3⟩
    · rw [ct_at] at h
      by_cases b : g n = true
      · rw [if_pos b] at h
        exact ⟨n, by omega, b, by omega⟩
      · rw [if_neg b] at h
        exact absurd h (by omega)
theorem TL.same {g : Int → Bool} {code x y : Int → Int} {n : Nat} {o o' : Int} (H : TL g code n x o) (K : TL g code n y o') {q : Nat} (h : q < ct g n) : x (o + q) = y (o' + q) := by
  obtain ⟨i, h1, h2, h3⟩ := ct_hit h
  have a := H i h1 h2
  have b := K i h1 h2
  rw [h3] at a b
  rw [a, b]
theorem bd_pb {x : Int} {k : Nat} (h : bd x k) (hk : k ≤ 200) : (x.natAbs : Int) * 2 < PB 12 := by
  have a : bd x 200 := bd_mono h hk
  unfold bd at a
  have e : (2 : Nat) ^ 200 = 1606938044258990275541962092341162602522202993782792835301376 := by decide
  have e' : PB 12 = 39402006196394479212279040100143613805079739270465446667948293404245721771497210611414266254884915640806627990306816 := by decide +kernel
  rw [e] at a
  rw [e']
  omega
theorem JQ.of {μ : m_M} {V n w u l N D : Int} {R : Int → Int} (hw : n / 3 = w) (hu : u = 48 + 2 * n) (hl : l = 61 + 2 * n) (hN : W2 (μ (V + 1) n) (μ (V + 2) n) = N) (hD : μ (V + 3) w = D) (d1 : 1 ≤ D) (d2 : D ≤ 2147483648) (b : N.natAbs < 10 ^ 38) (l0 : 0 < R l) {k k' : Nat} (bu : bd (R u) k) (hk : k ≤ 200) (bl : bd (R l) k') (hk' : k' ≤ 200) (e : N * R l = R u * D) : JQ μ V R n := by
  unfold JQ
  subst hu hl hw
  rw [hN, hD]
  exact ⟨d1, d2, b, l0, bd_pb bu hk, bd_pb bl hk', e⟩
