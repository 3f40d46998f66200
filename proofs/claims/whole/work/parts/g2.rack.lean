set_option maxHeartbeats 2000000
/-! ===== making; pair of calls: rack ===== -/
theorem ex_al {ε ε' : m_E} {k n : Int} (e : EX ε ε') (h : ∀ a, 0 ≤ kd ε a → a < nx ε') : EX ε (ealloc ε' k n) := fun a ha => by
  obtain ⟨e1, e2, e3⟩ := e a ha
  have := h a ha
  refine ⟨?_, ?_, fun i => ?_⟩
  · show (if a = nx ε' then k else kd ε' a) = _
    rw [if_neg (by omega)]; exact e1
  · show (if a = nx ε' then n else ln ε' a) = _
    rw [if_neg (by omega)]; exact e2
  · show (if a = nx ε' then 0 else fn ε' a i) = _
    rw [if_neg (by omega)]; exact e3 i
theorem ex_fi {ε ε' : m_E} {a i v : Int} (e : EX ε ε') (h : kd ε a < 0 ∨ ∀ b, 0 ≤ kd ε b → b < a) : EX ε (efin ε' a i v) := fun b hb => by
  obtain ⟨e1, e2, e3⟩ := e b hb
  refine ⟨e1, e2, fun j => ?_⟩
  show st (fn ε') a i v b j = _
  rw [st, if_neg (fun z => ?_)]
  · exact e3 j
  · rcases h with h | h
    · rw [z.1] at hb; omega
    · have := h b hb; omega
theorem sp_X5_init {Q Y : m_Po} {ε0 ε : m_E} {μ : m_M} {a t : Int} (h0 : 0 < a) (hk : kd ε a = 5) (hn : nx ε = a + 1) (ht : t = 0 ∨ t = 1) (e : EX ε0 ε) (hb : ∀ b, 0 ≤ kd ε0 b → b < a) (hh : ∀ (ε' : m_E) (μ' : m_M), EX ε0 ε' → LR ε' a → fn ε' a 0 = t → (∀ b j, b ≠ a + 1 → b ≠ a + 2 → μ' b j = μ b j) → (∀ k, 0 ≤ k → k < 40 → μ' (a + 1) k = -1) → (∀ j, μ' (a + 2) j = 0) → Q 0 ε' μ') : o_X5_init [(2, a), (0, t)] ε μ Q Y := by
  apply e_X5_init
  refine fun _ _ => ⟨h0, fun a1 ε1 μ1 ha1 e1 m1 => ?_⟩
  rw [hn] at ha1
  subst ha1
  have k1 : kd ε1 a = 5 := by rw [e1]; show (if a = nx ε then 100 else kd ε a) = 5; rw [if_neg (by omega)]; exact hk
  have x1 : nx ε1 = a + 2 := by rw [e1]; show nx ε + 1 = a + 2; omega
  refine ⟨k1, fun ε2 e2 a2 ε3 μ2 ha2 e3 m2 => ?_⟩
  have x2 : nx ε2 = a + 2 := by rw [e2]; exact x1
  rw [x2] at ha2
  subst ha2
  have k3 : kd ε3 a = 5 := by rw [e3]; show (if a = nx ε2 then 100 else kd ε2 a) = 5; rw [if_neg (by omega), e2]; exact k1
  refine ⟨k3, fun ε4 e4 => ⟨by rw [e4]; exact k3, ht, fun ε5 e5 v2 h2 => ?_⟩⟩
  rw [h2]
  have E1 : EX ε0 ε1 := by rw [e1]; exact ex_al e (fun b h => by have := hb b h; omega)
  have E2 : EX ε0 ε2 := by rw [e2]; exact ex_fi E1 (Or.inr hb)
  have E3 : EX ε0 ε3 := by rw [e3]; exact ex_al E2 (fun b h => by have := hb b h; omega)
  have E4 : EX ε0 ε4 := by rw [e4]; exact ex_fi E3 (Or.inr hb)
  have EX5 : EX ε0 ε5 := by rw [e5]; exact ex_fi E4 (Or.inr hb)
  have kk : ∀ b, kd ε5 b = if b = a + 2 then 100 else if b = a + 1 then 100 else kd ε b := fun b => by
    rw [e5, e4, e3]
    show (if b = nx ε2 then 100 else kd ε2 b) = _
    rw [x2, e2, e1]
    show (if b = a + 2 then 100 else if b = nx ε then 100 else kd ε b) = _
    rw [hn]
  have ll : ∀ b, ln ε5 b = if b = a + 2 then 1600 else if b = a + 1 then 40 else ln ε b := fun b => by
    rw [e5, e4, e3]
    show (if b = nx ε2 then 1600 else ln ε2 b) = _
    rw [x2, e2, e1]
    show (if b = a + 2 then 1600 else if b = nx ε then 40 else ln ε b) = _
    rw [hn]
  have f0 : fn ε5 a 0 = t := by rw [e5]; show st (fn ε4) a 0 t a 0 = t; rw [sx_same]
  have f2 : fn ε5 a 2 = a + 2 := by rw [e5]; show st (fn ε4) a 0 t a 2 = _; rw [sx_oi (by decide), e4]; show st (fn ε3) a 2 (a + 2) a 2 = _; rw [sx_same]
  have f1 : fn ε5 a 1 = a + 1 := by
    rw [e5]; show st (fn ε4) a 0 t a 1 = _; rw [sx_oi (by decide), e4]; show st (fn ε3) a 2 (a + 2) a 1 = _; rw [sx_oi (by decide), e3]
    show (if a = nx ε2 then 0 else fn ε2 a 1) = _
    rw [if_neg (by omega), e2]; show st (fn ε1) a 1 (a + 1) a 1 = _; rw [sx_same]
  have LR5 : LR ε5 a := by
    refine ⟨by rw [kk, if_neg (by omega), if_neg (by omega)]; exact hk, fun q hq => ?_⟩
    simp only [LR_t, List.mem_cons, List.not_mem_nil, or_false] at hq
    rcases hq with h | h
    · rw [h]; exact ⟨f1, by rw [kk, if_neg (show ¬ a + 1 = a + 2 by omega), if_pos rfl], by rw [ll, if_neg (show ¬ a + 1 = a + 2 by omega), if_pos rfl]⟩
    · rw [h]; exact ⟨f2, by rw [kk, if_pos rfl], by rw [ll, if_pos rfl]⟩
  clear kk ll f0 f1 f2 e1 e2 e3 e4 E1 E2 E3 E4
  have O : ∀ (d : Nat) (i : Int) (μ3 : m_M), 0 ≤ i → i + d = 40 → (∀ b j, b ≠ a + 1 → b ≠ a + 2 → μ3 b j = μ b j) → (∀ k, 0 ≤ k → k < i → μ3 (a + 1) k = -1) → (∀ j, μ3 (a + 2) j = 0) → G cd_X5_init Q Y 28 [(0, (2, a)), (2, (0, i))] [] ε5 μ3 := by
    intro d
    induction d with
    | zero =>
      intro i μ3 i0 hi g3 z3 y3
      apply g_X5_init_28
      exact fun _ _ => ⟨fun _ => hh ε5 μ3 EX5 LR5 (by rw [e5]; show st (fn ε4) a 0 t a 0 = t; rw [sx_same]) g3 (fun k k0 k1 => z3 k k0 (by omega)) y3, fun q => absurd q (by omega)⟩
    | succ d ih =>
      intro i μ3 i0 hi g3 z3 y3
      apply g_X5_init_28
      rw [LR5.f1.1]
      refine fun _ _ => ⟨fun q => absurd q (by omega), fun _ => ⟨LR5.k, LR5.f1.2.1, i0, by rw [LR5.f1.2.2]; omega, fun μ4 m4 v h => ?_⟩⟩
      rw [w32_id (show i32 (i + 1) by unfold i32; omega)] at h
      rw [h]
      refine ih (i + 1) μ4 (by omega) (by omega) (fun b j h1 h2 => by rw [m4, sx_oa h1]; exact g3 b j h1 h2) (fun k k0 k1 => ?_) (fun j => by rw [m4, sx_oa (by omega)]; exact y3 j)
      rw [m4]
      by_cases z : k = i
      · rw [z, sx_same]
      · rw [sx_oi z]; exact z3 k k0 (by omega)
  refine O 40 0 μ2 (by decide) (by omega) (fun b j h1 h2 => ?_) (fun k k0 k1 => absurd k1 (by omega)) (fun j => ?_)
  · rw [m2, mnew, if_neg h2, m1, mnew, if_neg h1]
  · rw [m2, mnew, if_pos rfl]
theorem rack_52 {Q Y : m_Po} {ε : m_E} {μ : m_M} {M r : Int} (L : LM ε M) (hr : μ M 4 = r) (r0 : 0 ≤ r) (r1 : r < 8) (hh : ∀ μ' : m_M, (∀ b j, ¬ (b = M + 2 ∧ 40 * r ≤ j ∧ j < 40 * r + 40) → ¬ (b = M ∧ j = 4) → μ' b j = μ b j) → (∀ k, 0 ≤ k → k < 40 → μ' (M + 2) (40 * r + k) = -1) → μ' M 4 = r + 1 → Q r ε μ') : G cd_X12_rack Q Y 52 [(0, (2, M)), (2, (0, 0))] [] ε μ := by
  have O : ∀ (d : Nat) (i : Int) (μ1 : m_M), 0 ≤ i → i + d = 40 → (∀ b j, ¬ (b = M + 2 ∧ 40 * r ≤ j ∧ j < 40 * r + 40) → μ1 b j = μ b j) → (∀ k, 0 ≤ k → k < i → μ1 (M + 2) (40 * r + k) = -1) → G cd_X12_rack Q Y 52 [(0, (2, M)), (2, (0, i))] [] ε μ1 := by
    intro d
    induction d with
    | zero =>
      intro i μ1 i0 hi g1 z1
      have e4 : μ1 M 4 = r := by rw [g1 _ _ (by omega)]; exact hr
      apply g_X12_rack_52
      rw [e4, w32_id (show i32 (r + 1) by unfold i32; omega)]
      refine fun _ _ => ⟨fun _ => ⟨L.k, fun μ2 m2 => ?_⟩, fun q => absurd q (by omega)⟩
      have e5 : μ2 M 4 = r + 1 := by rw [m2, sx_same]
      rw [e5, show r + 1 - 1 = r by omega, w32_id (show i32 r by unfold i32; omega)]
      exact hh μ2 (fun b j h h' => by rw [m2, st, if_neg h']; exact g1 b j h) (fun k k0 k1 => by rw [m2, sx_oa (by omega)]; exact z1 k k0 (by omega)) e5
    | succ d ih =>
      intro i μ1 i0 hi g1 z1
      have e4 : μ1 M 4 = r := by rw [g1 _ _ (by omega)]; exact hr
      apply g_X12_rack_52
      rw [e4, L.f2.1, w32_id (show i32 (40 * r) by unfold i32; omega), w32_id (show i32 (40 * r + i) by unfold i32; omega)]
      refine fun _ _ => ⟨fun q => absurd q (by omega), fun _ => ⟨L.k, L.f2.2.1, by omega, by rw [L.f2.2.2]; omega, fun μ2 m2 v h => ?_⟩⟩
      rw [w32_id (show i32 (i + 1) by unfold i32; omega)] at h
      rw [h]
      refine ih (i + 1) μ2 (by omega) (by omega) (fun b j h1 => by rw [m2, st, if_neg (fun z => h1 ⟨z.1, by omega, by omega⟩)]; exact g1 b j h1) (fun k k0 k1 => ?_)
      rw [m2]
      by_cases z : k = i
      · rw [z, sx_same]
      · rw [sx_oi (by omega)]; exact z1 k k0 (by omega)
  exact O 40 0 μ (by decide) (by omega) (fun _ _ _ => rfl) (fun k k0 k1 => absurd k1 (by omega))
