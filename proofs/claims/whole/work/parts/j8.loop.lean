set_option maxHeartbeats 2000000
/-! ===== a turn of the law's loop ===== -/
set_option maxRecDepth 20000 in
theorem g_next {N : m_C} {Q Y : m_Po} {ls : m_L} {st : m_S} {ε : m_E} {μ : m_M} (h : N ls st ε μ) : G (cd_L_law N) Q Y 9999 ls st ε μ := G_go _ _ _ _ (show m_ty _ _ _ _ → N ls st ε μ from fun _ => h)
def LNq (s X L : Int) (n : Nat) : m_C := fun ls st ε μ => ls = [(0, (2, s)), (1, (2, X)), (2, (2, X + 34)), (3, (2, X + 141)), (4, (0, 7 * (n : Int)))] ∧ st = [] ∧ Rel ε μ X ∧ kd ε s = 99 ∧ ln ε s = L ∧ 7 * (n : Int) ≤ L
theorem law_head {Q Y : m_Po} {ε : m_E} {μ : m_M} {s X L : Int} {n : Nat} (sX : s < X) (hL : L ≤ 3584) (hQ : ∀ ε μ, Q 1 ε μ) (H : Rel ε μ X) (ks : kd ε s = 99) (kl : ln ε s = L) (n7 : 7 * (n : Int) ≤ L) : G (cd_L_law (LNq s X L (n + 1))) Q Y 23 [(0, (2, s)), (1, (2, X)), (2, (2, X + 34)), (3, (2, X + 141)), (4, (0, 7 * (n : Int)))] [] ε μ := by
  have v0 : 0 ≤ 7 * (n : Int) := by omega
  generalize hv : 7 * (n : Int) = v at *
  have next : v + 7 ≤ L → ∀ ε' μ', EX ε ε' → Rel ε' μ' X → G (cd_L_law (LNq s X L (n + 1))) Q Y 1721 [(0, (2, s)), (1, (2, X)), (2, (2, X + 34)), (3, (2, X + 141)), (4, (0, v))] [] ε' μ' := fun h7 ε' μ' e R' => by
    obtain ⟨k1, k2, _⟩ := e s (by rw [ks]; decide)
    apply g_L_law_1721
    rw [w32_i v0 (by omega) (by decide) (by decide)]
    refine fun _ _ w ew => g_next ⟨?_, rfl, R', k1.trans ks, k2.trans kl, by omega⟩
    rw [ew, show v + 7 = 7 * ((n + 1 : Nat) : Int) by omega]
  apply g_L_law_23
  rw [kl, w32_id (show i32 (L - 7) by unfold i32; omega)]
  refine fun _ _ => ⟨ks, fun _ => hQ ε μ, fun q => ⟨v0, by omega, fun _ => lc_rack H ks sX v0 (by omega) (by omega) (next (by omega)), fun _ => lc_row H ks sX v0 (by omega) (by omega) (next (by omega)), fun _ => lc_put H ks sX v0 (by omega) (by omega) (next (by omega)), fun _ => lc_tear H ks sX v0 (by omega) (by omega) (next (by omega)), fun _ => lc_stone H ks sX v0 (by omega) (by omega) (next (by omega)), fun _ => lc_told H ks sX v0 (by omega) (by omega) (next (by omega)), fun _ => lc_arch H ks sX v0 (by omega) (by omega) (next (by omega)), fun _ => lc_pier H ks sX v0 (by omega) (by omega) (next (by omega)), fun _ => lc_place H ks sX v0 (by omega) (by omega) (next (by omega)), fun _ => lc_there H ks sX v0 (by omega) (by omega) (next (by omega)), fun _ => lc_load H ks sX v0 (by omega) (by omega) (next (by omega)), fun _ => lc_slope H ks sX v0 (by omega) (by omega) (next (by omega)), fun _ => lc_whole H ks sX v0 (by omega) (by omega) (next (by omega)), fun _ => lc_joint H ks sX v0 (by omega) (by omega) (next (by omega)), fun _ => lc_line H ks sX v0 (by omega) (by omega) (next (by omega)), fun _ => lc_judge H ks sX v0 (by omega) (by omega) (next (by omega)), fun _ => lc_number H ks sX v0 (by omega) (by omega) (next (by omega)), fun _ => lc_bound H ks sX v0 (by omega) (by omega) (next (by omega)), fun _ => lc_weigh H ks sX v0 (by omega) (by omega) (next (by omega)), fun _ => lc_room H ks sX v0 (by omega) (by omega) (next (by omega)), fun _ => lc_strike H ks sX v0 (by omega) (by omega) (next (by omega)), fun _ => lc_order H ks sX v0 (by omega) (by omega) (next (by omega)), fun _ => lc_octet H ks sX v0 (by omega) (by omega) (next (by omega)), fun _ => lc_count H ks sX v0 (by omega) (by omega) (next (by omega)), fun _ => next (by omega) ε μ EX.rf H⟩⟩
theorem law_loop {l : Launch} {bs : Nat} {D : va_G} {Da : Nat → ClassId} {ex : List ExceptionTableEntry} {nm : String} {Q Y : m_Po} {s X L : Int} (htr : l.stackTraces = false) (sX : s < X) (hL : L ≤ 3584) (hQ : ∀ ε μ, Q 1 ε μ) : ∀ (d n : Nat), n + d = 513 → Le (LNq s X L n) (AW l bs D Da RL code 7 (some .boolean) room_1 ex nm Q Y (bL n) 23) := by
  intro d
  induction d with
  | zero =>
    intro n hn ls st ε μ h
    obtain ⟨_, _, _, _, _, h⟩ := h
    omega
  | succ d ih =>
    intro n hn ls st ε μ h
    obtain ⟨rfl, rfl, R', ks, kl, n7⟩ := h
    exact G_AWr (ok_L_law (n := n) htr (by omega) (ih (n + 1) (by omega))) 23 _ _ _ _ (law_head sX hL hQ R' ks kl n7)
