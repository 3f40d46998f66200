/-! ===== Big: twelve pieces of 32 bits, and a sign ===== -/
def Ex2 (a o : Int) (μ μ' : m_M) : Prop := ∀ b j, b ≠ a → b ≠ o → μ' b j = μ b j
theorem Ex2.rf {a o : Int} {μ : m_M} : Ex2 a o μ μ := fun _ _ _ _ => rfl
theorem Ex2.trans {a o : Int} {μ μ' μ'' : m_M} (h : Ex2 a o μ μ') (k : Ex2 a o μ' μ'') : Ex2 a o μ μ'' := fun b j hb hc => (k b j hb hc).trans (h b j hb hc)
theorem Ex2.st1 {a o i v : Int} {μ : m_M} : Ex2 a o μ (st μ a i v) := fun _ _ hb _ => if_neg (fun z => hb z.1)
theorem Ex2.st2 {a o i v : Int} {μ : m_M} : Ex2 a o μ (st μ o i v) := fun _ _ _ hb => if_neg (fun z => hb z.1)
theorem Ex2.of {a o : Int} {μ μ' : m_M} (h : Exc o μ μ') : Ex2 a o μ μ' := fun b j _ hb => h b j hb
/-- a Big, its pieces in the array o -/
def bg (ε : m_E) (a o : Int) : Prop := kd ε a = 10 ∧ fn ε a 0 = o ∧ kd ε o = 100 ∧ ln ε o = 12 ∧ a ≠ o
def bs' (f : Int → Int) : Nat → Int
  | 0 => 0
  | n + 1 => bs' f n + (f n % 4294967296) * 4294967296 ^ n
def mg (μ : m_M) (o : Int) : Int := bs' (μ o) 12
def bv (μ : m_M) (a o : Int) : Int := if μ a 1 = 0 then mg μ o else -(mg μ o)
theorem pw (n : Nat) : (4294967296 : Int) ^ (n + 1) = 4294967296 ^ n * 4294967296 := Int.pow_succ _ _
theorem pw_pos (n : Nat) : (0 : Int) < 4294967296 ^ n := Int.pow_pos (by decide)
theorem bs_range (f : Int → Int) : ∀ n : Nat, 0 ≤ bs' f n ∧ bs' f n < 4294967296 ^ n := by
  intro n
  induction n with
  | zero => exact ⟨Int.le_refl 0, by show (0 : Int) < 4294967296 ^ 0; decide⟩
  | succ n ih =>
    have p := pw_pos n
    have h0 : 0 ≤ f n % 4294967296 := Int.emod_nonneg _ (by decide)
    have h1 : f n % 4294967296 ≤ 4294967295 := by omega
    have a := Int.mul_nonneg h0 (Int.le_of_lt p)
    have b := Int.mul_le_mul_of_nonneg_right h1 (Int.le_of_lt p)
    rw [pw]
    unfold bs'
    omega
theorem bs_congr {f g : Int → Int} : ∀ n : Nat, (∀ k : Int, 0 ≤ k → k < n → f k % 4294967296 = g k % 4294967296) → bs' f n = bs' g n := by
  intro n
  induction n with
  | zero => intro _; rfl
  | succ n ih =>
    intro h
    unfold bs'
    rw [ih (fun k h0 h1 => h k h0 (by omega)), h n (by omega) (by omega)]
theorem bs_zero {f : Int → Int} : ∀ n : Nat, (∀ k : Int, 0 ≤ k → k < n → f k = 0) → bs' f n = 0 := by
  intro n
  induction n with
  | zero => intro _; rfl
  | succ n ih =>
    intro h
    unfold bs'
    rw [ih (fun k h0 h1 => h k h0 (by omega)), h n (by omega) (by omega)]
    simp
theorem bs_eq0 {f : Int → Int} : ∀ n : Nat, bs' f n = 0 → ∀ k : Int, 0 ≤ k → k < n → f k % 4294967296 = 0 := by
  intro n
  induction n with
  | zero => intro _ k h0 h1; omega
  | succ n ih =>
    intro h k h0 h1
    have p := pw_pos n
    have r := bs_range f n
    have z0 : 0 ≤ f n % 4294967296 := Int.emod_nonneg _ (by decide)
    have a := Int.mul_nonneg z0 (Int.le_of_lt p)
    unfold bs' at h
    have e1 : bs' f n = 0 := by omega
    have e2 : (f n % 4294967296) * 4294967296 ^ n = 0 := by omega
    rcases Int.mul_eq_zero.mp e2 with q | q
    · by_cases c : k = n
      · rw [c]; exact q
      · exact ih e1 k h0 (by omega)
    · omega
/-- compared from the top -/
theorem bs_lt {f g : Int → Int} (n k : Nat) (hk : k < n) (h : ∀ j : Int, k < j → j < n → f j % 4294967296 = g j % 4294967296) (hl : f k % 4294967296 < g k % 4294967296) : bs' f n < bs' g n := by
  induction n with
  | zero => omega
  | succ n ih =>
    have p := pw_pos n
    have r := bs_range f n
    have r' := bs_range g n
    unfold bs'
    by_cases c : k = n
    · subst c
      have : f k % 4294967296 + 1 ≤ g k % 4294967296 := by omega
      have := Int.mul_le_mul_of_nonneg_right this (Int.le_of_lt p)
      rw [Int.add_mul] at this
      omega
    · have i := ih (by omega) (fun j h0 h1 => h j h0 (by omega))
      rw [h n (by omega) (by omega)]
      omega
theorem tk_loop {Q X : m_Po} {ε : m_E} {a o b p : Int} (A : bg ε a o) (B : bg ε b p) {μ0 : m_M} (hle : μ0 b 1 = 0 ∨ μ0 b 1 = 1) (hd : b ≠ o) (h : ∀ μ', Ex2 a o μ0 μ' → (∀ k, 0 ≤ k → k < 12 → μ' o k = μ0 p k) → μ' a 1 = μ0 b 1 → Q 0 ε μ') :
    ∀ (n : Nat) (k : Int) (μ : m_M), k = 12 - n → 0 ≤ k → Exc o μ0 μ → (∀ j, 0 ≤ j → j < k → μ o j = μ0 p j) → (∀ j, k ≤ j → μ p j = μ0 p j) → G cd_X11_take Q X 2 [(0, (2, a)), (1, (2, b)), (2, (0, k))] [] ε μ := by
  obtain ⟨a1, a2, a3, a4, a5⟩ := A
  obtain ⟨b1, b2, b3, b4, b5⟩ := B
  intro n
  induction n with
  | zero =>
    intro k μ hk h0 hE hs hp
    apply g_X11_take_2
    have eb : μ b 1 = μ0 b 1 := hE b 1 hd
    refine fun _ _ => ⟨fun _ => ⟨b1, a1, by rw [eb]; exact hle, fun μ1 m1 => h μ1 ?_ ?_ ?_⟩, fun c => by omega⟩ <;> subst m1
    · exact (Ex2.of hE).trans Ex2.st1
    · intro j h1 h2
      rw [sx_oa (fun z => a5 z.symm)]
      exact hs j h1 (by omega)
    · rw [sx_same, eb]
  | succ n ih =>
    intro k μ hk h0 hE hs hp
    apply g_X11_take_2
    rw [a2, b2]
    refine fun _ _ => ⟨fun c => by omega, fun c => ⟨a1, b1, b3, h0, by omega, a3, by omega, fun μ1 m1 k1 e1 => ?_⟩⟩
    have e1' : k1 = k + 1 := by rw [e1, w32_id (by unfold i32; omega)]
    subst e1'
    refine ih (k + 1) μ1 (by omega) (by omega) ?_ ?_ ?_ <;> subst m1
    · exact hE.trans Exc.st
    · intro j h1 h2
      by_cases c2 : j = k
      · rw [c2, sx_same]; exact hp k (by omega)
      · rw [sx_oi c2]; exact hs j h1 (by omega)
    · intro j h1
      by_cases c2 : p = o
      · subst c2
        rw [sx_oi (by omega)]; exact hp j (by omega)
      · rw [sx_oa c2]; exact hp j (by omega)
theorem sp_X11_take {Q X : m_Po} {ε : m_E} {μ : m_M} {a o b p : Int} (A : bg ε a o) (B : bg ε b p) (hle : μ b 1 = 0 ∨ μ b 1 = 1) (hd : b ≠ o) (h : ∀ μ', Ex2 a o μ μ' → mg μ' o = mg μ p → μ' a 1 = μ b 1 → Q 0 ε μ') : o_X11_take [(2, a), (2, b)] ε μ Q X := by
  apply e_X11_take
  intro _ v2 e2
  refine tk_loop A B hle hd (fun μ' h1 h2 h3 => h μ' h1 (bs_congr 12 (fun k q1 q2 => by rw [h2 k q1 q2])) h3) 12 v2 μ (by omega) (by omega) Exc.rf (fun j h1 h2 => by omega) (fun j _ => rfl)
theorem nt_loop {Q X : m_Po} {ε : m_E} {μ : m_M} {a o : Int} (A : bg ε a o) (hT : TY ε μ) (h : Q (if mg μ o = 0 then 1 else 0) ε μ) :
    ∀ (n : Nat) (k v : Int), k = 12 - n → 0 ≤ k → ((v = 1 ∧ ∀ j, 0 ≤ j → j < k → μ o j = 0) ∨ (v = 0 ∧ ∃ j, 0 ≤ j ∧ j < k ∧ μ o j ≠ 0)) → G cd_X11_isNothing Q X 4 [(0, (2, a)), (1, (0, v)), (2, (0, k))] [] ε μ := by
  obtain ⟨a1, a2, a3, a4, a5⟩ := A
  intro n
  induction n with
  | zero =>
    intro k v hk h0 hv
    apply g_X11_isNothing_4
    refine fun _ _ _ => ⟨fun _ => ⟨by omega, ?_⟩, fun c => by omega⟩
    rcases hv with ⟨rfl, z⟩ | ⟨rfl, j, j0, j1, j2⟩
    · rw [if_pos (show mg μ o = 0 from bs_zero 12 (fun j h1 h2 => z j h1 (by omega)))] at h
      exact h
    · rw [if_neg (fun z => by
        have q := bs_eq0 12 z j j0 (by omega)
        have i := hT.int a3 j0 (show j < ln ε o by omega)
        unfold i32 at i
        omega)] at h
      exact h
  | succ n ih =>
    intro k v hk h0 hv
    apply g_X11_isNothing_4
    rw [a2]
    refine fun _ _ _ => ⟨fun c => by omega, fun c => ⟨fun _ => ⟨a1, a3, h0, by omega⟩, fun t et v1 e1 k1 ek => ?_⟩⟩
    have e1' : k1 = k + 1 := by rw [ek, w32_id (by unfold i32; omega)]
    rw [e1']
    refine ih (k + 1) v1 (by omega) (by omega) ?_
    rw [e1, et]
    rcases hv with ⟨rfl, z⟩ | ⟨rfl, j, j0, j1, j2⟩
    · rw [if_neg (by decide)]
      by_cases z2 : μ o k = 0
      · rw [if_pos z2]
        exact Or.inl ⟨rfl, fun j h1 h2 => by by_cases c3 : j = k; rw [c3]; exact z2; exact z j h1 (by omega)⟩
      · rw [if_neg z2]
        exact Or.inr ⟨rfl, k, h0, by omega, z2⟩
    · rw [if_pos rfl]
      exact Or.inr ⟨rfl, j, j0, by omega, j2⟩
theorem sp_X11_isNothing {Q X : m_Po} {ε : m_E} {μ : m_M} {a o : Int} (A : bg ε a o) (h : Q (if mg μ o = 0 then 1 else 0) ε μ) : o_X11_isNothing [(2, a)] ε μ Q X := by
  apply e_X11_isNothing
  intro hT v1 e1 v2 e2
  exact nt_loop A hT h 12 v2 v1 (by omega) (by omega) (Or.inl ⟨e1, fun j h1 h2 => by omega⟩)
theorem sp_X11_low {Q X : m_Po} {ε : m_E} {μ : m_M} {v : Int} (h : Q (v % 4294967296) ε μ) : o_X11_low [(0, v)] ε μ Q X := by
  apply e_X11_low
  intro _ _
  rw [and64_lo]; exact h
def cp (x y : Int) : Int := if x < y then -1 else if x = y then 0 else 1
theorem sz_end {Q X : m_Po} {ε : m_E} {μ : m_M} {a o b p k : Int} (A : bg ε a o) (B : bg ε b p) (h0 : 0 ≤ k) (h1 : k < 12) (heq : ∀ j, k < j → j < 12 → μ o j = μ p j) (hlt : μ o k ≠ μ p k ∨ k = 0) (hT : TY ε μ) (h : Q (cp (mg μ o) (mg μ p)) ε μ) : G cd_X11_sizes Q X 28 [(0, (2, a)), (1, (2, b)), (2, (0, k))] [] ε μ := by
  obtain ⟨a1, a2, a3, a4, a5⟩ := A
  obtain ⟨b1, b2, b3, b4, b5⟩ := B
  have io := hT.int a3 h0 (show k < ln ε o by omega)
  have ip := hT.int b3 h0 (show k < ln ε p by omega)
  unfold i32 at io ip
  have L : ∀ {f g : Int → Int}, (∀ j, k < j → j < 12 → f j = g j) → f k % 4294967296 < g k % 4294967296 → bs' f 12 < bs' g 12 := by
    intro f g q1 q2
    refine bs_lt 12 k.toNat (by omega) (fun j h1 h2 => by rw [q1 j (by omega) (by omega)]) ?_
    rw [show ((k.toNat : Nat) : Int) = k by omega]; exact q2
  apply g_X11_sizes_28
  rw [a2]
  refine fun _ _ => ⟨a1, a3, h0, by omega, sp_X11_low ?_⟩
  apply g_X11_sizes_37
  rw [b2]
  refine fun _ _ _ => ⟨b1, b3, h0, by omega, sp_X11_low ?_⟩
  apply g_X11_sizes_46
  rw [a2]
  refine fun _ _ _ _ => ⟨fun c => ⟨a1, a3, h0, by omega, sp_X11_low ?_⟩, fun c => ?_⟩
  · apply g_X11_sizes_63
    rw [b2]
    refine fun _ _ _ => ⟨b1, b3, h0, by omega, sp_X11_low ?_⟩
    apply g_X11_sizes_72
    intro _ _ _ t et
    unfold cp at h
    rw [et]
    by_cases z : μ o k % 4294967296 ≤ μ p k % 4294967296
    · rw [if_pos z]
      have e : mg μ o = mg μ p := bs_congr 12 (fun j h1 h2 => by
        by_cases q : k < j
        · rw [heq j q h2]
        · by_cases q2 : j = k
          · rw [q2]; omega
          · exfalso; omega)
      rw [e, if_neg (by omega), if_pos rfl] at h
      exact h
    · rw [if_neg z]
      have e : mg μ p < mg μ o := L (fun j q1 q2 => (heq j q1 q2).symm) (by omega)
      rw [if_neg (by omega), if_neg (by omega)] at h
      exact h
  · have e : mg μ o < mg μ p := L heq c
    unfold cp at h
    rw [if_pos e] at h
    exact h
theorem sz_loop {Q X : m_Po} {ε : m_E} {μ : m_M} {a o b p : Int} (A : bg ε a o) (B : bg ε b p) (hT : TY ε μ) (h : Q (cp (mg μ o) (mg μ p)) ε μ) : ∀ (n : Nat), n < 12 → (∀ j, (n : Int) < j → j < 12 → μ o j = μ p j) → G cd_X11_sizes Q X 3 [(0, (2, a)), (1, (2, b)), (2, (0, n))] [] ε μ := by
  have A' := A
  have B' := B
  obtain ⟨a1, a2, a3, a4, a5⟩ := A
  obtain ⟨b1, b2, b3, b4, b5⟩ := B
  intro n
  induction n with
  | zero =>
    intro hn heq
    apply g_X11_sizes_3
    refine fun _ _ => ⟨fun _ => sz_end A' B' (by decide) (by decide) heq (Or.inr rfl) hT h, fun c => by simp at c⟩
  | succ n ih =>
    intro hn heq
    apply g_X11_sizes_3
    rw [a2, b2]
    refine fun _ _ => ⟨fun c => by omega, fun c => ⟨a1, a3, by omega, by omega, b1, b3, by omega, fun c2 => sz_end A' B' (by omega) (by omega) heq (Or.inl c2) hT h, fun c2 v2 e2 => ?_⟩⟩
    have : v2 = (n : Int) := by rw [e2, w32_id (by unfold i32; omega)]; omega
    rw [this]
    exact ih (by omega) (fun j h1 h2 => by
      by_cases q : j = ((n + 1 : Nat) : Int)
      · rw [q]; exact c2
      · exact heq j (by omega) h2)
theorem sp_X11_sizes {Q X : m_Po} {ε : m_E} {μ : m_M} {a o b p : Int} (A : bg ε a o) (B : bg ε b p) (h : Q (cp (mg μ o) (mg μ p)) ε μ) : o_X11_sizes [(2, a), (2, b)] ε μ Q X := by
  apply e_X11_sizes
  intro hT v2 e2
  rw [e2]
  exact sz_loop A B hT h 11 (by decide) (fun j h1 h2 => by omega)
theorem bs_two (f : Int → Int) (h : ∀ k : Int, 2 ≤ k → k < 12 → f k = 0) : bs' f 12 = f 0 % 4294967296 + f 1 % 4294967296 * 4294967296 := by
  have e : ∀ n : Nat, n ≤ 10 → bs' f (n + 2) = bs' f 2 := by
    intro n
    induction n with
    | zero => intro _; rfl
    | succ n ih =>
      intro hn
      show bs' f (n + 2) + (f ((n + 2 : Nat) : Int) % 4294967296) * 4294967296 ^ (n + 2) = bs' f 2
      rw [ih (by omega), h _ (by omega) (by omega)]
      simp
  rw [e 10 (by decide)]
  show (0 + f ((0 : Nat) : Int) % 4294967296 * 4294967296 ^ 0) + f ((1 : Nat) : Int) % 4294967296 * 4294967296 ^ 1 = _
  simp
theorem se_loop {Q X : m_Po} {ε : m_E} {a o w : Int} (A : bg ε a o) (hw0 : 0 ≤ w) (hw1 : w < 9223372036854775808) {μ0 : m_M} (h : ∀ μ', Exc o μ0 μ' → mg μ' o = w → Q 0 ε μ') :
    ∀ (n : Nat) (k : Int) (μ : m_M), k = 12 - n → 0 ≤ k → Exc o μ0 μ → (0 < k → μ o 0 = w32 w) → (1 < k → μ o 1 = w32 (w / 4294967296)) → (∀ j, 2 ≤ j → j < k → μ o j = 0) → G cd_X11_set Q X 32 [(0, (2, a)), (3, (1, w)), (5, (0, k))] [] ε μ := by
  obtain ⟨a1, a2, a3, a4, a5⟩ := A
  intro n
  induction n with
  | zero =>
    intro k μ hk h0 hE q0 q1 q2
    apply g_X11_set_32
    refine fun _ _ _ => ⟨fun _ => h μ hE ?_, fun c => by omega⟩
    unfold mg
    rw [bs_two _ (fun j h1 h2 => q2 j h1 (by omega)), q0 (by omega), q1 (by omega)]
    unfold w32
    omega
  | succ n ih =>
    intro k μ hk h0 hE q0 q1 q2
    apply g_X11_set_32
    rw [a2]
    refine fun _ _ _ => ⟨fun c => by omega, fun c => ⟨a1, fun t et => ⟨a3, h0, by omega, fun μ1 m1 k1 e1 => ?_⟩⟩⟩
    have e1' : k1 = k + 1 := by rw [e1, w32_id (by unfold i32; omega)]
    rw [e1']
    refine ih (k + 1) μ1 (by omega) (by omega) ?_ ?_ ?_ ?_ <;> subst m1
    · exact hE.trans Exc.st
    · intro _
      by_cases z : k = 0
      · subst z
        rw [sx_same, et, if_neg (by decide), show w32 (32 * 0) = 0 by decide, ushr64_0 (by unfold i64; omega)]
      · rw [sx_oi (by omega)]; exact q0 (by omega)
    · intro _
      by_cases z : k = 1
      · subst z
        rw [sx_same, et, if_neg (by decide), show w32 (32 * 1) = 32 by decide, ushr64_32, show w % 18446744073709551616 = w by omega]
      · rw [sx_oi (by omega)]; exact q1 (by omega)
    · intro j h1 h2
      by_cases z : j = k
      · subst z
        rw [sx_same, et, if_pos h1]
      · rw [sx_oi z]; exact q2 j h1 (by omega)
theorem sp_X11_set {Q X : m_Po} {ε : m_E} {μ : m_M} {a o v : Int} (A : bg ε a o) (hv : -9223372036854775808 < v) (h : ∀ μ', Ex2 a o μ μ' → (μ' a 1 = 0 ∨ μ' a 1 = 1) → mg μ' o = (v.natAbs : Int) → bv μ' a o = v → Q 0 ε μ') : o_X11_set [(2, a), (1, v)] ε μ Q X := by
  apply e_X11_set
  intro _ iv t et
  unfold i64 at iv
  have A' := A
  obtain ⟨a1, a2, a3, a4, a5⟩ := A
  refine ⟨a1, by rw [et]; split <;> omega, fun μ1 m1 => ⟨a1, fun t1 et1 v3 e3 v5 e5 => ?_⟩⟩
  have e : v3 = (v.natAbs : Int) := by
    rw [m1, sx_same] at et1
    rw [e3, et1, et]
    by_cases z : 0 ≤ v
    · rw [if_pos z, if_pos rfl]; omega
    · rw [if_neg z, if_neg (by decide), w64_id (by unfold i64; omega)]; omega
  refine se_loop A' (w := v3) (by omega) (by omega) (μ0 := μ1) (fun μ' hE hm => ?_) 12 v5 μ1 (by omega) (by omega) Exc.rf (fun c => by omega) (fun c => by omega) (fun j h1 h2 => by omega)
  have el : μ' a 1 = t := by rw [hE a 1 a5, m1, sx_same]
  refine h μ' ?_ ?_ (by rw [hm, e]) ?_
  · subst m1
    exact Ex2.st1.trans (Ex2.of hE)
  · rw [el, et]; split <;> omega
  · unfold bv
    rw [el, et, hm, e]
    by_cases z : 0 ≤ v
    · rw [if_pos z, if_pos rfl]; omega
    · rw [if_neg z, if_neg (by decide)]; omega
