/-! ===== Big: product, half, twice, parts ===== -/
/-- powers of 2 to the 32nd, under a name of their own (so that none is worked out) -/
def PB (n : Nat) : Int := (4294967296 : Int) ^ n
theorem PB_succ (n : Nat) : PB (n + 1) = PB n * 4294967296 := Int.pow_succ _ _
theorem PB_pos (n : Nat) : 0 < PB n := Int.pow_pos (by decide)
theorem PB_zero : PB 0 = 1 := rfl
theorem PB_add (i k : Nat) : PB (i + k) = PB i * PB k := Int.pow_add _ _ _
theorem bs_succ (f : Int → Int) (n : Nat) : bs' f (n + 1) = bs' f n + (f n % 4294967296) * PB n := rfl
theorem bs_rng (f : Int → Int) (n : Nat) : 0 ≤ bs' f n ∧ bs' f n < PB n := bs_range f n
theorem bs_split (f : Int → Int) (k : Nat) : ∀ n : Nat, ∃ r, bs' f (k + n) = bs' f k + r * PB k := by
  intro n
  induction n with
  | zero => exact ⟨0, by simp⟩
  | succ n ih =>
    obtain ⟨r, hr⟩ := ih
    refine ⟨r + (f ((k + n : Nat) : Int) % 4294967296) * PB n, ?_⟩
    rw [show k + (n + 1) = (k + n) + 1 from rfl, bs_succ, hr, PB_add]
    grind
theorem bs_st_at {μ : m_M} {o v : Int} (n : Nat) : ∀ N : Nat, n < N → bs' (st μ o n v o) N = bs' (μ o) N + (v % 4294967296 - μ o n % 4294967296) * PB n := by
  intro N
  induction N with
  | zero => intro h; omega
  | succ N ih =>
    intro h
    rw [bs_succ, bs_succ]
    by_cases c : n = N
    · subst c
      rw [bs_st, sx_same]
      grind
    · rw [ih (by omega), sx_oi (by omega)]
      grind
theorem bs_st_lo {μ : m_M} {o v : Int} {i : Int} (n : Nat) (h : (n : Int) ≤ i) : bs' (st μ o i v o) n = bs' (μ o) n := bs_congr n (fun k _ h1 => by rw [sx_oi (by omega)])
theorem mul_rng {u w : Int} (hu : 0 ≤ u ∧ u < 4294967296) (hw : 0 ≤ w ∧ w < 4294967296) : 0 ≤ u * w ∧ u * w ≤ 18446744065119617025 := by
  refine ⟨Int.mul_nonneg hu.1 hw.1, ?_⟩
  have := Int.mul_le_mul (show u ≤ 4294967295 by omega) (show w ≤ 4294967295 by omega) hw.1 (by decide)
  omega
theorem prod_step {u w f c v7 v9 c1 : Int} (hu : 0 ≤ u ∧ u < 4294967296) (hw : 0 ≤ w ∧ w < 4294967296) (hf : 0 ≤ f ∧ f < 4294967296) (hc : 0 ≤ c ∧ c ≤ 4294967295) (e7 : v7 = w64 (u * w)) (e9 : v9 = w64 (w64 (f + w32 v7 % 4294967296) + c)) (ec : c1 = w64 (o_ushr64 v7 32 + o_ushr64 v9 32)) :
    0 ≤ c1 ∧ c1 ≤ 4294967295 ∧ f + u * w + c = w32 v9 % 4294967296 + c1 * 4294967296 := by
  have b := mul_rng hu hw
  generalize u * w = z at *
  rw [ushr64_32, ushr64_32] at ec
  have e7' : v7 % 18446744073709551616 = z := by unfold w64 at e7; omega
  have e7b : w32 v7 % 4294967296 = z % 4294967296 := by unfold w32; omega
  rw [e7b] at e9
  have e9' : v9 = f + z % 4294967296 + c := by unfold w64 at e9; omega
  rw [e7'] at ec
  have ec' : c1 = z / 4294967296 + v9 / 4294967296 := by unfold w64 at ec; omega
  have e10 : w32 v9 % 4294967296 = v9 % 4294967296 := by unfold w32; omega
  rw [e10]
  omega
/-- an equation that no arithmetic looks into -/
def EQ (a b : Int) : Prop := a = b
