set_option maxHeartbeats 1000000
/-! ===== what lies ahead of a joint; the list of rows; the reference's tells, first half ===== -/
theorem sm_add2 {f g : Int → Int} : ∀ n : Nat, sm (fun i => f i + g i) n = sm f n + sm g n := by
  intro n
  induction n with
  | zero => rfl
  | succ n ih =>
    show sm (fun i => f i + g i) n + (f n + g n) = sm f n + f n + (sm g n + g n)
    rw [ih]; omega
theorem sm_zero {f : Int → Int} : ∀ n : Nat, (∀ t : Int, 0 ≤ t → t < n → f t = 0) → sm f n = 0 := by
  intro n
  induction n with
  | zero => intro _; rfl
  | succ n ih =>
    intro h
    show sm f n + f n = 0
    rw [ih (fun t t0 t1 => h t t0 (by omega)), h n (by omega) (by omega)]; rfl
/-- weights (or turns) of stones and loads at places from i0 on, before k -/
def cwt (f g pl : Int → Int) (n : Nat) (lo i0 k : Int) : Int := sm (fun d => f (i0 + d)) (k - i0).toNat + (if lo = 0 then 0 else sm (fun i => if i0 ≤ pl i ∧ pl i < k then g i else 0) n)
def at_ (g pl : Int → Int) (n : Nat) (lo k : Int) : Int := if lo = 0 then 0 else sm (fun i => if pl i = k then g i else 0) n
theorem cw_0 {f g pl : Int → Int} {n : Nat} {lo i0 : Int} : cwt f g pl n lo i0 i0 = 0 := by
  unfold cwt
  rw [show (i0 - i0).toNat = 0 by omega]
  show 0 + _ = (0 : Int)
  split
  · rfl
  · rw [sm_zero n (fun t _ _ => if_neg (by omega))]; rfl
theorem cw_succ {f g pl : Int → Int} {n : Nat} {lo i0 k : Int} (h : i0 ≤ k) : cwt f g pl n lo i0 (k + 1) = cwt f g pl n lo i0 k + f k + at_ g pl n lo k := by
  unfold cwt at_
  have e1 : sm (fun d => f (i0 + d)) (k + 1 - i0).toNat = sm (fun d => f (i0 + d)) (k - i0).toNat + f k := by
    rw [show (k + 1 - i0).toNat = (k - i0).toNat + 1 by omega]
    show _ + f (i0 + ((k - i0).toNat : Int)) = _
    rw [show i0 + ((k - i0).toNat : Int) = k by omega]
  rw [e1]
  split
  · omega
  · have e2 : sm (fun i => if i0 ≤ pl i ∧ pl i < k + 1 then g i else 0) n = sm (fun i => if i0 ≤ pl i ∧ pl i < k then g i else 0) n + sm (fun i => if pl i = k then g i else 0) n := by
      rw [← sm_add2]
      refine sm_congr n (fun t _ _ => ?_)
      by_cases q : pl t = k
      · rw [if_pos (by omega), if_neg (by omega), if_pos q]; omega
      · rw [if_neg q]
        by_cases r : i0 ≤ pl t ∧ pl t < k
        · rw [if_pos r, if_pos (by omega)]; omega
        · rw [if_neg r, if_neg (by omega)]; omega
    rw [e2]; omega
theorem cw_ab {f g pl : Int → Int} {n : Nat} {lo i0 k A B : Int} (hn : n ≤ 6) (hk : k ≤ i0 + 10) (A0 : 0 ≤ A) (B0 : 0 ≤ B) (hf : ∀ p, i0 ≤ p → p < k → ab (f p) A) (hg : ∀ i : Int, 0 ≤ i → i < n → ab (g i) B) : ab (cwt f g pl n lo i0 k) (10 * A + 6 * B) := by
  unfold cwt
  refine ab_ad ?_ ?_
  · refine ab_l (sm_ab _ (fun t t0 t1 => hf _ (by omega) (by omega))) (Int.mul_le_mul_of_nonneg_right (by omega) A0)
  · split
    · unfold ab; omega
    · refine ab_l (sm_ab n (B := B) (fun t t0 t1 => ?_)) (Int.mul_le_mul_of_nonneg_right (by omega) B0)
      split
      · exact hg t t0 t1
      · unfold ab; omega
def gj (ne fa J sl W T : Int → Int) (p q k : Int) : List Rw :=
  [mrA k (ne k * J (4 * k) + fa k * J (4 * k + 2)) (ne k * J (4 * k + 1) + fa k * J (4 * k + 3)) (ne k + fa k) (W k) (T k), mrB k (fa k * J (4 * k) + ne k * J (4 * k + 2)) (fa k * J (4 * k + 1) + ne k * J (4 * k + 3)) (ne k + fa k) (W k) (T k)] ++
  (if sl k = 0 then [] else [srA k p q (J (4 * k + 2) - J (4 * k)) (J (4 * k + 3) - J (4 * k + 1)) (W k), srB k p q (J (4 * k + 2) - J (4 * k)) (J (4 * k + 3) - J (4 * k + 1)) (W k)])
def gs (ne fa J sl W T : Int → Int) (p q i0 : Int) : Nat → List Rw
  | 0 => []
  | t + 1 => gs ne fa J sl W T p q i0 t ++ gj ne fa J sl W T p q (i0 + t)
theorem gj_len {ne fa J sl W T : Int → Int} {p q k : Int} : (gj ne fa J sl W T p q k).length ≤ 4 := by
  unfold gj; split <;> simp
theorem gs_len {ne fa J sl W T : Int → Int} {p q i0 : Int} : ∀ t : Nat, (gs ne fa J sl W T p q i0 t).length ≤ 4 * t := by
  intro t
  induction t with
  | zero => exact Nat.le_refl 0
  | succ t ih =>
    show (gs ne fa J sl W T p q i0 t ++ gj ne fa J sl W T p q (i0 + t)).length ≤ _
    have := gj_len (ne := ne) (fa := fa) (J := J) (sl := sl) (W := W) (T := T) (p := p) (q := q) (k := i0 + t)
    rw [List.length_append]; omega
/-- the reference's state as a row of rows -/
def sgM (μ : m_M) (M : Int) : m_M := fun o j => μ (M + o) j
def kA (σ : m_M) (a p : Int) : Int := if p < 0 then -1 else if σ 15 a ≤ p then -1 else if 0 ≤ σ 16 (10 * a + p) then σ 4 (σ 16 (10 * a + p)) else -1
def fl (σ : m_M) (a k : Int) : Int := if 3 ≤ kA σ a (k - 1) then 1 else if 3 ≤ kA σ a k then 1 else 0
def spr (σ : m_M) (a k : Int) : Int := if (k = 0 ∧ kA σ a 0 = 2) ∨ (k = σ 15 a ∧ kA σ a (k - 1) = 2) then 1 else 0
/-- the cells of the reference's state -/
def SE (μ : m_M) (M : Int) (σ : m_M) : Prop := ∀ o j, 1 ≤ o → o ≤ 25 → μ (M + o) j = σ o j
def SF (μ : m_M) (M : Int) (σ : m_M) : Prop := ∀ o j, 1 ≤ o → o ≤ 24 → μ (M + o) j = σ o j
theorem SE.d {μ : m_M} {M : Int} {σ : m_M} (S : SE μ M σ) : SF μ M σ := fun o j h1 h2 => S o j h1 (by omega)
theorem SF.fk {μ μ' : m_M} {M : Int} {σ : m_M} (S : SF μ M σ) (f : FKp M μ μ') : SF μ' M σ := fun o j h1 h2 => (f _ _ (by omega) (by omega)).trans (S o j h1 h2)
theorem SE.fk {μ μ' : m_M} {M : Int} {σ : m_M} (S : SE μ M σ) (f : FKp M μ μ') : SE μ' M σ := fun o j h1 h2 => (f _ _ (by omega) (by omega)).trans (S o j h1 h2)
/-- an arch of the reference: its places hold stones that are there -/
def MA (σ : m_M) (a : Int) : Prop := 0 ≤ a ∧ a < 12 ∧ 1 ≤ σ 15 a ∧ σ 15 a ≤ 10 ∧ (∀ p, 0 ≤ p → p < σ 15 a → σ 16 (10 * a + p) < 120) ∧ 0 ≤ σ 19 a ∧ σ 19 a ≤ 6
theorem sp_X12_kindAt {Q X : m_Po} {ε : m_E} {μ σ : m_M} {M a p : Int} (L : LM ε M) (S : SF μ M σ) (A : MA σ a) (p1 : p ≤ 10) (hh : Q (kA σ a p) ε μ) : o_X12_kindAt [(2, M), (0, a), (0, p)] ε μ Q X := by
  obtain ⟨a0, a1, n1, n2, s, _⟩ := A
  apply e_X12_kindAt
  rw [L.f17.1, L.f18.1, L.f5.1, S 15 a (by decide) (by decide)]
  have w : 0 ≤ p → w32 (w32 (10 * a) + p) = 10 * a + p := fun q => by rw [w32_id (show i32 (10 * a) by unfold i32; omega), w32_id (by unfold i32; omega)]
  refine fun _ _ _ => ⟨fun q => ⟨L.k, L.f17.2.1, a0, by rw [L.f17.2.2]; exact a1, fun q' => ?_⟩, fun t ht => ?_⟩
  · rw [w q, S 16 _ (by decide) (by decide)]
    exact ⟨L.f18.2.1, by omega, by rw [L.f18.2.2]; omega, fun r => ⟨L.f5.2.1, r, by rw [L.f5.2.2]; exact s p q q'⟩⟩
  · have e : t = kA σ a p := by
      unfold kA
      by_cases q : p < 0
      · rw [ht, if_pos q, if_pos q]
      · rw [w (by omega), S 16 _ (by decide) (by decide), S 4 _ (by decide) (by decide)] at ht
        exact ht
    rw [e]; exact hh
def lwf (σ : m_M) (a k : Int) : Int → Int := fun i => if σ 20 (6 * a + i) = k then σ 22 (6 * a + i) else 0
def ltf (σ : m_M) (a k : Int) : Int → Int := fun i => if σ 20 (6 * a + i) = k then σ 22 (6 * a + i) * σ 21 (6 * a + i) else 0
/-- the loads at a place -/
theorem tl_422 {Q X : m_Po} {ε : m_E} {μ σ : m_M} {M a j sl lo nw k A B : Int} {n : Nat} (L : LM ε M) (S : SE μ M σ) (a0 : 0 ≤ a) (a1 : a < 12) (hn : σ 19 a = n) (n6 : n ≤ 6) (hlo : lo ≠ 0)
    (bA : ab A 10000000) (bB : ab B 10000000000) (bg : ∀ i : Int, 0 ≤ i → i < n → ab (σ 22 (6 * a + i)) 100000 ∧ ab (σ 21 (6 * a + i)) 1000)
    (K : G cd_X12_tells Q X 499 [(0, (2, M)), (1, (0, a)), (3, (0, j)), (4, (0, sl)), (5, (0, lo)), (6, (0, nw)), (7, (1, A + sm (lwf σ a k) n)), (9, (1, B + sm (ltf σ a k) n)), (11, (0, k))] [] ε μ) :
    ∀ d i : Nat, i + d = n → G cd_X12_tells Q X 422 [(0, (2, M)), (1, (0, a)), (3, (0, j)), (4, (0, sl)), (5, (0, lo)), (6, (0, nw)), (7, (1, A + sm (lwf σ a k) i)), (9, (1, B + sm (ltf σ a k) i)), (11, (0, k)), (27, (0, 6 * a + i))] [] ε μ := by
  intro d
  induction d with
  | zero =>
    intro i hi
    have : i = n := by omega
    subst this
    apply g_X12_tells_422
    rw [L.f21.1, S 19 a (by decide) (by decide), hn, w32_id (show i32 (6 * a) by unfold i32; omega), w32_id (show i32 (6 * a + i) by unfold i32; omega)]
    refine fun _ _ _ _ _ _ _ _ _ _ => ⟨L.k, L.f21.2.1, a0, by rw [L.f21.2.2]; exact a1, fun _ => K, fun q => absurd q (by omega)⟩
  | succ d ih =>
    intro i hi
    apply g_X12_tells_422
    rw [L.f21.1, L.f22.1, L.f23.1, L.f24.1, S 19 a (by decide) (by decide), S 20 _ (by decide) (by decide), S 21 _ (by decide) (by decide), S 22 _ (by decide) (by decide), hn, w32_id (show i32 (6 * a) by unfold i32; omega), w32_id (show i32 (6 * a + n) by unfold i32; omega), w32_id (show i32 (6 * a + i + 1) by unfold i32; omega)]
    refine fun _ _ _ _ _ _ _ _ _ _ => ⟨L.k, L.f21.2.1, a0, by rw [L.f21.2.2]; exact a1, fun q => absurd q (by omega), fun _ => ⟨fun q => absurd q hlo, fun _ => ⟨L.f22.2.1, by omega, by rw [L.f22.2.2]; omega, fun _ => ⟨L.f24.2.1, by rw [L.f24.2.2]; omega, L.f23.2.1, by rw [L.f23.2.2]; omega⟩, fun v7 h7 v9 h9 v27 h27 => ?_⟩⟩⟩
    have H := ih (i + 1) (by omega)
    have b := bg i (by omega) (by omega)
    have bm := abm b.1 b.2
    have b1 : ab (sm (lwf σ a k) i) (i * 100000) := sm_ab i (fun t t0 t1 => by
      unfold lwf
      split
      · exact (bg t t0 (by omega)).1
      · unfold ab; omega)
    have b2 : ab (sm (ltf σ a k) i) (i * (100000 * 1000)) := sm_ab i (fun t t0 t1 => by
      unfold ltf
      split
      · exact abm (bg t t0 (by omega)).1 (bg t t0 (by omega)).2
      · unfold ab; omega)
    have e7 : v7 = A + sm (lwf σ a k) (i + 1) := by
      rw [h7]
      show _ = A + (sm (lwf σ a k) i + lwf σ a k i)
      generalize sm (lwf σ a k) i = z at *
      unfold lwf
      by_cases q : σ 20 (6 * a + i) = k
      · rw [if_pos q, if_pos q, w64_id]
        · omega
        · have b' := b.1
          unfold ab at b1 bA b'; unfold i64; omega
      · rw [if_neg q, if_neg q]; omega
    have e9 : v9 = B + sm (ltf σ a k) (i + 1) := by
      rw [h9]
      show _ = B + (sm (ltf σ a k) i + ltf σ a k i)
      generalize sm (ltf σ a k) i = z at *
      unfold ltf
      by_cases q : σ 20 (6 * a + i) = k
      · rw [if_pos q, if_pos q, w64_ab bm (by decide), w64_id]
        · omega
        · generalize σ 22 (6 * a + i) * σ 21 (6 * a + i) = y at *
          unfold ab at b2 bB bm; unfold i64; omega
      · rw [if_neg q, if_neg q]; omega
    have e27 : v27 = 6 * a + ((i + 1 : Nat) : Int) := by rw [h27]; omega
    rw [e7, e9, e27]
    exact H
