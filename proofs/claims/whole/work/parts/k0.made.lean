set_option maxHeartbeats 2000000
/-! ===== what is made behind the address X: kinds, final references, what was stored ===== -/
def lks : List (Int × Int × Int × Int) → Int → Int → Int × Int
  | [], _, _ => (0, 0)
  | q :: r, d, j => if d = q.1 ∧ j = q.2.1 then q.2.2 else lks r d j
def MK (ε0 : m_E) (μ0 : m_M) (X D : Int) (L : List (Int × Int × Int)) (F : List (Int × Int × Int)) (S : List (Int × Int × Int × Int)) (ε : m_E) (μ : m_M) : Prop :=
  (0 < X ∧ 0 ≤ D ∧ nx ε = X + D) ∧ (∀ b, b < X → kd ε b = kd ε0 b ∧ ln ε b = ln ε0 b ∧ (∀ i, fn ε b i = fn ε0 b i) ∧ ∀ j, μ b j = μ0 b j) ∧
  (∀ q ∈ L, (0 ≤ q.1 ∧ q.1 < D) ∧ kd ε (X + q.1) = q.2.1 ∧ ln ε (X + q.1) = q.2.2) ∧ (∀ q ∈ F, (0 ≤ q.1 ∧ q.1 < D) ∧ fn ε (X + q.1) q.2.1 = X + q.2.2) ∧
  (∀ q ∈ S, 0 ≤ q.1 ∧ q.1 < D) ∧ ∀ d j, 0 ≤ d → d < D → μ (X + d) j = (lks S d j).1 * X + (lks S d j).2
theorem lks_no : ∀ {S : List (Int × Int × Int × Int)} {d j : Int}, (∀ q ∈ S, ¬ (q.1 = d ∧ q.2.1 = j)) → lks S d j = (0, 0)
  | [], _, _, _ => rfl
  | q :: r, d, j, h => by
    show (if d = q.1 ∧ j = q.2.1 then q.2.2 else lks r d j) = _
    rw [if_neg (fun z => h q List.mem_cons_self ⟨z.1.symm, z.2.symm⟩)]
    exact lks_no (fun q' hq => h q' (List.mem_cons_of_mem _ hq))
section Mk
variable {ε0 ε ε' : m_E} {μ0 μ μ' : m_M} {X D D' : Int} {L : List (Int × Int × Int)} {F : List (Int × Int × Int)} {S : List (Int × Int × Int × Int)}
theorem MK.al (H : MK ε0 μ0 X D L F S ε μ) (hD : D' = D + 1) {a k n : Int} (ha : a = nx ε) (he : ε' = ealloc ε k n) (hm : μ' = mnew μ a) : a = X + D ∧ MK ε0 μ0 X D' ((D, k, n) :: L) F S ε' μ' := by
  obtain ⟨⟨x0, d0, h1⟩, h2, h3, h4, h5, h6⟩ := H
  have ea : a = X + D := by omega
  subst hD
  refine ⟨ea, ⟨x0, by omega, by rw [he]; show nx ε + 1 = _; omega⟩, fun b hb => ?_, fun q hq => ?_, fun q hq => ?_, fun q hq => ?_, fun d j p0 p1 => ?_⟩
  · obtain ⟨e1, e2, e3, e4⟩ := h2 b hb
    rw [he, hm]
    refine ⟨?_, ?_, fun i => ?_, fun j => ?_⟩
    · show (if b = nx ε then k else kd ε b) = _
      rw [if_neg (by omega)]; exact e1
    · show (if b = nx ε then n else ln ε b) = _
      rw [if_neg (by omega)]; exact e2
    · show (if b = nx ε then 0 else fn ε b i) = _
      rw [if_neg (by omega)]; exact e3 i
    · show (if b = a then 0 else μ b j) = _
      rw [if_neg (by omega)]; exact e4 j
  · rw [he]
    rcases List.mem_cons.mp hq with z | z
    · subst z
      refine ⟨⟨d0, by show D < D + 1; omega⟩, ?_, ?_⟩
      · show (if X + D = nx ε then k else kd ε (X + D)) = k
        rw [if_pos (by omega)]
      · show (if X + D = nx ε then n else ln ε (X + D)) = n
        rw [if_pos (by omega)]
    · obtain ⟨⟨k0, k1⟩, k2, k3⟩ := h3 q z
      refine ⟨⟨k0, by omega⟩, ?_, ?_⟩
      · show (if X + q.1 = nx ε then k else kd ε (X + q.1)) = _
        rw [if_neg (by omega)]; exact k2
      · show (if X + q.1 = nx ε then n else ln ε (X + q.1)) = _
        rw [if_neg (by omega)]; exact k3
  · obtain ⟨⟨k0, k1⟩, k2⟩ := h4 q hq
    rw [he]
    refine ⟨⟨k0, by omega⟩, ?_⟩
    show (if X + q.1 = nx ε then 0 else fn ε (X + q.1) q.2.1) = _
    rw [if_neg (by omega)]; exact k2
  · have := h5 q hq; omega
  · rw [hm]
    show (if X + d = a then 0 else μ (X + d) j) = _
    by_cases z : d = D
    · rw [if_pos (by omega), lks_no (fun q hq y => by have := h5 q hq; omega)]
      simp
    · rw [if_neg (by omega)]; exact h6 d j p0 (by omega)
theorem MK.fi (H : MK ε0 μ0 X D L F S ε μ) {d i v : Int} (hd : 0 ≤ d ∧ d < D) (he : ε' = efin ε (X + d) i (X + v)) (hF : ∀ q ∈ F, ¬ (q.1 = d ∧ q.2.1 = i)) : MK ε0 μ0 X D L ((d, i, v) :: F) S ε' μ := by
  obtain ⟨⟨x0, d0, h1⟩, h2, h3, h4, h5, h6⟩ := H
  subst he
  refine ⟨⟨x0, d0, h1⟩, fun b hb => ?_, h3, fun q hq => ?_, h5, h6⟩
  · obtain ⟨e1, e2, e3, e4⟩ := h2 b hb
    refine ⟨e1, e2, fun j => ?_, e4⟩
    show st (fn ε) (X + d) i (X + v) b j = _
    rw [sx_oa (by omega)]; exact e3 j
  · rcases List.mem_cons.mp hq with z | z
    · subst z
      refine ⟨hd, ?_⟩
      show st (fn ε) (X + d) i (X + v) (X + d) i = _
      rw [sx_same]
    · obtain ⟨k0, k1⟩ := h4 q z
      refine ⟨k0, ?_⟩
      show st (fn ε) (X + d) i (X + v) (X + q.1) q.2.1 = _
      rw [st, if_neg (fun y => hF q z ⟨by omega, y.2⟩)]; exact k1
theorem MK.st' (H : MK ε0 μ0 X D L F S ε μ) {d j w r v : Int} (hd : 0 ≤ d ∧ d < D) (hm : μ' = st μ (X + d) j w) (hw : w = r * X + v) : MK ε0 μ0 X D L F ((d, j, r, v) :: S) ε μ' := by
  obtain ⟨x0, h2, h3, h4, h5, h6⟩ := H
  subst hm
  refine ⟨x0, fun b hb => ?_, h3, h4, fun q hq => ?_, fun d' j' p0 p1 => ?_⟩
  · obtain ⟨e1, e2, e3, e4⟩ := h2 b hb
    exact ⟨e1, e2, e3, fun j => by rw [sx_oa (by omega)]; exact e4 j⟩
  · rcases List.mem_cons.mp hq with z | z
    · subst z; exact hd
    · exact h5 q z
  · show st μ (X + d) j w (X + d') j' = (if d' = d ∧ j' = j then (r, v) else lks S d' j').1 * X + (if d' = d ∧ j' = j then (r, v) else lks S d' j').2
    by_cases z : d' = d ∧ j' = j
    · rw [if_pos z, z.1, z.2, sx_same]; exact hw
    · rw [if_neg z, st, if_neg (fun y => z ⟨by omega, y.2⟩)]; exact h6 d' j' p0 p1
theorem MK.k (H : MK ε0 μ0 X D L F S ε μ) (i : Nat) {d k n : Int} (h : L[i]? = some (d, k, n)) : kd ε (X + d) = k := (H.2.2.1 _ (List.mem_of_getElem? h)).2.1
theorem MK.n (H : MK ε0 μ0 X D L F S ε μ) (i : Nat) {d k n : Int} (h : L[i]? = some (d, k, n)) : ln ε (X + d) = n := (H.2.2.1 _ (List.mem_of_getElem? h)).2.2
theorem MK.pos (H : MK ε0 μ0 X D L F S ε μ) {d : Int} (h : 0 ≤ d) : 0 < X + d := by have := H.1.1; omega
theorem mk_X11 {Q Y : m_Po} (H : MK ε0 μ0 X D L F S ε μ) (hD : D' = D + 1) {d : Int} (hd : 0 ≤ d ∧ d < D) (hk : kd ε (X + d) = 10) (hF : ∀ q ∈ F, ¬ (q.1 = d ∧ q.2.1 = 0)) (hh : ∀ ε' μ', MK ε0 μ0 X D' ((D, 100, 12) :: L) ((d, 0, D) :: F) S ε' μ' → Q 0 ε' μ') : o_X11_init [(2, X + d)] ε μ Q Y := by
  apply e_X11_init
  refine fun _ => ⟨H.pos hd.1, fun a ε1 μ1 ha he hm => ?_⟩
  obtain ⟨ea, H1⟩ := H.al hD ha he hm
  subst ea
  refine ⟨?_, fun ε2 e2 => hh ε2 μ1 (H1.fi ⟨hd.1, by omega⟩ e2 hF)⟩
  rw [he]
  show (if X + d = nx ε then 100 else kd ε (X + d)) = 10
  rw [if_neg (by have := H.1.2.2; omega)]; exact hk
end Mk
def mL10_0 : List (Int × Int × Int) := [(0, 9, 0)]
def mF10_0 : List (Int × Int × Int) := []
def mS10_0 : List (Int × Int × Int × Int) := []
def mL1_0 : List (Int × Int × Int) := [(4, 1, 0), (3, 106, 12), (2, 105, 120), (1, 104, 8), (0, 9, 0)]
def mF1_0 : List (Int × Int × Int) := [(0, 2, 3), (0, 1, 2), (0, 0, 1)]
def mS1_0 : List (Int × Int × Int × Int) := []
def mL1_z : List (Int × Int × Int) := (9, 100, 48) :: (8, 101, 48) :: (7, 101, 48) :: (6, 101, 48) :: (5, 101, 48) :: mL1_0
def mF1_z : List (Int × Int × Int) := (4, 4, 9) :: (4, 3, 8) :: (4, 2, 7) :: (4, 1, 6) :: (4, 0, 5) :: mF1_0
def mS1_z : List (Int × Int × Int × Int) := mS1_0
def mL10_39 : List (Int × Int × Int) := (9, 100, 48) :: (8, 101, 48) :: (7, 101, 48) :: (6, 101, 48) :: (5, 101, 48) :: (4, 1, 0) :: (3, 106, 12) :: (2, 105, 120) :: (1, 104, 8) :: mL10_0
def mF10_39 : List (Int × Int × Int) := (4, 4, 9) :: (4, 3, 8) :: (4, 2, 7) :: (4, 1, 6) :: (4, 0, 5) :: (0, 2, 3) :: (0, 1, 2) :: (0, 0, 1) :: mF10_0
def mS10_39 : List (Int × Int × Int × Int) := mS10_0
def mL2_0 : List (Int × Int × Int) := [(10, 2, 0), (9, 100, 48), (8, 101, 48), (7, 101, 48), (6, 101, 48), (5, 101, 48), (4, 1, 0), (3, 106, 12), (2, 105, 120), (1, 104, 8), (0, 9, 0)]
def mF2_0 : List (Int × Int × Int) := [(0, 3, 4), (4, 4, 9), (4, 3, 8), (4, 2, 7), (4, 1, 6), (4, 0, 5), (0, 2, 3), (0, 1, 2), (0, 0, 1)]
def mS2_0 : List (Int × Int × Int × Int) := []
def mL2_34 : List (Int × Int × Int) := (14, 8, 0) :: (13, 101, 3) :: (12, 101, 9) :: (11, 100, 3) :: mL2_0
def mF2_34 : List (Int × Int × Int) := (10, 2, 13) :: (10, 1, 12) :: (10, 0, 11) :: mF2_0
def mS2_34 : List (Int × Int × Int × Int) := mS2_0
def mL2_z : List (Int × Int × Int) := mL2_34
def mF2_z : List (Int × Int × Int) := (10, 3, 14) :: mF2_34
def mS2_z : List (Int × Int × Int × Int) := mS2_34
def mL10_50 : List (Int × Int × Int) := (14, 8, 0) :: (13, 101, 3) :: (12, 101, 9) :: (11, 100, 3) :: (10, 2, 0) :: mL10_39
def mF10_50 : List (Int × Int × Int) := (10, 3, 14) :: (10, 2, 13) :: (10, 1, 12) :: (10, 0, 11) :: (0, 3, 4) :: mF10_39
def mS10_50 : List (Int × Int × Int × Int) := mS10_39
def mL3_0 : List (Int × Int × Int) := [(15, 3, 0), (14, 8, 0), (13, 101, 3), (12, 101, 9), (11, 100, 3), (10, 2, 0), (9, 100, 48), (8, 101, 48), (7, 101, 48), (6, 101, 48), (5, 101, 48), (4, 1, 0), (3, 106, 12), (2, 105, 120), (1, 104, 8), (0, 9, 0)]
def mF3_0 : List (Int × Int × Int) := [(0, 4, 10), (10, 3, 14), (10, 2, 13), (10, 1, 12), (10, 0, 11), (0, 3, 4), (4, 4, 9), (4, 3, 8), (4, 2, 7), (4, 1, 6), (4, 0, 5), (0, 2, 3), (0, 1, 2), (0, 0, 1)]
def mS3_0 : List (Int × Int × Int × Int) := []
def mL3_35 : List (Int × Int × Int) := (19, 8, 0) :: (18, 101, 2304) :: (17, 101, 4) :: (16, 100, 4) :: mL3_0
def mF3_35 : List (Int × Int × Int) := (15, 2, 18) :: (15, 1, 17) :: (15, 0, 16) :: mF3_0
def mS3_35 : List (Int × Int × Int × Int) := mS3_0
def mL3_z : List (Int × Int × Int) := mL3_35
def mF3_z : List (Int × Int × Int) := (15, 3, 19) :: mF3_35
def mS3_z : List (Int × Int × Int × Int) := mS3_35
def mL10_61 : List (Int × Int × Int) := (19, 8, 0) :: (18, 101, 2304) :: (17, 101, 4) :: (16, 100, 4) :: (15, 3, 0) :: mL10_50
def mF10_61 : List (Int × Int × Int) := (15, 3, 19) :: (15, 2, 18) :: (15, 1, 17) :: (15, 0, 16) :: (0, 4, 10) :: mF10_50
def mS10_61 : List (Int × Int × Int × Int) := mS10_50
def mL8_0 : List (Int × Int × Int) := [(20, 7, 0), (19, 8, 0), (18, 101, 2304), (17, 101, 4), (16, 100, 4), (15, 3, 0), (14, 8, 0), (13, 101, 3), (12, 101, 9), (11, 100, 3), (10, 2, 0), (9, 100, 48), (8, 101, 48), (7, 101, 48), (6, 101, 48), (5, 101, 48), (4, 1, 0), (3, 106, 12), (2, 105, 120), (1, 104, 8), (0, 9, 0)]
def mF8_0 : List (Int × Int × Int) := [(0, 5, 15), (15, 3, 19), (15, 2, 18), (15, 1, 17), (15, 0, 16), (0, 4, 10), (10, 3, 14), (10, 2, 13), (10, 1, 12), (10, 0, 11), (0, 3, 4), (4, 4, 9), (4, 3, 8), (4, 2, 7), (4, 1, 6), (4, 0, 5), (0, 2, 3), (0, 1, 2), (0, 0, 1)]
def mS8_0 : List (Int × Int × Int × Int) := []
def mL8_64 : List (Int × Int × Int) := (28, 8, 0) :: (27, 101, 4) :: (26, 100, 4) :: (25, 100, 2) :: (24, 100, 96) :: (23, 101, 2) :: (22, 101, 6) :: (21, 101, 6) :: mL8_0
def mF8_64 : List (Int × Int × Int) := (20, 6, 27) :: (20, 5, 26) :: (20, 4, 25) :: (20, 3, 24) :: (20, 2, 23) :: (20, 1, 22) :: (20, 0, 21) :: mF8_0
def mS8_64 : List (Int × Int × Int × Int) := mS8_0
def mL8_z : List (Int × Int × Int) := mL8_64
def mF8_z : List (Int × Int × Int) := (20, 7, 28) :: mF8_64
def mS8_z : List (Int × Int × Int × Int) := mS8_64
def mL10_72 : List (Int × Int × Int) := (28, 8, 0) :: (27, 101, 4) :: (26, 100, 4) :: (25, 100, 2) :: (24, 100, 96) :: (23, 101, 2) :: (22, 101, 6) :: (21, 101, 6) :: (20, 7, 0) :: mL10_61
def mF10_72 : List (Int × Int × Int) := (20, 7, 28) :: (20, 6, 27) :: (20, 5, 26) :: (20, 4, 25) :: (20, 3, 24) :: (20, 2, 23) :: (20, 1, 22) :: (20, 0, 21) :: (0, 5, 15) :: mF10_61
def mS10_72 : List (Int × Int × Int × Int) := mS10_61
def mL4_0 : List (Int × Int × Int) := [(29, 4, 0), (28, 8, 0), (27, 101, 4), (26, 100, 4), (25, 100, 2), (24, 100, 96), (23, 101, 2), (22, 101, 6), (21, 101, 6), (20, 7, 0), (19, 8, 0), (18, 101, 2304), (17, 101, 4), (16, 100, 4), (15, 3, 0), (14, 8, 0), (13, 101, 3), (12, 101, 9), (11, 100, 3), (10, 2, 0), (9, 100, 48), (8, 101, 48), (7, 101, 48), (6, 101, 48), (5, 101, 48), (4, 1, 0), (3, 106, 12), (2, 105, 120), (1, 104, 8), (0, 9, 0)]
def mF4_0 : List (Int × Int × Int) := [(0, 6, 20), (20, 7, 28), (20, 6, 27), (20, 5, 26), (20, 4, 25), (20, 3, 24), (20, 2, 23), (20, 1, 22), (20, 0, 21), (0, 5, 15), (15, 3, 19), (15, 2, 18), (15, 1, 17), (15, 0, 16), (0, 4, 10), (10, 3, 14), (10, 2, 13), (10, 1, 12), (10, 0, 11), (0, 3, 4), (4, 4, 9), (4, 3, 8), (4, 2, 7), (4, 1, 6), (4, 0, 5), (0, 2, 3), (0, 1, 2), (0, 0, 1)]
def mS4_0 : List (Int × Int × Int × Int) := []
def mL4_28 : List (Int × Int × Int) := (32, 8, 0) :: (31, 102, 80) :: (30, 102, 80) :: mL4_0
def mF4_28 : List (Int × Int × Int) := (29, 1, 31) :: (29, 0, 30) :: mF4_0
def mS4_28 : List (Int × Int × Int × Int) := mS4_0
def mL4_z : List (Int × Int × Int) := mL4_28
def mF4_z : List (Int × Int × Int) := (29, 2, 32) :: mF4_28
def mS4_z : List (Int × Int × Int × Int) := mS4_28
def mL10_83 : List (Int × Int × Int) := (32, 8, 0) :: (31, 102, 80) :: (30, 102, 80) :: (29, 4, 0) :: mL10_72
def mF10_83 : List (Int × Int × Int) := (29, 2, 32) :: (29, 1, 31) :: (29, 0, 30) :: (0, 6, 20) :: mF10_72
def mS10_83 : List (Int × Int × Int × Int) := mS10_72
def mL10_z : List (Int × Int × Int) := (33, 103, 100) :: mL10_83
def mF10_z : List (Int × Int × Int) := (0, 8, 33) :: (0, 7, 29) :: mF10_83
def mS10_z : List (Int × Int × Int × Int) := (0, 11, 0, 0) :: (0, 10, 0, 0) :: (0, 9, 0, 0) :: mS10_83
def mL12_0 : List (Int × Int × Int) := [(34, 11, 0), (33, 103, 100), (32, 8, 0), (31, 102, 80), (30, 102, 80), (29, 4, 0), (28, 8, 0), (27, 101, 4), (26, 100, 4), (25, 100, 2), (24, 100, 96), (23, 101, 2), (22, 101, 6), (21, 101, 6), (20, 7, 0), (19, 8, 0), (18, 101, 2304), (17, 101, 4), (16, 100, 4), (15, 3, 0), (14, 8, 0), (13, 101, 3), (12, 101, 9), (11, 100, 3), (10, 2, 0), (9, 100, 48), (8, 101, 48), (7, 101, 48), (6, 101, 48), (5, 101, 48), (4, 1, 0), (3, 106, 12), (2, 105, 120), (1, 104, 8), (0, 9, 0)]
def mF12_0 : List (Int × Int × Int) := [(0, 8, 33), (0, 7, 29), (29, 2, 32), (29, 1, 31), (29, 0, 30), (0, 6, 20), (20, 7, 28), (20, 6, 27), (20, 5, 26), (20, 4, 25), (20, 3, 24), (20, 2, 23), (20, 1, 22), (20, 0, 21), (0, 5, 15), (15, 3, 19), (15, 2, 18), (15, 1, 17), (15, 0, 16), (0, 4, 10), (10, 3, 14), (10, 2, 13), (10, 1, 12), (10, 0, 11), (0, 3, 4), (4, 4, 9), (4, 3, 8), (4, 2, 7), (4, 1, 6), (4, 0, 5), (0, 2, 3), (0, 1, 2), (0, 0, 1)]
def mS12_0 : List (Int × Int × Int × Int) := [(0, 11, 0, 0), (0, 10, 0, 0), (0, 9, 0, 0)]
def mL12_264 : List (Int × Int × Int) := (67, 100, 12) :: (66, 10, 0) :: (65, 107, 4) :: (64, 100, 48) :: (63, 101, 48) :: (62, 101, 48) :: (61, 101, 48) :: (60, 101, 48) :: (59, 100, 44) :: (58, 100, 12) :: (57, 100, 12) :: (56, 100, 72) :: (55, 100, 72) :: (54, 100, 72) :: (53, 100, 12) :: (52, 100, 96) :: (51, 103, 24) :: (50, 100, 120) :: (49, 100, 12) :: (48, 100, 12) :: (47, 100, 12) :: (46, 101, 240) :: (45, 101, 240) :: (44, 100, 120) :: (43, 100, 120) :: (42, 100, 120) :: (41, 100, 1440) :: (40, 100, 1440) :: (39, 100, 120) :: (38, 100, 120) :: (37, 100, 12800) :: (36, 100, 320) :: (35, 100, 8) :: mL12_0
def mF12_264 : List (Int × Int × Int) := (66, 0, 67) :: (34, 34, 64) :: (34, 33, 63) :: (34, 32, 62) :: (34, 31, 61) :: (34, 30, 60) :: (34, 28, 59) :: (34, 26, 58) :: (34, 25, 57) :: (34, 24, 56) :: (34, 23, 55) :: (34, 22, 54) :: (34, 21, 53) :: (34, 20, 52) :: (34, 19, 51) :: (34, 18, 50) :: (34, 17, 49) :: (34, 16, 48) :: (34, 15, 47) :: (34, 13, 46) :: (34, 12, 45) :: (34, 11, 44) :: (34, 10, 43) :: (34, 9, 42) :: (34, 8, 41) :: (34, 7, 40) :: (34, 6, 39) :: (34, 5, 38) :: (34, 3, 37) :: (34, 2, 36) :: (34, 1, 35) :: mF12_0
def mS12_264 : List (Int × Int × Int × Int) := mS12_0
def mL12_274 : List (Int × Int × Int) := (69, 100, 12) :: (68, 10, 0) :: mL12_264
def mF12_274 : List (Int × Int × Int) := (68, 0, 69) :: mF12_264
def mS12_274 : List (Int × Int × Int × Int) := (65, 0, 1, 66) :: mS12_264
def mL12_284 : List (Int × Int × Int) := (71, 100, 12) :: (70, 10, 0) :: mL12_274
def mF12_284 : List (Int × Int × Int) := (70, 0, 71) :: mF12_274
def mS12_284 : List (Int × Int × Int × Int) := (65, 1, 1, 68) :: mS12_274
def mL12_294 : List (Int × Int × Int) := (73, 100, 12) :: (72, 10, 0) :: mL12_284
def mF12_294 : List (Int × Int × Int) := (72, 0, 73) :: mF12_284
def mS12_294 : List (Int × Int × Int × Int) := (65, 2, 1, 70) :: mS12_284
def mL12_306 : List (Int × Int × Int) := (75, 100, 12) :: (74, 10, 0) :: mL12_294
def mF12_306 : List (Int × Int × Int) := (74, 0, 75) :: (34, 36, 65) :: mF12_294
def mS12_306 : List (Int × Int × Int × Int) := (65, 3, 1, 72) :: mS12_294
def mL12_317 : List (Int × Int × Int) := (77, 100, 12) :: (76, 10, 0) :: mL12_306
def mF12_317 : List (Int × Int × Int) := (76, 0, 77) :: (34, 37, 74) :: mF12_306
def mS12_317 : List (Int × Int × Int × Int) := mS12_306
def mL12_362 : List (Int × Int × Int) := (83, 100, 12) :: (82, 10, 0) :: (81, 107, 6) :: (80, 101, 700) :: (79, 101, 700) :: (78, 101, 700) :: mL12_317
def mF12_362 : List (Int × Int × Int) := (82, 0, 83) :: (34, 41, 80) :: (34, 40, 79) :: (34, 39, 78) :: (34, 38, 76) :: mF12_317
def mS12_362 : List (Int × Int × Int × Int) := mS12_317
def mL12_372 : List (Int × Int × Int) := (85, 100, 12) :: (84, 10, 0) :: mL12_362
def mF12_372 : List (Int × Int × Int) := (84, 0, 85) :: mF12_362
def mS12_372 : List (Int × Int × Int × Int) := (81, 0, 1, 82) :: mS12_362
def mL12_382 : List (Int × Int × Int) := (87, 100, 12) :: (86, 10, 0) :: mL12_372
def mF12_382 : List (Int × Int × Int) := (86, 0, 87) :: mF12_372
def mS12_382 : List (Int × Int × Int × Int) := (81, 1, 1, 84) :: mS12_372
def mL12_392 : List (Int × Int × Int) := (89, 100, 12) :: (88, 10, 0) :: mL12_382
def mF12_392 : List (Int × Int × Int) := (88, 0, 89) :: mF12_382
def mS12_392 : List (Int × Int × Int × Int) := (81, 2, 1, 86) :: mS12_382
def mL12_402 : List (Int × Int × Int) := (91, 100, 12) :: (90, 10, 0) :: mL12_392
def mF12_402 : List (Int × Int × Int) := (90, 0, 91) :: mF12_392
def mS12_402 : List (Int × Int × Int × Int) := (81, 3, 1, 88) :: mS12_392
def mL12_412 : List (Int × Int × Int) := (93, 100, 12) :: (92, 10, 0) :: mL12_402
def mF12_412 : List (Int × Int × Int) := (92, 0, 93) :: mF12_402
def mS12_412 : List (Int × Int × Int × Int) := (81, 4, 1, 90) :: mS12_402
def mL12_431 : List (Int × Int × Int) := (96, 100, 12) :: (95, 10, 0) :: (94, 107, 6) :: mL12_412
def mF12_431 : List (Int × Int × Int) := (95, 0, 96) :: (34, 50, 81) :: mF12_412
def mS12_431 : List (Int × Int × Int × Int) := (81, 5, 1, 92) :: mS12_412
def mL12_441 : List (Int × Int × Int) := (98, 100, 12) :: (97, 10, 0) :: mL12_431
def mF12_441 : List (Int × Int × Int) := (97, 0, 98) :: mF12_431
def mS12_441 : List (Int × Int × Int × Int) := (94, 0, 1, 95) :: mS12_431
def mL12_451 : List (Int × Int × Int) := (100, 100, 12) :: (99, 10, 0) :: mL12_441
def mF12_451 : List (Int × Int × Int) := (99, 0, 100) :: mF12_441
def mS12_451 : List (Int × Int × Int × Int) := (94, 1, 1, 97) :: mS12_441
def mL12_461 : List (Int × Int × Int) := (102, 100, 12) :: (101, 10, 0) :: mL12_451
def mF12_461 : List (Int × Int × Int) := (101, 0, 102) :: mF12_451
def mS12_461 : List (Int × Int × Int × Int) := (94, 2, 1, 99) :: mS12_451
def mL12_471 : List (Int × Int × Int) := (104, 100, 12) :: (103, 10, 0) :: mL12_461
def mF12_471 : List (Int × Int × Int) := (103, 0, 104) :: mF12_461
def mS12_471 : List (Int × Int × Int × Int) := (94, 3, 1, 101) :: mS12_461
def mL12_481 : List (Int × Int × Int) := (106, 100, 12) :: (105, 10, 0) :: mL12_471
def mF12_481 : List (Int × Int × Int) := (105, 0, 106) :: mF12_471
def mS12_481 : List (Int × Int × Int × Int) := (94, 4, 1, 103) :: mS12_471
def mL12_500 : List (Int × Int × Int) := (109, 100, 12) :: (108, 10, 0) :: (107, 107, 7) :: mL12_481
def mF12_500 : List (Int × Int × Int) := (108, 0, 109) :: (34, 51, 94) :: mF12_481
def mS12_500 : List (Int × Int × Int × Int) := (94, 5, 1, 105) :: mS12_481
def mL12_510 : List (Int × Int × Int) := (111, 100, 12) :: (110, 10, 0) :: mL12_500
def mF12_510 : List (Int × Int × Int) := (110, 0, 111) :: mF12_500
def mS12_510 : List (Int × Int × Int × Int) := (107, 0, 1, 108) :: mS12_500
def mL12_520 : List (Int × Int × Int) := (113, 100, 12) :: (112, 10, 0) :: mL12_510
def mF12_520 : List (Int × Int × Int) := (112, 0, 113) :: mF12_510
def mS12_520 : List (Int × Int × Int × Int) := (107, 1, 1, 110) :: mS12_510
def mL12_530 : List (Int × Int × Int) := (115, 100, 12) :: (114, 10, 0) :: mL12_520
def mF12_530 : List (Int × Int × Int) := (114, 0, 115) :: mF12_520
def mS12_530 : List (Int × Int × Int × Int) := (107, 2, 1, 112) :: mS12_520
def mL12_540 : List (Int × Int × Int) := (117, 100, 12) :: (116, 10, 0) :: mL12_530
def mF12_540 : List (Int × Int × Int) := (116, 0, 117) :: mF12_530
def mS12_540 : List (Int × Int × Int × Int) := (107, 3, 1, 114) :: mS12_530
def mL12_550 : List (Int × Int × Int) := (119, 100, 12) :: (118, 10, 0) :: mL12_540
def mF12_550 : List (Int × Int × Int) := (118, 0, 119) :: mF12_540
def mS12_550 : List (Int × Int × Int × Int) := (107, 4, 1, 116) :: mS12_540
def mL12_561 : List (Int × Int × Int) := (121, 100, 12) :: (120, 10, 0) :: mL12_550
def mF12_561 : List (Int × Int × Int) := (120, 0, 121) :: mF12_550
def mS12_561 : List (Int × Int × Int × Int) := (107, 5, 1, 118) :: mS12_550
def mL12_601 : List (Int × Int × Int) := (127, 100, 12) :: (126, 10, 0) :: (125, 107, 5) :: (124, 100, 4) :: (123, 100, 2) :: (122, 100, 96) :: mL12_561
def mF12_601 : List (Int × Int × Int) := (126, 0, 127) :: (34, 57, 124) :: (34, 56, 123) :: (34, 55, 122) :: (34, 52, 107) :: mF12_561
def mS12_601 : List (Int × Int × Int × Int) := (107, 6, 1, 120) :: mS12_561
def mL12_611 : List (Int × Int × Int) := (129, 100, 12) :: (128, 10, 0) :: mL12_601
def mF12_611 : List (Int × Int × Int) := (128, 0, 129) :: mF12_601
def mS12_611 : List (Int × Int × Int × Int) := (125, 0, 1, 126) :: mS12_601
def mL12_621 : List (Int × Int × Int) := (131, 100, 12) :: (130, 10, 0) :: mL12_611
def mF12_621 : List (Int × Int × Int) := (130, 0, 131) :: mF12_611
def mS12_621 : List (Int × Int × Int × Int) := (125, 1, 1, 128) :: mS12_611
def mL12_631 : List (Int × Int × Int) := (133, 100, 12) :: (132, 10, 0) :: mL12_621
def mF12_631 : List (Int × Int × Int) := (132, 0, 133) :: mF12_621
def mS12_631 : List (Int × Int × Int × Int) := (125, 2, 1, 130) :: mS12_621
def mL12_641 : List (Int × Int × Int) := (135, 100, 12) :: (134, 10, 0) :: mL12_631
def mF12_641 : List (Int × Int × Int) := (134, 0, 135) :: mF12_631
def mS12_641 : List (Int × Int × Int × Int) := (125, 3, 1, 132) :: mS12_631
def mL12_z : List (Int × Int × Int) := (140, 100, 100) :: (139, 100, 10) :: (138, 102, 400) :: (137, 100, 4) :: (136, 101, 4) :: mL12_641
def mF12_z : List (Int × Int × Int) := (34, 65, 140) :: (34, 64, 139) :: (34, 62, 138) :: (34, 61, 137) :: (34, 60, 136) :: (34, 58, 125) :: mF12_641
def mS12_z : List (Int × Int × Int × Int) := (34, 66, 0, -1) :: (125, 4, 1, 134) :: mS12_641
theorem mkc_X1 {Q Y : m_Po} {ε0 ε : m_E} {μ0 μ : m_M} {X : Int} (hh : ∀ ε μ, MK ε0 μ0 X 10 mL1_z mF1_z mS1_z ε μ → Q 0 ε μ) (H : MK ε0 μ0 X 5 mL1_0 mF1_0 mS1_0 ε μ) : o_X1_init [(2, X + 4)] ε μ Q Y := by
  apply e_X1_init
  intro _
  refine ⟨H.pos (by decide), ?_⟩
  intro a ε μ ha he hm
  obtain ⟨ea, H⟩ := MK.al (D' := 6) H (by decide) ha he hm
  clear ha he hm
  subst ea
  refine ⟨H.k 1 rfl, ?_⟩
  intro ε he
  replace H := MK.fi (d := 4) (i := 0) (v := 5) H (by decide) he (by decide +kernel)
  clear he
  intro a ε μ ha he hm
  obtain ⟨ea, H⟩ := MK.al (D' := 7) H (by decide) ha he hm
  clear ha he hm
  subst ea
  refine ⟨H.k 2 rfl, ?_⟩
  intro ε he
  replace H := MK.fi (d := 4) (i := 1) (v := 6) H (by decide) he (by decide +kernel)
  clear he
  intro a ε μ ha he hm
  obtain ⟨ea, H⟩ := MK.al (D' := 8) H (by decide) ha he hm
  clear ha he hm
  subst ea
  refine ⟨H.k 3 rfl, ?_⟩
  intro ε he
  replace H := MK.fi (d := 4) (i := 2) (v := 7) H (by decide) he (by decide +kernel)
  clear he
  intro a ε μ ha he hm
  obtain ⟨ea, H⟩ := MK.al (D' := 9) H (by decide) ha he hm
  clear ha he hm
  subst ea
  refine ⟨H.k 4 rfl, ?_⟩
  intro ε he
  replace H := MK.fi (d := 4) (i := 3) (v := 8) H (by decide) he (by decide +kernel)
  clear he
  intro a ε μ ha he hm
  obtain ⟨ea, H⟩ := MK.al (D' := 10) H (by decide) ha he hm
  clear ha he hm
  subst ea
  refine ⟨H.k 5 rfl, ?_⟩
  intro ε he
  replace H := MK.fi (d := 4) (i := 4) (v := 9) H (by decide) he (by decide +kernel)
  clear he
  exact hh _ _ H
theorem mk2_34 {Q Y : m_Po} {ε0 ε : m_E} {μ0 μ : m_M} {X : Int} (hh : ∀ ε μ, MK ε0 μ0 X 15 mL2_z mF2_z mS2_z ε μ → Q 0 ε μ) (H : MK ε0 μ0 X 15 mL2_34 mF2_34 mS2_34 ε μ) : G cd_X2_init Q Y 34 [] [(2, X + 14), (2, X + 10)] ε μ := by
  apply g_X2_init_34
  intro _
  refine ⟨H.k 4 rfl, ?_⟩
  intro ε he
  replace H := MK.fi (d := 10) (i := 3) (v := 14) H (by decide) he (by decide +kernel)
  clear he
  exact hh _ _ H
theorem mkc_X2 {Q Y : m_Po} {ε0 ε : m_E} {μ0 μ : m_M} {X : Int} (hh : ∀ ε μ, MK ε0 μ0 X 15 mL2_z mF2_z mS2_z ε μ → Q 0 ε μ) (H : MK ε0 μ0 X 11 mL2_0 mF2_0 mS2_0 ε μ) : o_X2_init [(2, X + 10)] ε μ Q Y := by
  apply e_X2_init
  intro _
  refine ⟨H.pos (by decide), ?_⟩
  intro a ε μ ha he hm
  obtain ⟨ea, H⟩ := MK.al (D' := 12) H (by decide) ha he hm
  clear ha he hm
  subst ea
  refine ⟨H.k 1 rfl, ?_⟩
  intro ε he
  replace H := MK.fi (d := 10) (i := 0) (v := 11) H (by decide) he (by decide +kernel)
  clear he
  intro a ε μ ha he hm
  obtain ⟨ea, H⟩ := MK.al (D' := 13) H (by decide) ha he hm
  clear ha he hm
  subst ea
  refine ⟨H.k 2 rfl, ?_⟩
  intro ε he
  replace H := MK.fi (d := 10) (i := 1) (v := 12) H (by decide) he (by decide +kernel)
  clear he
  intro a ε μ ha he hm
  obtain ⟨ea, H⟩ := MK.al (D' := 14) H (by decide) ha he hm
  clear ha he hm
  subst ea
  refine ⟨H.k 3 rfl, ?_⟩
  intro ε he
  replace H := MK.fi (d := 10) (i := 2) (v := 13) H (by decide) he (by decide +kernel)
  clear he
  intro a ε μ ha he hm
  obtain ⟨ea, H⟩ := MK.al (D' := 15) H (by decide) ha he hm
  clear ha he hm
  subst ea
  refine ⟨H.k 0 rfl, ?_⟩
  apply e_X9_init
  refine fun _ => ⟨H.pos (by decide), ?_⟩
  exact mk2_34 hh H
theorem mk3_35 {Q Y : m_Po} {ε0 ε : m_E} {μ0 μ : m_M} {X : Int} (hh : ∀ ε μ, MK ε0 μ0 X 20 mL3_z mF3_z mS3_z ε μ → Q 0 ε μ) (H : MK ε0 μ0 X 20 mL3_35 mF3_35 mS3_35 ε μ) : G cd_X3_init Q Y 35 [] [(2, X + 19), (2, X + 15)] ε μ := by
  apply g_X3_init_35
  intro _
  refine ⟨H.k 4 rfl, ?_⟩
  intro ε he
  replace H := MK.fi (d := 15) (i := 3) (v := 19) H (by decide) he (by decide +kernel)
  clear he
  exact hh _ _ H
theorem mkc_X3 {Q Y : m_Po} {ε0 ε : m_E} {μ0 μ : m_M} {X : Int} (hh : ∀ ε μ, MK ε0 μ0 X 20 mL3_z mF3_z mS3_z ε μ → Q 0 ε μ) (H : MK ε0 μ0 X 16 mL3_0 mF3_0 mS3_0 ε μ) : o_X3_init [(2, X + 15)] ε μ Q Y := by
  apply e_X3_init
  intro _
  refine ⟨H.pos (by decide), ?_⟩
  intro a ε μ ha he hm
  obtain ⟨ea, H⟩ := MK.al (D' := 17) H (by decide) ha he hm
  clear ha he hm
  subst ea
  refine ⟨H.k 1 rfl, ?_⟩
  intro ε he
  replace H := MK.fi (d := 15) (i := 0) (v := 16) H (by decide) he (by decide +kernel)
  clear he
  intro a ε μ ha he hm
  obtain ⟨ea, H⟩ := MK.al (D' := 18) H (by decide) ha he hm
  clear ha he hm
  subst ea
  refine ⟨H.k 2 rfl, ?_⟩
  intro ε he
  replace H := MK.fi (d := 15) (i := 1) (v := 17) H (by decide) he (by decide +kernel)
  clear he
  intro a ε μ ha he hm
  obtain ⟨ea, H⟩ := MK.al (D' := 19) H (by decide) ha he hm
  clear ha he hm
  subst ea
  refine ⟨H.k 3 rfl, ?_⟩
  intro ε he
  replace H := MK.fi (d := 15) (i := 2) (v := 18) H (by decide) he (by decide +kernel)
  clear he
  intro a ε μ ha he hm
  obtain ⟨ea, H⟩ := MK.al (D' := 20) H (by decide) ha he hm
  clear ha he hm
  subst ea
  refine ⟨H.k 0 rfl, ?_⟩
  apply e_X9_init
  refine fun _ => ⟨H.pos (by decide), ?_⟩
  exact mk3_35 hh H
theorem mk8_64 {Q Y : m_Po} {ε0 ε : m_E} {μ0 μ : m_M} {X : Int} (hh : ∀ ε μ, MK ε0 μ0 X 29 mL8_z mF8_z mS8_z ε μ → Q 0 ε μ) (H : MK ε0 μ0 X 29 mL8_64 mF8_64 mS8_64 ε μ) : G cd_X8_init Q Y 64 [] [(2, X + 28), (2, X + 20)] ε μ := by
  apply g_X8_init_64
  intro _
  refine ⟨H.k 8 rfl, ?_⟩
  intro ε he
  replace H := MK.fi (d := 20) (i := 7) (v := 28) H (by decide) he (by decide +kernel)
  clear he
  exact hh _ _ H
theorem mkc_X8 {Q Y : m_Po} {ε0 ε : m_E} {μ0 μ : m_M} {X : Int} (hh : ∀ ε μ, MK ε0 μ0 X 29 mL8_z mF8_z mS8_z ε μ → Q 0 ε μ) (H : MK ε0 μ0 X 21 mL8_0 mF8_0 mS8_0 ε μ) : o_X8_init [(2, X + 20)] ε μ Q Y := by
  apply e_X8_init
  intro _
  refine ⟨H.pos (by decide), ?_⟩
  intro a ε μ ha he hm
  obtain ⟨ea, H⟩ := MK.al (D' := 22) H (by decide) ha he hm
  clear ha he hm
  subst ea
  refine ⟨H.k 1 rfl, ?_⟩
  intro ε he
  replace H := MK.fi (d := 20) (i := 0) (v := 21) H (by decide) he (by decide +kernel)
  clear he
  intro a ε μ ha he hm
  obtain ⟨ea, H⟩ := MK.al (D' := 23) H (by decide) ha he hm
  clear ha he hm
  subst ea
  refine ⟨H.k 2 rfl, ?_⟩
  intro ε he
  replace H := MK.fi (d := 20) (i := 1) (v := 22) H (by decide) he (by decide +kernel)
  clear he
  intro a ε μ ha he hm
  obtain ⟨ea, H⟩ := MK.al (D' := 24) H (by decide) ha he hm
  clear ha he hm
  subst ea
  refine ⟨H.k 3 rfl, ?_⟩
  intro ε he
  replace H := MK.fi (d := 20) (i := 2) (v := 23) H (by decide) he (by decide +kernel)
  clear he
  intro a ε μ ha he hm
  obtain ⟨ea, H⟩ := MK.al (D' := 25) H (by decide) ha he hm
  clear ha he hm
  subst ea
  refine ⟨H.k 4 rfl, ?_⟩
  intro ε he
  replace H := MK.fi (d := 20) (i := 3) (v := 24) H (by decide) he (by decide +kernel)
  clear he
  intro a ε μ ha he hm
  obtain ⟨ea, H⟩ := MK.al (D' := 26) H (by decide) ha he hm
  clear ha he hm
  subst ea
  refine ⟨H.k 5 rfl, ?_⟩
  intro ε he
  replace H := MK.fi (d := 20) (i := 4) (v := 25) H (by decide) he (by decide +kernel)
  clear he
  intro a ε μ ha he hm
  obtain ⟨ea, H⟩ := MK.al (D' := 27) H (by decide) ha he hm
  clear ha he hm
  subst ea
  refine ⟨H.k 6 rfl, ?_⟩
  intro ε he
  replace H := MK.fi (d := 20) (i := 5) (v := 26) H (by decide) he (by decide +kernel)
  clear he
  intro a ε μ ha he hm
  obtain ⟨ea, H⟩ := MK.al (D' := 28) H (by decide) ha he hm
  clear ha he hm
  subst ea
  refine ⟨H.k 7 rfl, ?_⟩
  intro ε he
  replace H := MK.fi (d := 20) (i := 6) (v := 27) H (by decide) he (by decide +kernel)
  clear he
  intro a ε μ ha he hm
  obtain ⟨ea, H⟩ := MK.al (D' := 29) H (by decide) ha he hm
  clear ha he hm
  subst ea
  refine ⟨H.k 0 rfl, ?_⟩
  apply e_X9_init
  refine fun _ => ⟨H.pos (by decide), ?_⟩
  exact mk8_64 hh H
theorem mk4_28 {Q Y : m_Po} {ε0 ε : m_E} {μ0 μ : m_M} {X : Int} (hh : ∀ ε μ, MK ε0 μ0 X 33 mL4_z mF4_z mS4_z ε μ → Q 0 ε μ) (H : MK ε0 μ0 X 33 mL4_28 mF4_28 mS4_28 ε μ) : G cd_X4_init Q Y 28 [] [(2, X + 32), (2, X + 29)] ε μ := by
  apply g_X4_init_28
  intro _
  refine ⟨H.k 3 rfl, ?_⟩
  intro ε he
  replace H := MK.fi (d := 29) (i := 2) (v := 32) H (by decide) he (by decide +kernel)
  clear he
  exact hh _ _ H
theorem mkc_X4 {Q Y : m_Po} {ε0 ε : m_E} {μ0 μ : m_M} {X : Int} (hh : ∀ ε μ, MK ε0 μ0 X 33 mL4_z mF4_z mS4_z ε μ → Q 0 ε μ) (H : MK ε0 μ0 X 30 mL4_0 mF4_0 mS4_0 ε μ) : o_X4_init [(2, X + 29)] ε μ Q Y := by
  apply e_X4_init
  intro _
  refine ⟨H.pos (by decide), ?_⟩
  intro a ε μ ha he hm
  obtain ⟨ea, H⟩ := MK.al (D' := 31) H (by decide) ha he hm
  clear ha he hm
  subst ea
  refine ⟨H.k 1 rfl, ?_⟩
  intro ε he
  replace H := MK.fi (d := 29) (i := 0) (v := 30) H (by decide) he (by decide +kernel)
  clear he
  intro a ε μ ha he hm
  obtain ⟨ea, H⟩ := MK.al (D' := 32) H (by decide) ha he hm
  clear ha he hm
  subst ea
  refine ⟨H.k 2 rfl, ?_⟩
  intro ε he
  replace H := MK.fi (d := 29) (i := 1) (v := 31) H (by decide) he (by decide +kernel)
  clear he
  intro a ε μ ha he hm
  obtain ⟨ea, H⟩ := MK.al (D' := 33) H (by decide) ha he hm
  clear ha he hm
  subst ea
  refine ⟨H.k 0 rfl, ?_⟩
  apply e_X9_init
  refine fun _ => ⟨H.pos (by decide), ?_⟩
  exact mk4_28 hh H
theorem mk10_83 {Q Y : m_Po} {ε0 ε : m_E} {μ0 μ : m_M} {X : Int} (hh : ∀ ε μ, MK ε0 μ0 X 34 mL10_z mF10_z mS10_z ε μ → Q 0 ε μ) (H : MK ε0 μ0 X 33 mL10_83 mF10_83 mS10_83 ε μ) : G cd_X10_init Q Y 83 [(0, (2, X + 0))] [(2, X + 29), (2, X + 0)] ε μ := by
  apply g_X10_init_83
  intro _
  refine ⟨H.k 32 rfl, ?_⟩
  intro ε he
  replace H := MK.fi (d := 0) (i := 7) (v := 29) H (by decide) he (by decide +kernel)
  clear he
  intro a ε μ ha he hm
  obtain ⟨ea, H⟩ := MK.al (D' := 34) H (by decide) ha he hm
  clear ha he hm
  subst ea
  refine ⟨H.k 33 rfl, ?_⟩
  intro ε he
  replace H := MK.fi (d := 0) (i := 8) (v := 33) H (by decide) he (by decide +kernel)
  clear he
  refine ⟨H.k 33 rfl, ?_⟩
  intro μ hm
  replace H := MK.st' (d := 0) (j := 9) (r := 0) (v := 0) H (by decide) hm (by omega)
  clear hm
  intro μ hm
  replace H := MK.st' (d := 0) (j := 10) (r := 0) (v := 0) H (by decide) hm (by omega)
  clear hm
  intro μ hm
  replace H := MK.st' (d := 0) (j := 11) (r := 0) (v := 0) H (by decide) hm (by omega)
  clear hm
  exact hh _ _ H
theorem mk10_72 {Q Y : m_Po} {ε0 ε : m_E} {μ0 μ : m_M} {X : Int} (hh : ∀ ε μ, MK ε0 μ0 X 34 mL10_z mF10_z mS10_z ε μ → Q 0 ε μ) (H : MK ε0 μ0 X 29 mL10_72 mF10_72 mS10_72 ε μ) : G cd_X10_init Q Y 72 [(0, (2, X + 0))] [(2, X + 20), (2, X + 0)] ε μ := by
  apply g_X10_init_72
  intro _
  refine ⟨H.k 28 rfl, ?_⟩
  intro ε he
  replace H := MK.fi (d := 0) (i := 6) (v := 20) H (by decide) he (by decide +kernel)
  clear he
  intro a ε μ ha he hm
  obtain ⟨ea, H⟩ := MK.al (D' := 30) H (by decide) ha he hm
  clear ha he hm
  subst ea
  refine ⟨H.k 0 rfl, ?_⟩
  refine mkc_X4 (fun ε μ H => ?_) H
  exact mk10_83 hh H
theorem mk10_61 {Q Y : m_Po} {ε0 ε : m_E} {μ0 μ : m_M} {X : Int} (hh : ∀ ε μ, MK ε0 μ0 X 34 mL10_z mF10_z mS10_z ε μ → Q 0 ε μ) (H : MK ε0 μ0 X 20 mL10_61 mF10_61 mS10_61 ε μ) : G cd_X10_init Q Y 61 [(0, (2, X + 0))] [(2, X + 15), (2, X + 0)] ε μ := by
  apply g_X10_init_61
  intro _
  refine ⟨H.k 19 rfl, ?_⟩
  intro ε he
  replace H := MK.fi (d := 0) (i := 5) (v := 15) H (by decide) he (by decide +kernel)
  clear he
  intro a ε μ ha he hm
  obtain ⟨ea, H⟩ := MK.al (D' := 21) H (by decide) ha he hm
  clear ha he hm
  subst ea
  refine ⟨H.k 0 rfl, ?_⟩
  refine mkc_X8 (fun ε μ H => ?_) H
  exact mk10_72 hh H
theorem mk10_50 {Q Y : m_Po} {ε0 ε : m_E} {μ0 μ : m_M} {X : Int} (hh : ∀ ε μ, MK ε0 μ0 X 34 mL10_z mF10_z mS10_z ε μ → Q 0 ε μ) (H : MK ε0 μ0 X 15 mL10_50 mF10_50 mS10_50 ε μ) : G cd_X10_init Q Y 50 [(0, (2, X + 0))] [(2, X + 10), (2, X + 0)] ε μ := by
  apply g_X10_init_50
  intro _
  refine ⟨H.k 14 rfl, ?_⟩
  intro ε he
  replace H := MK.fi (d := 0) (i := 4) (v := 10) H (by decide) he (by decide +kernel)
  clear he
  intro a ε μ ha he hm
  obtain ⟨ea, H⟩ := MK.al (D' := 16) H (by decide) ha he hm
  clear ha he hm
  subst ea
  refine ⟨H.k 0 rfl, ?_⟩
  refine mkc_X3 (fun ε μ H => ?_) H
  exact mk10_61 hh H
theorem mk10_39 {Q Y : m_Po} {ε0 ε : m_E} {μ0 μ : m_M} {X : Int} (hh : ∀ ε μ, MK ε0 μ0 X 34 mL10_z mF10_z mS10_z ε μ → Q 0 ε μ) (H : MK ε0 μ0 X 10 mL10_39 mF10_39 mS10_39 ε μ) : G cd_X10_init Q Y 39 [(0, (2, X + 0))] [(2, X + 4), (2, X + 0)] ε μ := by
  apply g_X10_init_39
  intro _
  refine ⟨H.k 9 rfl, ?_⟩
  intro ε he
  replace H := MK.fi (d := 0) (i := 3) (v := 4) H (by decide) he (by decide +kernel)
  clear he
  intro a ε μ ha he hm
  obtain ⟨ea, H⟩ := MK.al (D' := 11) H (by decide) ha he hm
  clear ha he hm
  subst ea
  refine ⟨H.k 0 rfl, ?_⟩
  refine mkc_X2 (fun ε μ H => ?_) H
  exact mk10_50 hh H
theorem mkc_X10 {Q Y : m_Po} {ε0 ε : m_E} {μ0 μ : m_M} {X : Int} (hh : ∀ ε μ, MK ε0 μ0 X 34 mL10_z mF10_z mS10_z ε μ → Q 0 ε μ) (H : MK ε0 μ0 X 1 mL10_0 mF10_0 mS10_0 ε μ) : o_X10_init [(2, X + 0)] ε μ Q Y := by
  apply e_X10_init
  intro _
  refine ⟨H.pos (by decide), ?_⟩
  intro a ε μ ha he hm
  obtain ⟨ea, H⟩ := MK.al (D' := 2) H (by decide) ha he hm
  clear ha he hm
  subst ea
  refine ⟨H.k 1 rfl, ?_⟩
  intro ε he
  replace H := MK.fi (d := 0) (i := 0) (v := 1) H (by decide) he (by decide +kernel)
  clear he
  intro a ε μ ha he hm
  obtain ⟨ea, H⟩ := MK.al (D' := 3) H (by decide) ha he hm
  clear ha he hm
  subst ea
  refine ⟨H.k 2 rfl, ?_⟩
  intro ε he
  replace H := MK.fi (d := 0) (i := 1) (v := 2) H (by decide) he (by decide +kernel)
  clear he
  intro a ε μ ha he hm
  obtain ⟨ea, H⟩ := MK.al (D' := 4) H (by decide) ha he hm
  clear ha he hm
  subst ea
  refine ⟨H.k 3 rfl, ?_⟩
  intro ε he
  replace H := MK.fi (d := 0) (i := 2) (v := 3) H (by decide) he (by decide +kernel)
  clear he
  intro a ε μ ha he hm
  obtain ⟨ea, H⟩ := MK.al (D' := 5) H (by decide) ha he hm
  clear ha he hm
  subst ea
  refine ⟨H.k 0 rfl, ?_⟩
  refine mkc_X1 (fun ε μ H => ?_) H
  exact mk10_39 hh H
