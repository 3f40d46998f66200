/-! ===== layout of the static objects (by layout.py) ===== -/
def LT (ε : m_E) (a k : Int) (T : List (Int × Int × Int × Int)) : Prop := kd ε a = k ∧ ∀ q ∈ T, fn ε a q.1 = a + q.2.1 ∧ kd ε (a + q.2.1) = q.2.2.1 ∧ ln ε (a + q.2.1) = q.2.2.2
/-- a later world: what had a kind is as it was -/
def EX (ε ε' : m_E) : Prop := ∀ a, 0 ≤ kd ε a → kd ε' a = kd ε a ∧ ln ε' a = ln ε a ∧ ∀ i, fn ε' a i = fn ε a i
theorem EX.rf {ε : m_E} : EX ε ε := fun _ _ => ⟨rfl, rfl, fun _ => rfl⟩
theorem EX.trans {ε ε' ε'' : m_E} (h : EX ε ε') (k : EX ε' ε'') : EX ε ε'' := fun a ha => by
  obtain ⟨h1, h2, h3⟩ := h a ha
  obtain ⟨k1, k2, k3⟩ := k a (by rw [h1]; exact ha)
  exact ⟨k1.trans h1, k2.trans h2, fun i => (k3 i).trans (h3 i)⟩
theorem LT.ex {ε ε' : m_E} {a k : Int} {T : List (Int × Int × Int × Int)} (hk : 0 ≤ k) (hT : ∀ q ∈ T, 0 ≤ q.2.2.1) (h : LT ε a k T) (e : EX ε ε') : LT ε' a k T := by
  obtain ⟨h1, h2⟩ := h
  obtain ⟨e1, e2, e3⟩ := e a (by rw [h1]; exact hk)
  refine ⟨e1.trans h1, fun q hq => ?_⟩
  obtain ⟨q1, q2, q3⟩ := h2 q hq
  obtain ⟨f1, f2, f3⟩ := e (a + q.2.1) (by rw [q2]; exact hT q hq)
  exact ⟨(e3 _).trans q1, f1.trans q2, f2.trans q3⟩
def LB_t : List (Int × Int × Int × Int) := [(0, 1, 101, 48), (1, 2, 101, 48), (2, 3, 101, 48), (3, 4, 101, 48), (4, 5, 100, 48)]
def LB (ε : m_E) (a : Int) : Prop := LT ε a 1 LB_t
theorem LB.k {ε : m_E} {a : Int} (h : LB ε a) : kd ε a = 1 := h.1
theorem LB.ex {ε ε' : m_E} {a : Int} (h : LB ε a) (e : EX ε ε') : LB ε' a := LT.ex (by decide) (by decide) h e
theorem LB.f0 {ε : m_E} {a : Int} (h : LB ε a) : fn ε a 0 = a + 1 ∧ kd ε (a + 1) = 101 ∧ ln ε (a + 1) = 48 := h.2 (0, 1, 101, 48) (List.mem_of_getElem? (i := 0) rfl)
theorem LB.f1 {ε : m_E} {a : Int} (h : LB ε a) : fn ε a 1 = a + 2 ∧ kd ε (a + 2) = 101 ∧ ln ε (a + 2) = 48 := h.2 (1, 2, 101, 48) (List.mem_of_getElem? (i := 1) rfl)
theorem LB.f2 {ε : m_E} {a : Int} (h : LB ε a) : fn ε a 2 = a + 3 ∧ kd ε (a + 3) = 101 ∧ ln ε (a + 3) = 48 := h.2 (2, 3, 101, 48) (List.mem_of_getElem? (i := 2) rfl)
theorem LB.f3 {ε : m_E} {a : Int} (h : LB ε a) : fn ε a 3 = a + 4 ∧ kd ε (a + 4) = 101 ∧ ln ε (a + 4) = 48 := h.2 (3, 4, 101, 48) (List.mem_of_getElem? (i := 3) rfl)
theorem LB.f4 {ε : m_E} {a : Int} (h : LB ε a) : fn ε a 4 = a + 5 ∧ kd ε (a + 5) = 100 ∧ ln ε (a + 5) = 48 := h.2 (4, 5, 100, 48) (List.mem_of_getElem? (i := 4) rfl)
def LC_t : List (Int × Int × Int × Int) := [(0, 1, 100, 3), (1, 2, 101, 9), (2, 3, 101, 3), (3, 4, 8, 0)]
def LC (ε : m_E) (a : Int) : Prop := LT ε a 2 LC_t
theorem LC.k {ε : m_E} {a : Int} (h : LC ε a) : kd ε a = 2 := h.1
theorem LC.ex {ε ε' : m_E} {a : Int} (h : LC ε a) (e : EX ε ε') : LC ε' a := LT.ex (by decide) (by decide) h e
theorem LC.f0 {ε : m_E} {a : Int} (h : LC ε a) : fn ε a 0 = a + 1 ∧ kd ε (a + 1) = 100 ∧ ln ε (a + 1) = 3 := h.2 (0, 1, 100, 3) (List.mem_of_getElem? (i := 0) rfl)
theorem LC.f1 {ε : m_E} {a : Int} (h : LC ε a) : fn ε a 1 = a + 2 ∧ kd ε (a + 2) = 101 ∧ ln ε (a + 2) = 9 := h.2 (1, 2, 101, 9) (List.mem_of_getElem? (i := 1) rfl)
theorem LC.f2 {ε : m_E} {a : Int} (h : LC ε a) : fn ε a 2 = a + 3 ∧ kd ε (a + 3) = 101 ∧ ln ε (a + 3) = 3 := h.2 (2, 3, 101, 3) (List.mem_of_getElem? (i := 2) rfl)
theorem LC.f3 {ε : m_E} {a : Int} (h : LC ε a) : fn ε a 3 = a + 4 ∧ kd ε (a + 4) = 8 ∧ ln ε (a + 4) = 0 := h.2 (3, 4, 8, 0) (List.mem_of_getElem? (i := 3) rfl)
def LN_t : List (Int × Int × Int × Int) := [(0, 1, 100, 4), (1, 2, 101, 4), (2, 3, 101, 2304), (3, 4, 8, 0)]
def LN (ε : m_E) (a : Int) : Prop := LT ε a 3 LN_t
theorem LN.k {ε : m_E} {a : Int} (h : LN ε a) : kd ε a = 3 := h.1
theorem LN.ex {ε ε' : m_E} {a : Int} (h : LN ε a) (e : EX ε ε') : LN ε' a := LT.ex (by decide) (by decide) h e
theorem LN.f0 {ε : m_E} {a : Int} (h : LN ε a) : fn ε a 0 = a + 1 ∧ kd ε (a + 1) = 100 ∧ ln ε (a + 1) = 4 := h.2 (0, 1, 100, 4) (List.mem_of_getElem? (i := 0) rfl)
theorem LN.f1 {ε : m_E} {a : Int} (h : LN ε a) : fn ε a 1 = a + 2 ∧ kd ε (a + 2) = 101 ∧ ln ε (a + 2) = 4 := h.2 (1, 2, 101, 4) (List.mem_of_getElem? (i := 1) rfl)
theorem LN.f2 {ε : m_E} {a : Int} (h : LN ε a) : fn ε a 2 = a + 3 ∧ kd ε (a + 3) = 101 ∧ ln ε (a + 3) = 2304 := h.2 (2, 3, 101, 2304) (List.mem_of_getElem? (i := 2) rfl)
theorem LN.f3 {ε : m_E} {a : Int} (h : LN ε a) : fn ε a 3 = a + 4 ∧ kd ε (a + 4) = 8 ∧ ln ε (a + 4) = 0 := h.2 (3, 4, 8, 0) (List.mem_of_getElem? (i := 3) rfl)
def LV_t : List (Int × Int × Int × Int) := [(0, 1, 101, 6), (1, 2, 101, 6), (2, 3, 101, 2), (3, 4, 100, 96), (4, 5, 100, 2), (5, 6, 100, 4), (6, 7, 101, 4), (7, 8, 8, 0)]
def LV (ε : m_E) (a : Int) : Prop := LT ε a 7 LV_t
theorem LV.k {ε : m_E} {a : Int} (h : LV ε a) : kd ε a = 7 := h.1
theorem LV.ex {ε ε' : m_E} {a : Int} (h : LV ε a) (e : EX ε ε') : LV ε' a := LT.ex (by decide) (by decide) h e
theorem LV.f0 {ε : m_E} {a : Int} (h : LV ε a) : fn ε a 0 = a + 1 ∧ kd ε (a + 1) = 101 ∧ ln ε (a + 1) = 6 := h.2 (0, 1, 101, 6) (List.mem_of_getElem? (i := 0) rfl)
theorem LV.f1 {ε : m_E} {a : Int} (h : LV ε a) : fn ε a 1 = a + 2 ∧ kd ε (a + 2) = 101 ∧ ln ε (a + 2) = 6 := h.2 (1, 2, 101, 6) (List.mem_of_getElem? (i := 1) rfl)
theorem LV.f2 {ε : m_E} {a : Int} (h : LV ε a) : fn ε a 2 = a + 3 ∧ kd ε (a + 3) = 101 ∧ ln ε (a + 3) = 2 := h.2 (2, 3, 101, 2) (List.mem_of_getElem? (i := 2) rfl)
theorem LV.f3 {ε : m_E} {a : Int} (h : LV ε a) : fn ε a 3 = a + 4 ∧ kd ε (a + 4) = 100 ∧ ln ε (a + 4) = 96 := h.2 (3, 4, 100, 96) (List.mem_of_getElem? (i := 3) rfl)
theorem LV.f4 {ε : m_E} {a : Int} (h : LV ε a) : fn ε a 4 = a + 5 ∧ kd ε (a + 5) = 100 ∧ ln ε (a + 5) = 2 := h.2 (4, 5, 100, 2) (List.mem_of_getElem? (i := 4) rfl)
theorem LV.f5 {ε : m_E} {a : Int} (h : LV ε a) : fn ε a 5 = a + 6 ∧ kd ε (a + 6) = 100 ∧ ln ε (a + 6) = 4 := h.2 (5, 6, 100, 4) (List.mem_of_getElem? (i := 5) rfl)
theorem LV.f6 {ε : m_E} {a : Int} (h : LV ε a) : fn ε a 6 = a + 7 ∧ kd ε (a + 7) = 101 ∧ ln ε (a + 7) = 4 := h.2 (6, 7, 101, 4) (List.mem_of_getElem? (i := 6) rfl)
theorem LV.f7 {ε : m_E} {a : Int} (h : LV ε a) : fn ε a 7 = a + 8 ∧ kd ε (a + 8) = 8 ∧ ln ε (a + 8) = 0 := h.2 (7, 8, 8, 0) (List.mem_of_getElem? (i := 7) rfl)
def LPg_t : List (Int × Int × Int × Int) := [(0, 1, 102, 80), (1, 2, 102, 80), (2, 3, 8, 0)]
def LPg (ε : m_E) (a : Int) : Prop := LT ε a 4 LPg_t
theorem LPg.k {ε : m_E} {a : Int} (h : LPg ε a) : kd ε a = 4 := h.1
theorem LPg.ex {ε ε' : m_E} {a : Int} (h : LPg ε a) (e : EX ε ε') : LPg ε' a := LT.ex (by decide) (by decide) h e
theorem LPg.f0 {ε : m_E} {a : Int} (h : LPg ε a) : fn ε a 0 = a + 1 ∧ kd ε (a + 1) = 102 ∧ ln ε (a + 1) = 80 := h.2 (0, 1, 102, 80) (List.mem_of_getElem? (i := 0) rfl)
theorem LPg.f1 {ε : m_E} {a : Int} (h : LPg ε a) : fn ε a 1 = a + 2 ∧ kd ε (a + 2) = 102 ∧ ln ε (a + 2) = 80 := h.2 (1, 2, 102, 80) (List.mem_of_getElem? (i := 1) rfl)
theorem LPg.f2 {ε : m_E} {a : Int} (h : LPg ε a) : fn ε a 2 = a + 3 ∧ kd ε (a + 3) = 8 ∧ ln ε (a + 3) = 0 := h.2 (2, 3, 8, 0) (List.mem_of_getElem? (i := 2) rfl)
def LR_t : List (Int × Int × Int × Int) := [(1, 1, 100, 40), (2, 2, 100, 1600)]
def LR (ε : m_E) (a : Int) : Prop := LT ε a 5 LR_t
theorem LR.k {ε : m_E} {a : Int} (h : LR ε a) : kd ε a = 5 := h.1
theorem LR.ex {ε ε' : m_E} {a : Int} (h : LR ε a) (e : EX ε ε') : LR ε' a := LT.ex (by decide) (by decide) h e
theorem LR.f1 {ε : m_E} {a : Int} (h : LR ε a) : fn ε a 1 = a + 1 ∧ kd ε (a + 1) = 100 ∧ ln ε (a + 1) = 40 := h.2 (1, 1, 100, 40) (List.mem_of_getElem? (i := 0) rfl)
theorem LR.f2 {ε : m_E} {a : Int} (h : LR ε a) : fn ε a 2 = a + 2 ∧ kd ε (a + 2) = 100 ∧ ln ε (a + 2) = 1600 := h.2 (2, 2, 100, 1600) (List.mem_of_getElem? (i := 1) rfl)
def LY_t : List (Int × Int × Int × Int) := [(0, 1, 104, 8), (1, 2, 105, 120), (2, 3, 106, 12), (3, 4, 1, 0), (4, 10, 2, 0), (5, 15, 3, 0), (6, 20, 7, 0), (7, 29, 4, 0), (8, 33, 103, 100)]
def LY (ε : m_E) (a : Int) : Prop := LT ε a 9 LY_t
theorem LY.k {ε : m_E} {a : Int} (h : LY ε a) : kd ε a = 9 := h.1
theorem LY.ex {ε ε' : m_E} {a : Int} (h : LY ε a) (e : EX ε ε') : LY ε' a := LT.ex (by decide) (by decide) h e
theorem LY.f0 {ε : m_E} {a : Int} (h : LY ε a) : fn ε a 0 = a + 1 ∧ kd ε (a + 1) = 104 ∧ ln ε (a + 1) = 8 := h.2 (0, 1, 104, 8) (List.mem_of_getElem? (i := 0) rfl)
theorem LY.f1 {ε : m_E} {a : Int} (h : LY ε a) : fn ε a 1 = a + 2 ∧ kd ε (a + 2) = 105 ∧ ln ε (a + 2) = 120 := h.2 (1, 2, 105, 120) (List.mem_of_getElem? (i := 1) rfl)
theorem LY.f2 {ε : m_E} {a : Int} (h : LY ε a) : fn ε a 2 = a + 3 ∧ kd ε (a + 3) = 106 ∧ ln ε (a + 3) = 12 := h.2 (2, 3, 106, 12) (List.mem_of_getElem? (i := 2) rfl)
theorem LY.f3 {ε : m_E} {a : Int} (h : LY ε a) : fn ε a 3 = a + 4 ∧ kd ε (a + 4) = 1 ∧ ln ε (a + 4) = 0 := h.2 (3, 4, 1, 0) (List.mem_of_getElem? (i := 3) rfl)
theorem LY.f4 {ε : m_E} {a : Int} (h : LY ε a) : fn ε a 4 = a + 10 ∧ kd ε (a + 10) = 2 ∧ ln ε (a + 10) = 0 := h.2 (4, 10, 2, 0) (List.mem_of_getElem? (i := 4) rfl)
theorem LY.f5 {ε : m_E} {a : Int} (h : LY ε a) : fn ε a 5 = a + 15 ∧ kd ε (a + 15) = 3 ∧ ln ε (a + 15) = 0 := h.2 (5, 15, 3, 0) (List.mem_of_getElem? (i := 5) rfl)
theorem LY.f6 {ε : m_E} {a : Int} (h : LY ε a) : fn ε a 6 = a + 20 ∧ kd ε (a + 20) = 7 ∧ ln ε (a + 20) = 0 := h.2 (6, 20, 7, 0) (List.mem_of_getElem? (i := 6) rfl)
theorem LY.f7 {ε : m_E} {a : Int} (h : LY ε a) : fn ε a 7 = a + 29 ∧ kd ε (a + 29) = 4 ∧ ln ε (a + 29) = 0 := h.2 (7, 29, 4, 0) (List.mem_of_getElem? (i := 7) rfl)
theorem LY.f8 {ε : m_E} {a : Int} (h : LY ε a) : fn ε a 8 = a + 33 ∧ kd ε (a + 33) = 103 ∧ ln ε (a + 33) = 100 := h.2 (8, 33, 103, 100) (List.mem_of_getElem? (i := 8) rfl)
def LM_t : List (Int × Int × Int × Int) := [(1, 1, 100, 8), (2, 2, 100, 320), (3, 3, 100, 12800), (5, 4, 100, 120), (6, 5, 100, 120), (7, 6, 100, 1440), (8, 7, 100, 1440), (9, 8, 100, 120), (10, 9, 100, 120), (11, 10, 100, 120), (12, 11, 101, 240), (13, 12, 101, 240), (15, 13, 100, 12), (16, 14, 100, 12), (17, 15, 100, 12), (18, 16, 100, 120), (19, 17, 103, 24), (20, 18, 100, 96), (21, 19, 100, 12), (22, 20, 100, 72), (23, 21, 100, 72), (24, 22, 100, 72), (25, 23, 100, 12), (26, 24, 100, 12), (28, 25, 100, 44), (30, 26, 101, 48), (31, 27, 101, 48), (32, 28, 101, 48), (33, 29, 101, 48), (34, 30, 100, 48), (36, 31, 107, 4), (37, 40, 10, 0), (38, 42, 10, 0), (39, 44, 101, 700), (40, 45, 101, 700), (41, 46, 101, 700), (50, 47, 107, 6), (51, 60, 107, 6), (52, 73, 107, 7), (55, 88, 100, 96), (56, 89, 100, 2), (57, 90, 100, 4), (58, 91, 107, 5), (60, 102, 101, 4), (61, 103, 100, 4), (62, 104, 102, 400), (64, 105, 100, 10), (65, 106, 100, 100)]
def LM (ε : m_E) (a : Int) : Prop := LT ε a 11 LM_t
theorem LM.k {ε : m_E} {a : Int} (h : LM ε a) : kd ε a = 11 := h.1
theorem LM.ex {ε ε' : m_E} {a : Int} (h : LM ε a) (e : EX ε ε') : LM ε' a := LT.ex (by decide) (by decide) h e
theorem LM.f1 {ε : m_E} {a : Int} (h : LM ε a) : fn ε a 1 = a + 1 ∧ kd ε (a + 1) = 100 ∧ ln ε (a + 1) = 8 := h.2 (1, 1, 100, 8) (List.mem_of_getElem? (i := 0) rfl)
theorem LM.f2 {ε : m_E} {a : Int} (h : LM ε a) : fn ε a 2 = a + 2 ∧ kd ε (a + 2) = 100 ∧ ln ε (a + 2) = 320 := h.2 (2, 2, 100, 320) (List.mem_of_getElem? (i := 1) rfl)
theorem LM.f3 {ε : m_E} {a : Int} (h : LM ε a) : fn ε a 3 = a + 3 ∧ kd ε (a + 3) = 100 ∧ ln ε (a + 3) = 12800 := h.2 (3, 3, 100, 12800) (List.mem_of_getElem? (i := 2) rfl)
theorem LM.f5 {ε : m_E} {a : Int} (h : LM ε a) : fn ε a 5 = a + 4 ∧ kd ε (a + 4) = 100 ∧ ln ε (a + 4) = 120 := h.2 (5, 4, 100, 120) (List.mem_of_getElem? (i := 3) rfl)
theorem LM.f6 {ε : m_E} {a : Int} (h : LM ε a) : fn ε a 6 = a + 5 ∧ kd ε (a + 5) = 100 ∧ ln ε (a + 5) = 120 := h.2 (6, 5, 100, 120) (List.mem_of_getElem? (i := 4) rfl)
theorem LM.f7 {ε : m_E} {a : Int} (h : LM ε a) : fn ε a 7 = a + 6 ∧ kd ε (a + 6) = 100 ∧ ln ε (a + 6) = 1440 := h.2 (7, 6, 100, 1440) (List.mem_of_getElem? (i := 5) rfl)
theorem LM.f8 {ε : m_E} {a : Int} (h : LM ε a) : fn ε a 8 = a + 7 ∧ kd ε (a + 7) = 100 ∧ ln ε (a + 7) = 1440 := h.2 (8, 7, 100, 1440) (List.mem_of_getElem? (i := 6) rfl)
theorem LM.f9 {ε : m_E} {a : Int} (h : LM ε a) : fn ε a 9 = a + 8 ∧ kd ε (a + 8) = 100 ∧ ln ε (a + 8) = 120 := h.2 (9, 8, 100, 120) (List.mem_of_getElem? (i := 7) rfl)
theorem LM.f10 {ε : m_E} {a : Int} (h : LM ε a) : fn ε a 10 = a + 9 ∧ kd ε (a + 9) = 100 ∧ ln ε (a + 9) = 120 := h.2 (10, 9, 100, 120) (List.mem_of_getElem? (i := 8) rfl)
theorem LM.f11 {ε : m_E} {a : Int} (h : LM ε a) : fn ε a 11 = a + 10 ∧ kd ε (a + 10) = 100 ∧ ln ε (a + 10) = 120 := h.2 (11, 10, 100, 120) (List.mem_of_getElem? (i := 9) rfl)
theorem LM.f12 {ε : m_E} {a : Int} (h : LM ε a) : fn ε a 12 = a + 11 ∧ kd ε (a + 11) = 101 ∧ ln ε (a + 11) = 240 := h.2 (12, 11, 101, 240) (List.mem_of_getElem? (i := 10) rfl)
theorem LM.f13 {ε : m_E} {a : Int} (h : LM ε a) : fn ε a 13 = a + 12 ∧ kd ε (a + 12) = 101 ∧ ln ε (a + 12) = 240 := h.2 (13, 12, 101, 240) (List.mem_of_getElem? (i := 11) rfl)
theorem LM.f15 {ε : m_E} {a : Int} (h : LM ε a) : fn ε a 15 = a + 13 ∧ kd ε (a + 13) = 100 ∧ ln ε (a + 13) = 12 := h.2 (15, 13, 100, 12) (List.mem_of_getElem? (i := 12) rfl)
theorem LM.f16 {ε : m_E} {a : Int} (h : LM ε a) : fn ε a 16 = a + 14 ∧ kd ε (a + 14) = 100 ∧ ln ε (a + 14) = 12 := h.2 (16, 14, 100, 12) (List.mem_of_getElem? (i := 13) rfl)
theorem LM.f17 {ε : m_E} {a : Int} (h : LM ε a) : fn ε a 17 = a + 15 ∧ kd ε (a + 15) = 100 ∧ ln ε (a + 15) = 12 := h.2 (17, 15, 100, 12) (List.mem_of_getElem? (i := 14) rfl)
theorem LM.f18 {ε : m_E} {a : Int} (h : LM ε a) : fn ε a 18 = a + 16 ∧ kd ε (a + 16) = 100 ∧ ln ε (a + 16) = 120 := h.2 (18, 16, 100, 120) (List.mem_of_getElem? (i := 15) rfl)
theorem LM.f19 {ε : m_E} {a : Int} (h : LM ε a) : fn ε a 19 = a + 17 ∧ kd ε (a + 17) = 103 ∧ ln ε (a + 17) = 24 := h.2 (19, 17, 103, 24) (List.mem_of_getElem? (i := 16) rfl)
theorem LM.f20 {ε : m_E} {a : Int} (h : LM ε a) : fn ε a 20 = a + 18 ∧ kd ε (a + 18) = 100 ∧ ln ε (a + 18) = 96 := h.2 (20, 18, 100, 96) (List.mem_of_getElem? (i := 17) rfl)
theorem LM.f21 {ε : m_E} {a : Int} (h : LM ε a) : fn ε a 21 = a + 19 ∧ kd ε (a + 19) = 100 ∧ ln ε (a + 19) = 12 := h.2 (21, 19, 100, 12) (List.mem_of_getElem? (i := 18) rfl)
theorem LM.f22 {ε : m_E} {a : Int} (h : LM ε a) : fn ε a 22 = a + 20 ∧ kd ε (a + 20) = 100 ∧ ln ε (a + 20) = 72 := h.2 (22, 20, 100, 72) (List.mem_of_getElem? (i := 19) rfl)
theorem LM.f23 {ε : m_E} {a : Int} (h : LM ε a) : fn ε a 23 = a + 21 ∧ kd ε (a + 21) = 100 ∧ ln ε (a + 21) = 72 := h.2 (23, 21, 100, 72) (List.mem_of_getElem? (i := 20) rfl)
theorem LM.f24 {ε : m_E} {a : Int} (h : LM ε a) : fn ε a 24 = a + 22 ∧ kd ε (a + 22) = 100 ∧ ln ε (a + 22) = 72 := h.2 (24, 22, 100, 72) (List.mem_of_getElem? (i := 21) rfl)
theorem LM.f25 {ε : m_E} {a : Int} (h : LM ε a) : fn ε a 25 = a + 23 ∧ kd ε (a + 23) = 100 ∧ ln ε (a + 23) = 12 := h.2 (25, 23, 100, 12) (List.mem_of_getElem? (i := 22) rfl)
theorem LM.f26 {ε : m_E} {a : Int} (h : LM ε a) : fn ε a 26 = a + 24 ∧ kd ε (a + 24) = 100 ∧ ln ε (a + 24) = 12 := h.2 (26, 24, 100, 12) (List.mem_of_getElem? (i := 23) rfl)
theorem LM.f28 {ε : m_E} {a : Int} (h : LM ε a) : fn ε a 28 = a + 25 ∧ kd ε (a + 25) = 100 ∧ ln ε (a + 25) = 44 := h.2 (28, 25, 100, 44) (List.mem_of_getElem? (i := 24) rfl)
theorem LM.f30 {ε : m_E} {a : Int} (h : LM ε a) : fn ε a 30 = a + 26 ∧ kd ε (a + 26) = 101 ∧ ln ε (a + 26) = 48 := h.2 (30, 26, 101, 48) (List.mem_of_getElem? (i := 25) rfl)
theorem LM.f31 {ε : m_E} {a : Int} (h : LM ε a) : fn ε a 31 = a + 27 ∧ kd ε (a + 27) = 101 ∧ ln ε (a + 27) = 48 := h.2 (31, 27, 101, 48) (List.mem_of_getElem? (i := 26) rfl)
theorem LM.f32 {ε : m_E} {a : Int} (h : LM ε a) : fn ε a 32 = a + 28 ∧ kd ε (a + 28) = 101 ∧ ln ε (a + 28) = 48 := h.2 (32, 28, 101, 48) (List.mem_of_getElem? (i := 27) rfl)
theorem LM.f33 {ε : m_E} {a : Int} (h : LM ε a) : fn ε a 33 = a + 29 ∧ kd ε (a + 29) = 101 ∧ ln ε (a + 29) = 48 := h.2 (33, 29, 101, 48) (List.mem_of_getElem? (i := 28) rfl)
theorem LM.f34 {ε : m_E} {a : Int} (h : LM ε a) : fn ε a 34 = a + 30 ∧ kd ε (a + 30) = 100 ∧ ln ε (a + 30) = 48 := h.2 (34, 30, 100, 48) (List.mem_of_getElem? (i := 29) rfl)
theorem LM.f36 {ε : m_E} {a : Int} (h : LM ε a) : fn ε a 36 = a + 31 ∧ kd ε (a + 31) = 107 ∧ ln ε (a + 31) = 4 := h.2 (36, 31, 107, 4) (List.mem_of_getElem? (i := 30) rfl)
theorem LM.f37 {ε : m_E} {a : Int} (h : LM ε a) : fn ε a 37 = a + 40 ∧ kd ε (a + 40) = 10 ∧ ln ε (a + 40) = 0 := h.2 (37, 40, 10, 0) (List.mem_of_getElem? (i := 31) rfl)
theorem LM.f38 {ε : m_E} {a : Int} (h : LM ε a) : fn ε a 38 = a + 42 ∧ kd ε (a + 42) = 10 ∧ ln ε (a + 42) = 0 := h.2 (38, 42, 10, 0) (List.mem_of_getElem? (i := 32) rfl)
theorem LM.f39 {ε : m_E} {a : Int} (h : LM ε a) : fn ε a 39 = a + 44 ∧ kd ε (a + 44) = 101 ∧ ln ε (a + 44) = 700 := h.2 (39, 44, 101, 700) (List.mem_of_getElem? (i := 33) rfl)
theorem LM.f40 {ε : m_E} {a : Int} (h : LM ε a) : fn ε a 40 = a + 45 ∧ kd ε (a + 45) = 101 ∧ ln ε (a + 45) = 700 := h.2 (40, 45, 101, 700) (List.mem_of_getElem? (i := 34) rfl)
theorem LM.f41 {ε : m_E} {a : Int} (h : LM ε a) : fn ε a 41 = a + 46 ∧ kd ε (a + 46) = 101 ∧ ln ε (a + 46) = 700 := h.2 (41, 46, 101, 700) (List.mem_of_getElem? (i := 35) rfl)
theorem LM.f50 {ε : m_E} {a : Int} (h : LM ε a) : fn ε a 50 = a + 47 ∧ kd ε (a + 47) = 107 ∧ ln ε (a + 47) = 6 := h.2 (50, 47, 107, 6) (List.mem_of_getElem? (i := 36) rfl)
theorem LM.f51 {ε : m_E} {a : Int} (h : LM ε a) : fn ε a 51 = a + 60 ∧ kd ε (a + 60) = 107 ∧ ln ε (a + 60) = 6 := h.2 (51, 60, 107, 6) (List.mem_of_getElem? (i := 37) rfl)
theorem LM.f52 {ε : m_E} {a : Int} (h : LM ε a) : fn ε a 52 = a + 73 ∧ kd ε (a + 73) = 107 ∧ ln ε (a + 73) = 7 := h.2 (52, 73, 107, 7) (List.mem_of_getElem? (i := 38) rfl)
theorem LM.f55 {ε : m_E} {a : Int} (h : LM ε a) : fn ε a 55 = a + 88 ∧ kd ε (a + 88) = 100 ∧ ln ε (a + 88) = 96 := h.2 (55, 88, 100, 96) (List.mem_of_getElem? (i := 39) rfl)
theorem LM.f56 {ε : m_E} {a : Int} (h : LM ε a) : fn ε a 56 = a + 89 ∧ kd ε (a + 89) = 100 ∧ ln ε (a + 89) = 2 := h.2 (56, 89, 100, 2) (List.mem_of_getElem? (i := 40) rfl)
theorem LM.f57 {ε : m_E} {a : Int} (h : LM ε a) : fn ε a 57 = a + 90 ∧ kd ε (a + 90) = 100 ∧ ln ε (a + 90) = 4 := h.2 (57, 90, 100, 4) (List.mem_of_getElem? (i := 41) rfl)
theorem LM.f58 {ε : m_E} {a : Int} (h : LM ε a) : fn ε a 58 = a + 91 ∧ kd ε (a + 91) = 107 ∧ ln ε (a + 91) = 5 := h.2 (58, 91, 107, 5) (List.mem_of_getElem? (i := 42) rfl)
theorem LM.f60 {ε : m_E} {a : Int} (h : LM ε a) : fn ε a 60 = a + 102 ∧ kd ε (a + 102) = 101 ∧ ln ε (a + 102) = 4 := h.2 (60, 102, 101, 4) (List.mem_of_getElem? (i := 43) rfl)
theorem LM.f61 {ε : m_E} {a : Int} (h : LM ε a) : fn ε a 61 = a + 103 ∧ kd ε (a + 103) = 100 ∧ ln ε (a + 103) = 4 := h.2 (61, 103, 100, 4) (List.mem_of_getElem? (i := 44) rfl)
theorem LM.f62 {ε : m_E} {a : Int} (h : LM ε a) : fn ε a 62 = a + 104 ∧ kd ε (a + 104) = 102 ∧ ln ε (a + 104) = 400 := h.2 (62, 104, 102, 400) (List.mem_of_getElem? (i := 45) rfl)
theorem LM.f64 {ε : m_E} {a : Int} (h : LM ε a) : fn ε a 64 = a + 105 ∧ kd ε (a + 105) = 100 ∧ ln ε (a + 105) = 10 := h.2 (64, 105, 100, 10) (List.mem_of_getElem? (i := 46) rfl)
theorem LM.f65 {ε : m_E} {a : Int} (h : LM ε a) : fn ε a 65 = a + 106 ∧ kd ε (a + 106) = 100 ∧ ln ε (a + 106) = 100 := h.2 (65, 106, 100, 100) (List.mem_of_getElem? (i := 47) rfl)
/-! the registers: Bigs of the reference, by their distance from it -/
def lm_b : List Int := [32, 34, 36, 38, 40, 42, 48, 50, 52, 54, 56, 58, 61, 63, 65, 67, 69, 71, 74, 76, 78, 80, 82, 84, 86, 92, 94, 96, 98, 100]
def lm_a : List (Int × Int × Int) := [(31, 0, 32), (31, 1, 34), (31, 2, 36), (31, 3, 38), (47, 0, 48), (47, 1, 50), (47, 2, 52), (47, 3, 54), (47, 4, 56), (47, 5, 58), (60, 0, 61), (60, 1, 63), (60, 2, 65), (60, 3, 67), (60, 4, 69), (60, 5, 71), (73, 0, 74), (73, 1, 76), (73, 2, 78), (73, 3, 80), (73, 4, 82), (73, 5, 84), (73, 6, 86), (91, 0, 92), (91, 1, 94), (91, 2, 96), (91, 3, 98), (91, 4, 100)]
def BL (ε : m_E) (M : Int) : Prop := ∀ r ∈ lm_b, bg ε (M + r) (M + r + 1)
def BA (μ : m_M) (M : Int) : Prop := ∀ q ∈ lm_a, μ (M + q.1) q.2.1 = M + q.2.2
def BC (M b : Int) : Prop := ∃ r ∈ lm_b, b = M + r ∨ b = M + r + 1
def FB (M : Int) (μ μ' : m_M) : Prop := ∀ b j, ¬ BC M b → μ' b j = μ b j
theorem FB.rf {M : Int} {μ : m_M} : FB M μ μ := fun _ _ _ => rfl
theorem FB.trans {M : Int} {μ μ' μ'' : m_M} (h : FB M μ μ') (k : FB M μ' μ'') : FB M μ μ'' := fun b j hb => (k b j hb).trans (h b j hb)
def up (R : Int → Int) (r v : Int) : Int → Int := fun s => if s = r then v else R s
theorem up_same {R : Int → Int} {r v : Int} : up R r v r = v := if_pos rfl
theorem up_ne {R : Int → Int} {r v s : Int} (h : s ≠ r) : up R r v s = R s := if_neg h
def RG (ε : m_E) (μ : m_M) (M : Int) (R : Int → Int) : Prop := LM ε M ∧ BL ε M ∧ BA μ M ∧ ∀ r ∈ lm_b, (μ (M + r) 1 = 0 ∨ μ (M + r) 1 = 1) ∧ bv μ (M + r) (M + r + 1) = R r
theorem lm_apart : ∀ r ∈ lm_b, ∀ s ∈ lm_b, s ≠ r → s ≠ r + 1 ∧ s + 1 ≠ r := by decide
theorem lm_arr : ∀ q ∈ lm_a, ∀ r ∈ lm_b, q.1 ≠ r ∧ q.1 ≠ r + 1 := by decide
theorem lm_has : ∀ q ∈ lm_a, q.2.2 ∈ lm_b := by decide
theorem bc_arr {M : Int} {q : Int × Int × Int} (h : q ∈ lm_a) : ¬ BC M (M + q.1) := by
  rintro ⟨r, hr, e⟩
  have := lm_arr q h r hr
  omega
theorem BA.fb {μ μ' : m_M} {M : Int} (h : BA μ M) (f : FB M μ μ') : BA μ' M := fun q hq => by
  rw [f _ _ (bc_arr hq)]; exact h q hq
theorem Ex2.fb {M r : Int} {μ μ' : m_M} (hr : r ∈ lm_b) (h : Ex2 (M + r) (M + r + 1) μ μ') : FB M μ μ' := fun b j hb => h b j (fun e => hb ⟨r, hr, Or.inl e⟩) (fun e => hb ⟨r, hr, Or.inr e⟩)
theorem bv_congr {μ μ' : m_M} {a o : Int} (h1 : μ' a 1 = μ a 1) (h2 : ∀ j, μ' o j = μ o j) : bv μ' a o = bv μ a o := by
  unfold bv
  rw [h1, show mg μ' o = mg μ o from bs_congr 12 (fun k _ _ => by rw [h2])]
theorem RG.after {ε : m_E} {μ μ' : m_M} {M r v : Int} {R : Int → Int} (H : RG ε μ M R) (hr : r ∈ lm_b) (h : Ex2 (M + r) (M + r + 1) μ μ') (hl : μ' (M + r) 1 = 0 ∨ μ' (M + r) 1 = 1) (hv : bv μ' (M + r) (M + r + 1) = v) : RG ε μ' M (up R r v) := by
  obtain ⟨h1, h2, h3, h4⟩ := H
  refine ⟨h1, h2, h3.fb (Ex2.fb hr h), fun s hs => ?_⟩
  by_cases c : s = r
  · subst c
    rw [up_same]
    exact ⟨hl, hv⟩
  · have a := lm_apart r hr s hs c
    rw [up_ne c, h _ _ (by omega) (by omega), bv_congr (h _ _ (by omega) (by omega)) (fun j => h _ _ (by omega) (by omega))]
    exact h4 s hs
theorem rg_abs {ε : m_E} {μ : m_M} {M r : Int} {R : Int → Int} (H : RG ε μ M R) (hr : r ∈ lm_b) : mg μ (M + r + 1) = ((R r).natAbs : Int) := by
  have := (H.2.2.2 r hr).2
  have n : 0 ≤ mg μ (M + r + 1) := (bs_rng (μ (M + r + 1)) 12).1
  unfold bv at this
  split at this <;> omega
theorem rg_sg {ε : m_E} {μ : m_M} {M r : Int} {R : Int → Int} (H : RG ε μ M R) (hr : r ∈ lm_b) : R r = (if μ (M + r) 1 = 0 then ((R r).natAbs : Int) else -((R r).natAbs : Int)) := by
  have := (H.2.2.2 r hr).2
  rw [← rg_abs H hr]
  exact this.symm
theorem rg_set {Q X : m_Po} {ε : m_E} {μ : m_M} {M r v : Int} {R : Int → Int} (H : RG ε μ M R) (hr : r ∈ lm_b) (hv : -9223372036854775808 < v) (h : ∀ μ', RG ε μ' M (up R r v) → FB M μ μ' → Q 0 ε μ') : o_X11_set [(2, M + r), (1, v)] ε μ Q X :=
  sp_X11_set (H.2.1 r hr) hv (fun μ' f l _ e => h μ' (H.after hr f l e) (Ex2.fb hr f))
theorem rg_take {Q X : m_Po} {ε : m_E} {μ : m_M} {M r s : Int} {R : Int → Int} (H : RG ε μ M R) (hr : r ∈ lm_b) (hs : s ∈ lm_b) (h : ∀ μ', RG ε μ' M (up R r (R s)) → FB M μ μ' → Q 0 ε μ') : o_X11_take [(2, M + r), (2, M + s)] ε μ Q X := by
  have A := H.2.1 r hr
  have B := H.2.1 s hs
  refine sp_X11_take A B (H.2.2.2 s hs).1 (kd_ne B.1 A.2.2.1 (by decide)) (fun μ' f e l => h μ' (H.after hr f (by rw [l]; exact (H.2.2.2 s hs).1) ?_) (Ex2.fb hr f))
  rw [← (H.2.2.2 s hs).2]
  unfold bv
  rw [l, e]
theorem rg_sum {Q X : m_Po} {ε : m_E} {μ : m_M} {M r x y m : Int} {R : Int → Int} (H : RG ε μ M R) (hr : r ∈ lm_b) (hx : x ∈ lm_b) (hy : y ∈ lm_b) (hm : m = 0 ∨ m = 1) (hb : ((R x).natAbs : Int) + (R y).natAbs < PB 12) (h : ∀ μ', RG ε μ' M (up R r (if m = 0 then R x + R y else R x - R y)) → FB M μ μ' → Q 0 ε μ') : o_X11_sum [(2, M + r), (2, M + x), (2, M + y), (0, m)] ε μ Q X := by
  refine sp_X11_sum (H.2.1 r hr) (H.2.1 x hx) (H.2.1 y hy) hm (H.2.2.2 x hx).1 (H.2.2.2 y hy).1 (by rw [rg_abs H hx, rg_abs H hy]; exact hb) (fun μ' f l e => h μ' (H.after hr f l ?_) (Ex2.fb hr f))
  rw [e, (H.2.2.2 x hx).2, (H.2.2.2 y hy).2]
theorem rg_prod {Q X : m_Po} {ε : m_E} {μ : m_M} {M r x y : Int} {R : Int → Int} (H : RG ε μ M R) (hr : r ∈ lm_b) (hx : x ∈ lm_b) (hy : y ∈ lm_b) (nx : x ≠ r) (ny : y ≠ r) (hb : ((R x).natAbs : Int) * (R y).natAbs < PB 12) (h : ∀ μ', RG ε μ' M (up R r (R x * R y)) → FB M μ μ' → Q 0 ε μ') : o_X11_product [(2, M + r), (2, M + x), (2, M + y)] ε μ Q X := by
  refine sp_X11_product (H.2.1 r hr) (H.2.1 x hx) (H.2.1 y hy) (by omega) (by omega) (H.2.2.2 x hx).1 (H.2.2.2 y hy).1 (by rw [rg_abs H hx, rg_abs H hy]; exact hb) (fun μ' f l e => h μ' (H.after hr f l ?_) (Ex2.fb hr f))
  rw [e, (H.2.2.2 x hx).2, (H.2.2.2 y hy).2]
theorem rg_cmp {Q X : m_Po} {ε : m_E} {μ : m_M} {M r s : Int} {R : Int → Int} (H : RG ε μ M R) (hr : r ∈ lm_b) (hs : s ∈ lm_b) (h : Q (cp (R r) (R s)) ε μ) : o_X11_compare [(2, M + r), (2, M + s)] ε μ Q X := by
  refine sp_X11_compare (H.2.1 r hr) (H.2.1 s hs) ?_
  rw [(H.2.2.2 r hr).2, (H.2.2.2 s hs).2]
  exact h
theorem rg_sizes {Q X : m_Po} {ε : m_E} {μ : m_M} {M r s : Int} {R : Int → Int} (H : RG ε μ M R) (hr : r ∈ lm_b) (hs : s ∈ lm_b) (h : Q (cp (R r).natAbs (R s).natAbs) ε μ) : o_X11_sizes [(2, M + r), (2, M + s)] ε μ Q X := by
  refine sp_X11_sizes (H.2.1 r hr) (H.2.1 s hs) ?_
  rw [rg_abs H hr, rg_abs H hs]
  exact h
theorem rg_no {Q X : m_Po} {ε : m_E} {μ : m_M} {M r : Int} {R : Int → Int} (H : RG ε μ M R) (hr : r ∈ lm_b) (h : Q (if R r = 0 then 1 else 0) ε μ) : o_X11_isNothing [(2, M + r)] ε μ Q X := by
  refine sp_X11_isNothing (H.2.1 r hr) ?_
  rw [rg_abs H hr]
  by_cases c : R r = 0
  · rw [if_pos c] at h
    rw [if_pos (by omega)]; exact h
  · rw [if_neg c] at h
    rw [if_neg (by omega)]; exact h
/-- the sign alone is written -/
theorem RG.sign {ε : m_E} {μ : m_M} {M r l : Int} {R : Int → Int} (H : RG ε μ M R) (hr : r ∈ lm_b) (hl : l = 0 ∨ l = 1) : RG ε (st μ (M + r) 1 l) M (up R r (if l = 0 then ((R r).natAbs : Int) else -((R r).natAbs : Int))) ∧ FB M μ (st μ (M + r) 1 l) := by
  have f : Ex2 (M + r) (M + r + 1) μ (st μ (M + r) 1 l) := Ex2.st1
  refine ⟨H.after hr f (by rw [sx_same]; exact hl) ?_, Ex2.fb hr f⟩
  unfold bv
  rw [sx_same, mg_st (by omega), rg_abs H hr]
theorem rg_half {Q X : m_Po} {ε : m_E} {μ : m_M} {M r : Int} {R : Int → Int} (H : RG ε μ M R) (hr : r ∈ lm_b) (h0 : 0 ≤ R r) (h : ∀ μ', RG ε μ' M (up R r (R r / 2)) → FB M μ μ' → Q 0 ε μ') : o_X11_half [(2, M + r)] ε μ Q X := by
  refine sp_X11_half (H.2.1 r hr) (fun μ' f e => ?_)
  have el : μ' (M + r) 1 = μ (M + r) 1 := f _ _ (by omega)
  refine h μ' (H.after hr (Ex2.of f) (by rw [el]; exact (H.2.2.2 r hr).1) ?_) (Ex2.fb hr (Ex2.of f))
  have s := rg_sg H hr
  rw [rg_abs H hr] at e
  unfold bv
  rw [el, e]
  split at s
  · rw [if_pos (by assumption)]; omega
  · rw [if_neg (by assumption)]; omega
theorem rg_twice {Q X : m_Po} {ε : m_E} {μ : m_M} {M r : Int} {R : Int → Int} (H : RG ε μ M R) (hr : r ∈ lm_b) (h0 : 0 ≤ R r) (hb : 2 * R r < PB 12) (h : ∀ μ', RG ε μ' M (up R r (2 * R r)) → FB M μ μ' → Q 0 ε μ') : o_X11_twice [(2, M + r)] ε μ Q X := by
  refine sp_X11_twice (H.2.1 r hr) (by rw [rg_abs H hr]; omega) (fun μ' f e => ?_)
  have el : μ' (M + r) 1 = μ (M + r) 1 := f _ _ (by omega)
  refine h μ' (H.after hr (Ex2.of f) (by rw [el]; exact (H.2.2.2 r hr).1) ?_) (Ex2.fb hr (Ex2.of f))
  have s := rg_sg H hr
  rw [rg_abs H hr] at e
  unfold bv
  rw [el, e]
  split at s
  · rw [if_pos (by assumption)]; omega
  · rw [if_neg (by assumption)]; omega
theorem rg_parts {Q X : m_Po} {ε : m_E} {μ : m_M} {M r m : Int} {R : Int → Int} (H : RG ε μ M R) (hr : r ∈ lm_b) (hm0 : 0 < m) (hm1 : m < 2147483648) (h : ∀ μ' v, (v.natAbs : Int) = ((R r).natAbs : Int) / m → RG ε μ' M (up R r v) → FB M μ μ' → Q (((R r).natAbs : Int) % m) ε μ') : o_X11_parts [(2, M + r), (0, m)] ε μ Q X := by
  refine sp_X11_parts (H.2.1 r hr) hm0 hm1 (fun μ' f e => ?_)
  have el : μ' (M + r) 1 = μ (M + r) 1 := f _ _ (by omega)
  rw [rg_abs H hr] at e ⊢
  have q : 0 ≤ ((R r).natAbs : Int) / m := Int.ediv_nonneg (by omega) (by omega)
  refine h μ' (bv μ' (M + r) (M + r + 1)) ?_ (H.after hr (Ex2.of f) (by rw [el]; exact (H.2.2.2 r hr).1) rfl) (Ex2.fb hr (Ex2.of f))
  unfold bv
  rw [e]
  split <;> omega
