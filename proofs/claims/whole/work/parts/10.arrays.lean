def m_cs : m_S → Nat
  | [] => 0
  | v :: r => cond (m_c2 v) 2 1 + m_cs r
theorem m_cs_sum : ∀ r : m_S, ((r.map m_cv).map fun v => v.category).sum = m_cs r
  | [] => rfl
  | v :: r => by
    simp only [List.map_cons, List.sum_cons, m_cs, m_cs_sum r]
    cases h : m_c2 v with
    | true => rw [(m_cat v).mpr h]; rfl
    | false => rw [m_cat1 v h]; rfl
/-! ===== arrays, lengths, making ===== -/
theorem m_ix {i L : Int} (h0 : 0 ≤ i) (h1 : i < L) (hL : L < 2147483648) : ¬ (Int32.ofInt i < 0 ∨ L.toNat ≤ (Int32.ofInt i).toNatClampNeg) ∧ (Int32.ofInt i).toNatClampNeg = i.toNat := by
  have hi : i32 i := by unfold i32; omega
  have e : (Int32.ofInt i).toInt = i := by rw [of32, w32_id hi]
  have e2 : (Int32.ofInt i).toNatClampNeg = i.toNat := by
    show (Int32.ofInt i).toInt.toNat = _
    rw [e]
  refine ⟨fun z => ?_, e2⟩
  rcases z with z | z
  · have h3 := (v_lt32 hi (show i32 0 by unfold i32; omega)).mp z
    omega
  · rw [e2] at z
    omega
def m_ald (kz : Int) (t : Nat) (k : m_C) : m_C := fun ls st ε μ => match st with
  | (0, i) :: (2, a) :: r => kd ε a = kz ∧ (0 ≤ i ∧ i < ln ε a) ∧ k ls ((t, μ a i) :: r) ε μ
  | _ => False
def m_ast (kz : Int) (t : Nat) (k : m_C) : m_C := fun ls sk ε μ => match sk with
  | (u, v) :: (0, i) :: (2, a) :: r => cond (Nat.beq u t) (kd ε a = kz ∧ (0 ≤ i ∧ i < ln ε a) ∧ ∀ μ', μ' = st μ a i v → k ls r ε μ') False
  | _ => False
def m_astb (k : m_C) : m_C := fun ls sk ε μ => match sk with
  | (0, v) :: (0, i) :: (2, a) :: r => kd ε a = 102 ∧ (0 ≤ i ∧ i < ln ε a) ∧ ∀ μ', μ' = st μ a i (w8 v) → k ls r ε μ'
  | _ => False
def m_astz (k : m_C) : m_C := fun ls sk ε μ => match sk with
  | (0, v) :: (0, i) :: (2, a) :: r => kd ε a = 103 ∧ (0 ≤ i ∧ i < ln ε a) ∧ (v = 0 ∨ v = 1) ∧ ∀ μ', μ' = st μ a i v → k ls r ε μ'
  | _ => False
def m_asta (kz ek : Int) (k : m_C) : m_C := fun ls sk ε μ => match sk with
  | (2, v) :: (0, i) :: (2, a) :: r => kd ε a = kz ∧ (0 ≤ i ∧ i < ln ε a) ∧ (v = 0 ∨ kd ε v = ek) ∧ ∀ μ', μ' = st μ a i v → k ls r ε μ'
  | _ => False
def m_len (kz : Int) (k : m_C) : m_C := fun ls st ε μ => match st with
  | (2, a) :: r => kd ε a = kz ∧ k ls ((0, ln ε a) :: r) ε μ
  | _ => False
def m_new (kz : Int) (k : m_C) : m_C := fun ls st ε μ => ∀ a ε' μ', a = nx ε → ε' = ealloc ε kz 0 → μ' = mnew μ a → k ls ((2, a) :: st) ε' μ'
def m_nwa (kz lim : Int) (k : m_C) : m_C := fun ls st ε μ => match st with
  | (0, n) :: r => (0 ≤ n ∧ n ≤ lim) ∧ ∀ a ε' μ', a = nx ε → ε' = ealloc ε kz n → μ' = mnew μ a → k ls ((2, a) :: r) ε' μ'
  | _ => False
def m_obi (k : m_C) : m_C := fun ls st ε μ => match st with
  | (2, a) :: r => 0 < a ∧ m_cs r ≤ 8 ∧ k ls r ε μ
  | _ => False
theorem HR.puta {bs : Nat} {D : va_G} {Da : Nat → ClassId} {ε : m_E} {μ : m_M} {s : State} {H H' : Heap} {n j : Nat} {i v : Int} (hR : HR bs D Da ε μ s H) (hk : kd ε ((n : Int) + 1) = 100 + j) (h8 : j < 8) (h0 : 0 ≤ i) (hA : HA bs Da ε μ H (n + 1) n j) (hv : m_ok (m_atg j, v))
    (e1 : H'[n]? = some ((arrV (Da j) (ln ε (n + 1)).toNat (fun z => m_cv (m_atg j, μ (n + 1) z))).setSlot i.toNat (m_cv (m_atg j, v)))) (e2 : H'.size = H.size) (e3 : ∀ q, q ≠ n → H'[q]? = H[q]?) : HR bs D Da ε (st μ (n + 1) i v) s H' := by
  obtain ⟨b1, b2, b3, b4, b5⟩ := hA
  refine hR.upd n b1 (fun _ => rfl) (fun _ => rfl) rfl e2 e3 (fun b hb j => ⟨st_ne (fun z => hb z.1), rfl⟩) (fun k2 h2 h3 => by rw [hk] at h2; omega) (fun j2 h2 h3 => ?_)
  have : j2 = j := by rw [hk] at h2; omega
  subst this
  refine ⟨b1, b2, b3, ?_, fun z hz => ?_⟩
  · rw [e1, arrV_store]
    have ef : updV (fun z : Nat => m_cv (m_atg j2, μ (n + 1) z)) i.toNat (m_cv (m_atg j2, v)) = fun z : Nat => m_cv (m_atg j2, st μ (n + 1) i v (n + 1) z) := by
      funext z
      by_cases hz : z = i.toNat
      · have : (z : Int) = i := by omega
        rw [this, st_same]
        simp [updV, hz]
      · rw [st_ne (fun y => hz (by have := y.2; omega))]
        simp [updV, hz]
    rw [ef]
  · by_cases hz2 : (z : Int) = i
    · rw [hz2, st_same]; exact hv
    · rw [st_ne (fun y => hz2 y.2)]; exact b5 z hz
section Ar
variable {l : Launch} {bs : Nat} {D : va_G} {Da : Nat → ClassId} {own : String} {cc : ByteArray} {nL : Nat} {rt : Option FieldType} {R : Room} {ex : List ExceptionTableEntry} {nm : String} {Q X : m_Po} {B : Nat × Nat} {pc : Nat} {k : m_C}
theorem ok_iald (hd : decode cc pc = .ok (.iaload, 1)) (hk : Le k (AW l bs D Da own cc nL rt R ex nm Q X B (pc + 1))) : Le (m_ald 100 0 k) (AW l bs D Da own cc nL rt R ex nm Q X B (pc)) := by
  intro ls sk ε μ h p e s m args below meth c H locs cells slots A F hS hc hs hl hst hA hR
  unfold m_ald at h
  split at h
  · rename_i i a r
    obtain ⟨hk1, ⟨h0, h1⟩, h⟩ := h
    obtain ⟨n, rfl, hn, b1, b2, b3, b4, b5⟩ := hR.arr (j := 0) hk1 (by decide)
    obtain ⟨hx1, hx2⟩ := m_ix h0 h1 b3
    rw [List.map_cons, List.map_cons, m_ref]
    refine W.iald (v := m_cv (0, μ (n + 1) i)) F.1 F.2.1 b4 ((F.ftf.2.2.2.2.2 0 _ rfl).1 _ _) (fun q => by cases q) (by show ¬ (_ ∨ (arrV _ _ _).slots.size ≤ _); rw [arrV_size]; exact hx1) (by rw [hx2, arrV_read _ _ (by omega)]; show some (m_cv (0, μ (n + 1) (i.toNat : Int))) = _; rw [show ((i.toNat : Nat) : Int) = i by omega]) rfl rfl hd ?_
    exact hk _ _ _ _ h p e s m args below meth c H locs cells slots A F hS hc hs hl (m_ac (by have := b5 i.toNat (by omega); rw [show ((i.toNat : Nat) : Int) = i by omega] at this; exact this) (m_a2 (m_a2 hst))) hA hR
  · exact h.elim
theorem ok_lald (hd : decode cc pc = .ok (.laload, 1)) (hk : Le k (AW l bs D Da own cc nL rt R ex nm Q X B (pc + 1))) : Le (m_ald 101 1 k) (AW l bs D Da own cc nL rt R ex nm Q X B (pc)) := by
  intro ls sk ε μ h p e s m args below meth c H locs cells slots A F hS hc hs hl hst hA hR
  unfold m_ald at h
  split at h
  · rename_i i a r
    obtain ⟨hk1, ⟨h0, h1⟩, h⟩ := h
    obtain ⟨n, rfl, hn, b1, b2, b3, b4, b5⟩ := hR.arr (j := 1) hk1 (by decide)
    obtain ⟨hx1, hx2⟩ := m_ix h0 h1 b3
    rw [List.map_cons, List.map_cons, m_ref]
    refine W.lald (v := m_cv (1, μ (n + 1) i)) F.1 F.2.1 b4 ((F.ftf.2.2.2.2.2 1 _ rfl).1 _ _) (fun q => by cases q) (by show ¬ (_ ∨ (arrV _ _ _).slots.size ≤ _); rw [arrV_size]; exact hx1) (by rw [hx2, arrV_read _ _ (by omega)]; show some (m_cv (1, μ (n + 1) (i.toNat : Int))) = _; rw [show ((i.toNat : Nat) : Int) = i by omega]) rfl rfl hd ?_
    exact hk _ _ _ _ h p e s m args below meth c H locs cells slots A F hS hc hs hl (m_ac (by have := b5 i.toNat (by omega); rw [show ((i.toNat : Nat) : Int) = i by omega] at this; exact this) (m_a2 (m_a2 hst))) hA hR
  · exact h.elim
theorem ok_bald (hd : decode cc pc = .ok (.baload, 1)) (hk : Le k (AW l bs D Da own cc nL rt R ex nm Q X B (pc + 1))) : Le (m_ald 102 0 k) (AW l bs D Da own cc nL rt R ex nm Q X B (pc)) := by
  intro ls sk ε μ h p e s m args below meth c H locs cells slots A F hS hc hs hl hst hA hR
  unfold m_ald at h
  split at h
  · rename_i i a r
    obtain ⟨hk1, ⟨h0, h1⟩, h⟩ := h
    obtain ⟨n, rfl, hn, b1, b2, b3, b4, b5⟩ := hR.arr (j := 2) hk1 (by decide)
    obtain ⟨hx1, hx2⟩ := m_ix h0 h1 b3
    rw [List.map_cons, List.map_cons, m_ref]
    refine W.bald (v := m_cv (0, μ (n + 1) i)) F.1 F.2.1 b4 ((F.ftf.2.2.2.2.2 2 _ rfl).1 _ _) (fun q => by cases q) (by show ¬ (_ ∨ (arrV _ _ _).slots.size ≤ _); rw [arrV_size]; exact hx1) (by rw [hx2, arrV_read _ _ (by omega)]; show some (m_cv (0, μ (n + 1) (i.toNat : Int))) = _; rw [show ((i.toNat : Nat) : Int) = i by omega]) rfl rfl hd ?_
    exact hk _ _ _ _ h p e s m args below meth c H locs cells slots A F hS hc hs hl (m_ac (by have := b5 i.toNat (by omega); rw [show ((i.toNat : Nat) : Int) = i by omega] at this; exact this) (m_a2 (m_a2 hst))) hA hR
  · exact h.elim
theorem ok_zald (hd : decode cc pc = .ok (.baload, 1)) (hk : Le k (AW l bs D Da own cc nL rt R ex nm Q X B (pc + 1))) : Le (m_ald 103 0 k) (AW l bs D Da own cc nL rt R ex nm Q X B (pc)) := by
  intro ls sk ε μ h p e s m args below meth c H locs cells slots A F hS hc hs hl hst hA hR
  unfold m_ald at h
  split at h
  · rename_i i a r
    obtain ⟨hk1, ⟨h0, h1⟩, h⟩ := h
    obtain ⟨n, rfl, hn, b1, b2, b3, b4, b5⟩ := hR.arr (j := 3) hk1 (by decide)
    obtain ⟨hx1, hx2⟩ := m_ix h0 h1 b3
    rw [List.map_cons, List.map_cons, m_ref]
    refine W.zald (v := m_cv (0, μ (n + 1) i)) F.1 F.2.1 b4 ((F.ftf.2.2.2.2.2 3 _ rfl).1 _ _) (fun q => by cases q) (by show ¬ (_ ∨ (arrV _ _ _).slots.size ≤ _); rw [arrV_size]; exact hx1) (by rw [hx2, arrV_read _ _ (by omega)]; show some (m_cv (0, μ (n + 1) (i.toNat : Int))) = _; rw [show ((i.toNat : Nat) : Int) = i by omega]) rfl rfl hd ?_
    exact hk _ _ _ _ h p e s m args below meth c H locs cells slots A F hS hc hs hl (m_ac (by have := b5 i.toNat (by omega); rw [show ((i.toNat : Nat) : Int) = i by omega] at this; exact this) (m_a2 (m_a2 hst))) hA hR
  · exact h.elim
theorem nI_toInt' {L : Int} (h0 : 0 ≤ L) (h1 : L < 2147483648) : (Int32.ofNat L.toNat).toInt = L := by
  have := nI_toInt (n := L.toNat) (by omega)
  rw [show Int32.ofNat L.toNat = nI L.toNat from rfl, this]; omega
theorem ok_sald (hd : decode cc pc = .ok (.iaload, 1)) (hk : Le k (AW l bs D Da own cc nL rt R ex nm Q X B (pc + 1))) : Le (m_ald 99 0 k) (AW l bs D Da own cc nL rt R ex nm Q X B (pc)) := by
  intro ls sk ε μ h p e s m args below meth c H locs cells slots A F hS hc hs hl hst hA hR
  unfold m_ald at h
  split at h
  · rename_i i a r
    obtain ⟨hk1, ⟨h0, h1⟩, h⟩ := h
    obtain ⟨n, rfl, hn⟩ := hR.2.1 a (by rw [hk1]; decide)
    obtain ⟨b1, b2, b3, ⟨scr, c1, c2, c3, c4, c5⟩, b5⟩ := hR.2.2.2.2 n hk1
    obtain ⟨hx1, hx2⟩ := m_ix h0 h1 b3
    rw [List.map_cons, List.map_cons, m_ref]
    refine W.iald (v := m_cv (0, μ (n + 1) i)) F.1 F.2.1 c1 c2 c3 (by rw [c4]; exact hx1) (by rw [hx2, c5 _ (by omega)]; show some (m_cv (0, μ (n + 1) (i.toNat : Int))) = _; rw [show ((i.toNat : Nat) : Int) = i by omega]) rfl rfl hd ?_
    exact hk _ _ _ _ h p e s m args below meth c H locs cells slots A F hS hc hs hl (m_ac (show m_ok (0, _) by have := b5 i.toNat (by omega); rw [show ((i.toNat : Nat) : Int) = i by omega] at this; exact this) (m_a2 (m_a2 hst))) hA hR
  · exact h.elim
theorem ok_slen (hd : decode cc pc = .ok (.arraylength, 1)) (hk : Le k (AW l bs D Da own cc nL rt R ex nm Q X B (pc + 1))) : Le (m_len 99 k) (AW l bs D Da own cc nL rt R ex nm Q X B (pc)) := by
  intro ls sk ε μ h p e s m args below meth c H locs cells slots A F hS hc hs hl hst hA hR
  unfold m_len at h
  split at h
  · rename_i a r
    obtain ⟨hk1, h⟩ := h
    obtain ⟨n, rfl, hn⟩ := hR.2.1 a (by rw [hk1]; decide)
    obtain ⟨b1, b2, b3, ⟨scr, c1, c2, c3, c4, c5⟩, b5⟩ := hR.2.2.2.2 n hk1
    rw [List.map_cons, m_ref]
    refine W.alen (n := Int32.ofInt (ln ε (n + 1))) F.1 F.2.1 c1 c2 (by rw [c4]; apply eq32; show (Int32.ofNat _).toInt = _; rw [nI_toInt' b2 b3]) rfl rfl hd ?_
    exact hk _ _ _ _ h p e s m args below meth c H locs cells slots A F hS hc hs hl (m_ac (show m_ok (0, _) from ⟨by omega, b3⟩) (m_a2 hst)) hA hR
  · exact h.elim
theorem ok_len {kz : Int} {j : Nat} (hkz : kz = 100 + j) (h8 : j < 8) (hd : decode cc pc = .ok (.arraylength, 1)) (hk : Le k (AW l bs D Da own cc nL rt R ex nm Q X B (pc + 1))) : Le (m_len kz k) (AW l bs D Da own cc nL rt R ex nm Q X B (pc)) := by
  intro ls sk ε μ h p e s m args below meth c H locs cells slots A F hS hc hs hl hst hA hR
  unfold m_len at h
  split at h
  · rename_i a r
    obtain ⟨hk1, h⟩ := h
    obtain ⟨n, rfl, hn, b1, b2, b3, b4, b5⟩ := hR.arr (j := j) (hk1.trans hkz) h8
    rw [List.map_cons, m_ref]
    refine W.alen (n := Int32.ofInt (ln ε (n + 1))) F.1 F.2.1 b4 ((F.ftf.2.2.2.2.2 j _ (m_tys_at Da h8)).1 _ _) (by rw [arrV_size]; apply eq32; show (Int32.ofNat _).toInt = _; rw [nI_toInt' b2 b3]) rfl rfl hd ?_
    exact hk _ _ _ _ h p e s m args below meth c H locs cells slots A F hS hc hs hl (m_ac (show m_ok (0, _) from ⟨by omega, b3⟩) (m_a2 hst)) hA hR
  · exact h.elim
theorem ok_aald {kz : Int} {j : Nat} {C : String} (hkz : kz = 100 + j) (h8 : j < 8) (hty : m_aty j = .object C) (htg : m_atg j = 2) (hd : decode cc pc = .ok (.aaload, 1)) (hk : Le k (AW l bs D Da own cc nL rt R ex nm Q X B (pc + 1))) : Le (m_ald kz 2 k) (AW l bs D Da own cc nL rt R ex nm Q X B (pc)) := by
  intro ls sk ε μ h p e s m args below meth c H locs cells slots A F hS hc hs hl hst hA hR
  unfold m_ald at h
  split at h
  · rename_i i a r
    obtain ⟨hk1, ⟨h0, h1⟩, h⟩ := h
    obtain ⟨n, rfl, hn, b1, b2, b3, b4, b5⟩ := hR.arr (j := j) (hk1.trans hkz) h8
    obtain ⟨hx1, hx2⟩ := m_ix h0 h1 b3
    rw [htg] at b4 b5
    rw [List.map_cons, List.map_cons, m_ref]
    refine W.aald (ty := .object C) (v := m_cv (2, μ (n + 1) i)) F.1 F.2.1 b4 ((F.ftf.2.2.2.2.2 j _ (by rw [m_tys_at Da h8, hty])).1 _ _) rfl (fun q => by cases q) (by show ¬ (_ ∨ (arrV _ _ _).slots.size ≤ _); rw [arrV_size]; exact hx1) (by rw [hx2, arrV_read _ _ (by omega)]; show some (m_cv (2, μ (n + 1) (i.toNat : Int))) = _; rw [show ((i.toNat : Nat) : Int) = i by omega]) rfl rfl hd ?_
    exact hk _ _ _ _ h p e s m args below meth c H locs cells slots A F hS hc hs hl (m_ac (by have := b5 i.toNat (by omega); rw [show ((i.toNat : Nat) : Int) = i by omega] at this; exact this) (m_a2 (m_a2 hst))) hA hR
  · exact h.elim
theorem ok_iast (hd : decode cc pc = .ok (.iastore, 1)) (hk : Le k (AW l bs D Da own cc nL rt R ex nm Q X B (pc + 1))) : Le (m_ast 100 0 k) (AW l bs D Da own cc nL rt R ex nm Q X B (pc)) := by
  intro ls sk ε μ h p e s m args below meth c H locs cells slots A F hS hc hs hl hst hA hR
  unfold m_ast at h
  split at h
  · rename_i u v i a r
    cases hb : Nat.beq u 0 with
    | false => simp only [hb, cond_false] at h
    | true =>
      simp only [hb, cond_true] at h
      have ht : u = 0 := Nat.eq_of_beq_eq_true hb
      subst ht
      obtain ⟨hk1, ⟨h0, h1⟩, h⟩ := h
      obtain ⟨n, rfl, hn, hAA⟩ := hR.arr (j := 0) hk1 (by decide)
      obtain ⟨b1, b2, b3, b4, b5⟩ := id hAA
      obtain ⟨hx1, hx2⟩ := m_ix h0 h1 b3
      rw [List.map_cons, List.map_cons, List.map_cons, m_ref]
      refine W.iast F.1 F.2.1 b4 ((F.ftf.2.2.2.2.2 0 _ rfl).1 _ _) (fun q => by cases q) (by show ¬ (_ ∨ (arrV _ _ _).slots.size ≤ _); rw [arrV_size]; exact hx1) rfl rfl hd (fun H' e1 e2 e3 => ?_)
      rw [hx2] at e1
      exact hk _ _ _ _ (h _ rfl) p e s m args below meth c H' _ cells slots A F (hS.put e2 e3 b1) hc hs hl (m_a2 (m_a2 (m_a2 hst))) hA (HR.puta (j := 0) hR hk1 (by decide) h0 hAA (m_a1 hst) e1 e2 e3)
  · exact h.elim
theorem ok_last (hd : decode cc pc = .ok (.lastore, 1)) (hk : Le k (AW l bs D Da own cc nL rt R ex nm Q X B (pc + 1))) : Le (m_ast 101 1 k) (AW l bs D Da own cc nL rt R ex nm Q X B (pc)) := by
  intro ls sk ε μ h p e s m args below meth c H locs cells slots A F hS hc hs hl hst hA hR
  unfold m_ast at h
  split at h
  · rename_i u v i a r
    cases hb : Nat.beq u 1 with
    | false => simp only [hb, cond_false] at h
    | true =>
      simp only [hb, cond_true] at h
      have ht : u = 1 := Nat.eq_of_beq_eq_true hb
      subst ht
      obtain ⟨hk1, ⟨h0, h1⟩, h⟩ := h
      obtain ⟨n, rfl, hn, hAA⟩ := hR.arr (j := 1) hk1 (by decide)
      obtain ⟨b1, b2, b3, b4, b5⟩ := id hAA
      obtain ⟨hx1, hx2⟩ := m_ix h0 h1 b3
      rw [List.map_cons, List.map_cons, List.map_cons, m_ref]
      refine W.last F.1 F.2.1 b4 ((F.ftf.2.2.2.2.2 1 _ rfl).1 _ _) (fun q => by cases q) (by show ¬ (_ ∨ (arrV _ _ _).slots.size ≤ _); rw [arrV_size]; exact hx1) rfl rfl hd (fun H' e1 e2 e3 => ?_)
      rw [hx2] at e1
      exact hk _ _ _ _ (h _ rfl) p e s m args below meth c H' _ cells slots A F (hS.put e2 e3 b1) hc hs hl (m_a2 (m_a2 (m_a2 hst))) hA (HR.puta (j := 1) hR hk1 (by decide) h0 hAA (m_a1 hst) e1 e2 e3)
  · exact h.elim
theorem ok_astb (hd : decode cc pc = .ok (.bastore, 1)) (hk : Le k (AW l bs D Da own cc nL rt R ex nm Q X B (pc + 1))) : Le (m_astb k) (AW l bs D Da own cc nL rt R ex nm Q X B (pc)) := by
  intro ls sk ε μ h p e s m args below meth c H locs cells slots A F hS hc hs hl hst hA hR
  unfold m_astb at h
  split at h
  · rename_i v i a r
    obtain ⟨hk1, ⟨h0, h1⟩, h⟩ := h
    skip
    obtain ⟨n, rfl, hn, hAA⟩ := hR.arr (j := 2) hk1 (by decide)
    obtain ⟨b1, b2, b3, b4, b5⟩ := id hAA
    obtain ⟨hx1, hx2⟩ := m_ix h0 h1 b3
    rw [List.map_cons, List.map_cons, List.map_cons, m_ref]
    refine W.bast (x := Int32.ofInt v) F.1 F.2.1 b4 ((F.ftf.2.2.2.2.2 2 _ rfl).1 _ _) (fun q => by cases q) (by show ¬ (_ ∨ (arrV _ _ _).slots.size ≤ _); rw [arrV_size]; exact hx1) rfl rfl hd (fun H' e1 e2 e3 => ?_)
    rw [hx2] at e1
    have ev : narrow .byte (.int (Int32.ofInt v)) = m_cv (0, (w8 v)) := (by show Value.int _ = Value.int _; rw [← v_i2b])
    rw [ev] at e1
    exact hk _ _ _ _ (h _ rfl) p e s m args below meth c H' _ cells slots A F (hS.put e2 e3 b1) hc hs hl (m_a2 (m_a2 (m_a2 hst))) hA (HR.puta (j := 2) hR hk1 (by decide) h0 hAA (show m_ok (0, (w8 v)) from (w8_i32 v)) e1 e2 e3)
  · exact h.elim
theorem ok_astz (hd : decode cc pc = .ok (.bastore, 1)) (hk : Le k (AW l bs D Da own cc nL rt R ex nm Q X B (pc + 1))) : Le (m_astz k) (AW l bs D Da own cc nL rt R ex nm Q X B (pc)) := by
  intro ls sk ε μ h p e s m args below meth c H locs cells slots A F hS hc hs hl hst hA hR
  unfold m_astz at h
  split at h
  · rename_i v i a r
    obtain ⟨hk1, ⟨h0, h1⟩, h⟩ := h
    obtain ⟨hz, h⟩ := h
    obtain ⟨n, rfl, hn, hAA⟩ := hR.arr (j := 3) hk1 (by decide)
    obtain ⟨b1, b2, b3, b4, b5⟩ := id hAA
    obtain ⟨hx1, hx2⟩ := m_ix h0 h1 b3
    rw [List.map_cons, List.map_cons, List.map_cons, m_ref]
    refine W.zast (x := Int32.ofInt v) F.1 F.2.1 b4 ((F.ftf.2.2.2.2.2 3 _ rfl).1 _ _) (fun q => by cases q) (by show ¬ (_ ∨ (arrV _ _ _).slots.size ≤ _); rw [arrV_size]; exact hx1) rfl rfl hd (fun H' e1 e2 e3 => ?_)
    rw [hx2] at e1
    have ev : narrow .boolean (.int (Int32.ofInt v)) = m_cv (0, v) := (by rcases hz with rfl | rfl <;> decide)
    rw [ev] at e1
    exact hk _ _ _ _ (h _ rfl) p e s m args below meth c H' _ cells slots A F (hS.put e2 e3 b1) hc hs hl (m_a2 (m_a2 (m_a2 hst))) hA (HR.puta (j := 3) hR hk1 (by decide) h0 hAA (show m_ok (0, v) from (m_a1 hst)) e1 e2 e3)
  · exact h.elim
theorem ok_asta {kz ek : Int} {j ci N : Nat} {C : String} {T : u_T} (hkz : kz = 100 + j) (h8 : j < 8) (hty : m_aty j = .object C) (htg : m_atg j = 2) (hek : ek = ci) (h12 : ci < 12) (hcl : vwCl[ci]? = some (C, T, N)) (hd : decode cc pc = .ok (.aastore, 1)) (hk : Le k (AW l bs D Da own cc nL rt R ex nm Q X B (pc + 1))) : Le (m_asta kz ek k) (AW l bs D Da own cc nL rt R ex nm Q X B (pc)) := by
  intro ls sk ε μ h p e s m args below meth c H locs cells slots A F hS hc hs hl hst hA hR
  unfold m_asta at h
  split at h
  · rename_i v i a r
    obtain ⟨hk1, ⟨h0, h1⟩, hv, h⟩ := h
    have hk2 := hk1.trans hkz
    obtain ⟨n, rfl, hn, hAA⟩ := hR.arr (j := j) hk2 h8
    obtain ⟨b1, b2, b3, b4, b5⟩ := id hAA
    obtain ⟨hx1, hx2⟩ := m_ix h0 h1 b3
    have hK := F.ftf.2.2.2.2
    obtain ⟨kA, comp, k1, k2, k3, -⟩ := (show va_RA s (Da j) (.object C) by have := (hK.2 j _ (m_tys_at Da h8)).2; rw [hty] at this; exact this)
    have fin_case : ∀ H' : Heap, H'[n]? = some ((arrV (Da j) (ln ε (n + 1)).toNat (fun z => m_cv (m_atg j, μ (n + 1) z))).setSlot i.toNat (m_cv (2, v))) → H'.size = H.size → (∀ q, q ≠ n → H'[q]? = H[q]?) → W p l e R s m args below meth c H' (locs ++ [⟨n, i.toNat⟩]) cells slots (vx_MQ below (m_Q bs D Da rt Q) (m_X bs D Da X) args s R.cells R.slots (fun q => bs ≤ q)) (F0 m (pc + 1) A (r.map m_cv)) := by
      intro H' e1 e2 e3
      exact hk _ _ _ _ (h _ rfl) p e s m args below meth c H' _ cells slots A F (hS.put e2 e3 b1) hc hs hl (m_a2 (m_a2 (m_a2 hst))) hA (HR.puta hR hk2 h8 h0 hAA (by rw [htg]; exact m_a1 hst) (by rw [htg] at e1 ⊢; exact e1) e2 e3)
    rw [List.map_cons, List.map_cons, List.map_cons, m_ref]
    rcases hv with rfl | hv
    · have e0 : m_cv (2, 0) = Value.null := rfl
      rw [e0] at fin_case ⊢
      refine va_WaastN (C := C) F.1 F.2.1 b4 ((hK.2 j _ (by rw [m_tys_at Da h8, hty])).1 _ _) (fun q => by cases q) (by show ¬ (_ ∨ (arrV _ _ _).slots.size ≤ _); rw [arrV_size]; exact hx1) rfl rfl hd (fun H' e1 e2 e3 => ?_)
      rw [hx2] at e1
      have := fin_case H' e1 e2 e3
      rw [hx2]
      exact this
    · obtain ⟨nv, rfl, hnv, hbv, r9, c2, ⟨cell, q1, q2, q3, q4⟩, c4⟩ := hR.obj (hv.trans hek) h12
      have hcls := (hK.1 ci _ hcl).2
      have hcomp : comp = D.1 ci := Option.some.inj (k3.symm.trans hcls.1)
      subst hcomp
      obtain ⟨kC, hkC, -⟩ := hcls.2
      rw [m_ref] at fin_case ⊢
      refine W.aast F.1 F.2.1 b4 (fun q h => by cases h) (fun h => by cases h) k1 k2 rfl hkC ⟨fun z => hx1 (Or.inl z), by rw [arrV_size, hx2]; omega⟩ q1 (fun q h => by rw [q3] at h; cases h) (by rw [q2]; exact hkC) (by rw [q2]; exact va_assign hcls) rfl rfl hd (fun H' e1 e2 e3 => ?_)
      rw [hx2] at e1
      have := fin_case H' e1 e2 e3
      rw [hx2]
      exact this
  · exact h.elim
theorem HR.grow {ε : m_E} {μ : m_M} {s : State} {H H' : Heap} {locs : List Loc} (hS : va_S (fun q => bs ≤ q) s.heap H locs) (z1 : H'.size = H.size + 1) (o1 : ∀ q, q < H.size → H'[q]? = H[q]?) : va_S (fun q => bs ≤ q) s.heap H' locs :=
  ⟨Nat.le_trans hS.1 (by omega), fun x h1 h2 => (o1 x (Nat.lt_of_lt_of_le h1 hS.1)).trans (hS.2.1 x h1 h2), hS.2.2⟩
theorem ok_new {kz : Int} {ci idx N : Nat} {C : String} {T : u_T} {ty : Nat → FieldType} (hkz : kz = ci) (h12 : ci < 12) (hcl : vwCl[ci]? = some (C, T, N)) (hin : ∀ w ∈ u_ws C T N, w ∈ lw_tbl ∧ goodWord w = true) (hty : ∀ z, z < N → parseFieldDescriptor (T z).2.2.1 = some (ty z)) (hnd : ∀ z, z < N → ty z ≠ .double)
    (hft : ∀ z, z < N → m_ft ci z = m_tag (ty z) ∧ m_ff ci z = (T z).2.2.2 ∧ (T z).1 = C) (hw1 : Cond.classLink own idx C ∈ lw_tbl) (hw2 : Cond.instantiable C N ∈ lw_tbl) (hw3 : Cond.initialized C ∈ lw_tbl) (hB : B.1 + 1 ≤ R.cells ∧ B.2 + N ≤ R.slots) (hd : decode cc pc = .ok (.new idx, 3)) (hk : Le k (AW l bs D Da own cc nL rt R ex nm Q X (B.1 + 1, B.2 + N) (pc + 3))) : Le (m_new kz k) (AW l bs D Da own cc nL rt R ex nm Q X B (pc)) := by
  intro ls sk ε μ h p e s m args below meth c H locs cells slots A F hS hc hs hl hst hA hR
  unfold m_new at h
  have hK := F.ftf.2.2.2.2
  have hKn := hK.1 ci _ hcl
  refine W.newcK F.1 F.2.1 F.fown (F.ftf.w hw1 rfl) (F.ftf.w hw2 rfl) (F.ftf.w hw3 rfl) rfl hd (by omega) (by omega) hKn.2.1 rfl (fun H' kC hkC e1 z1 o1 => ?_)
  have hb : bs ≤ H.size := Nat.le_trans F.fbs hS.1
  have hborn := u_born (args := args) ty (fun w hw => F.ftf.w (hin w hw).1 (hin w hw).2) (fun w h => h) hKn hkC e1 hty
  have hR' : HR bs D Da (ealloc ε kz 0) (mnew μ (nx ε)) s H' := by
    refine HR.new hR kz 0 hb z1 o1 (fun kk hkk _ => ?_) (fun j hj _ => by omega) (by omega)
    have : kk = ci := by omega
    subst this
    have ev : ∀ z : Nat, m_fv (ealloc ε kz 0) (mnew μ (nx ε)) kk (H.size + 1) z = 0 := fun z => by
      unfold m_fv
      rw [← hR.1]
      cases m_ff kk z with
      | true => exact if_pos rfl
      | false => exact if_pos rfl
    refine ⟨hb, _, hcl, hborn.to (fun z hz => ?_), fun z hz => by rw [ev]; exact m_ok0 _⟩
    rw [ev, (hft z hz).1]
    exact (m_d0 _ (hnd z hz)).symm
  have h9 := hk _ _ _ _ (h _ _ _ rfl rfl rfl) p e s m args below meth c H' locs (cells + 1) (slots + N) A F (HR.grow (ε := ε) (μ := μ) hS z1 o1) (by show cells + 1 ≤ B.1 + 1; omega) (by show slots + N ≤ B.2 + N; omega) hl (m_ac (show m_ok (2, _) by show 0 ≤ nx ε; rw [hR.1]; omega) hst) hA hR'
  rw [List.map_cons, hR.1, m_ref] at h9
  exact h9
theorem ok_nwa {kz lim : Int} {j : Nat} {atype : ArrayType} {ty : FieldType} (hkz : kz = 100 + j) (h4 : j < 4) (hty : newarray.typeOf atype = ty) (hjt : m_aty j = ty) (htg : m_tag ty = m_atg j) (hnd : ty ≠ .double) (hra : ∀ (U : State) (cA : ClassId), va_RA U cA ty → U.vm.findClass ("[" ++ ty.toString) = some cA) (hw : Cond.arrayClass ty ∈ lw_tbl) (hlim : 0 ≤ lim ∧ lim ≤ 65536 ∧ componentBytes ty ≤ 8) (hB : B.1 + 1 ≤ R.cells ∧ B.2 + lim.toNat ≤ R.slots) (hd : decode cc pc = .ok (.newarray atype, 2)) (hk : Le k (AW l bs D Da own cc nL rt R ex nm Q X (B.1 + 1, B.2 + lim.toNat) (pc + 2))) : Le (m_nwa kz lim k) (AW l bs D Da own cc nL rt R ex nm Q X B (pc)) := by
  intro ls sk ε μ h p e s m args below meth c H locs cells slots A F hS hc hs hl hst hA hR
  unfold m_nwa at h
  subst hty
  split at h
  · rename_i n r
    obtain ⟨⟨h0, h1⟩, h⟩ := h
    have hn : i32 n := m_a1 hst
    have en : (Int32.ofInt n).toInt = n := by rw [of32, w32_id hn]
    have eN : (Int32.ofInt n).toNatClampNeg = n.toNat := by
      show (Int32.ofInt n).toInt.toNat = _
      rw [en]
    have hbytes : n.toNat * componentBytes (newarray.typeOf atype) ≤ 536870912 := by
      have h5 : n.toNat ≤ 65536 := by omega
      calc n.toNat * componentBytes (newarray.typeOf atype) ≤ 65536 * 8 := Nat.mul_le_mul h5 hlim.2.2
        _ ≤ 536870912 := by decide
    rw [List.map_cons]
    refine va_newaK F.1 F.2.1 (F.ftf.w hw rfl) rfl hd rfl (fun z => by have := (v_lt32 hn (show i32 0 by unfold i32; omega)).mp z; omega) eN hbytes (by omega) (by omega) rfl (fun H' cA e1 z1 o1 hAr hNm => ?_)
    have hb : bs ≤ H.size := Nat.le_trans F.fbs hS.1
    have hK := F.ftf.2.2.2.2
    have hcA : cA = Da j := by
      have h6 := (hK.2 j _ (m_tys_at Da (by omega))).2
      rw [hjt] at h6
      exact Option.some.inj (hNm.symm.trans (hra _ _ h6))
    subst hcA
    have hR' : HR bs D Da (ealloc ε kz n) (mnew μ (nx ε)) s H' := by
      refine HR.new hR kz n hb z1 o1 (fun kk hkk _ => by omega) (fun j2 hj2 _ => ?_) (by omega)
      have : j2 = j := by omega
      subst this
      have el : ln (ealloc ε kz n) (H.size + 1) = n := by rw [← hR.1]; exact if_pos rfl
      have em : ∀ z : Int, mnew μ (nx ε) (H.size + 1) z = 0 := fun z => by rw [← hR.1]; exact if_pos rfl
      refine ⟨hb, by rw [el]; exact h0, by rw [el]; omega, ?_, fun z hz => by rw [em]; exact m_ok0 _⟩
      rw [e1, el]
      have ef : (fun _ : Nat => defaultValue (newarray.typeOf atype)) = fun z : Nat => m_cv (m_atg j2, mnew μ (nx ε) (H.size + 1) z) := by
        funext z
        rw [em, ← htg]
        exact (m_d0 _ hnd).symm
      rw [ef]
    have h9 := hk _ _ _ _ (h _ _ _ rfl rfl rfl) p e s m args below meth c H' locs (cells + 1) (slots + n.toNat) A F (HR.grow (ε := ε) (μ := μ) hS z1 o1) (by show cells + 1 ≤ B.1 + 1; omega) (by show slots + n.toNat ≤ B.2 + lim.toNat; omega) hl (m_ac (show m_ok (2, _) by show 0 ≤ nx ε; rw [hR.1]; omega) (m_a2 hst)) hA hR'
    rw [List.map_cons, hR.1, m_ref] at h9
    exact h9
  · exact h.elim
theorem ok_nwr {kz lim : Int} {j idx : Nat} {C : String} (hkz : kz = 100 + j) (h8 : j < 8) (hjt : m_aty j = .object C) (htg : m_atg j = 2) (hw1 : Cond.classLink own idx C ∈ lw_tbl) (hw : Cond.arrayOver (.object C) ∈ lw_tbl) (hlim : 0 ≤ lim ∧ lim ≤ 65536) (hB : B.1 + 1 ≤ R.cells ∧ B.2 + lim.toNat ≤ R.slots) (hd : decode cc pc = .ok (.anewarray idx, 3)) (hk : Le k (AW l bs D Da own cc nL rt R ex nm Q X (B.1 + 1, B.2 + lim.toNat) (pc + 3))) : Le (m_nwa kz lim k) (AW l bs D Da own cc nL rt R ex nm Q X B (pc)) := by
  intro ls sk ε μ h p e s m args below meth c H locs cells slots A F hS hc hs hl hst hA hR
  unfold m_nwa at h
  split at h
  · rename_i n r
    obtain ⟨⟨h0, h1⟩, h⟩ := h
    have hn : i32 n := m_a1 hst
    have en : (Int32.ofInt n).toInt = n := by rw [of32, w32_id hn]
    have eN : (Int32.ofInt n).toNatClampNeg = n.toNat := by
      show (Int32.ofInt n).toInt.toNat = _
      rw [en]
    rw [List.map_cons]
    refine W.anew F.1 F.2.1 F.fown (F.ftf.w hw1 rfl) (va_AO.use (show va_AO C s from F.ftf.2.1 _ hw rfl)) rfl hd rfl (fun z => by have := (v_lt32 hn (show i32 0 by unfold i32; omega)).mp z; omega) (by rw [eN]; omega) (by omega) (by rw [eN]; omega) (fun cA kA comp f1 f2 f3 f4 => ?_)
    rw [eN]
    obtain ⟨H', hH1⟩ : ∃ z, z = H.push ({ cls := cA, slots := Array.replicate n.toNat .null, vm := .none } : Cell) := ⟨_, rfl⟩
    have z1 : H'.size = H.size + 1 := by rw [hH1, Array.size_push]
    have e1 : H'[H.size]? = some (arrV cA n.toNat (fun _ => .null)) := by rw [hH1, Array.getElem?_push_size, ← arrV_new]
    have o1 : ∀ q : Nat, q < H.size → H'[q]? = H[q]? := fun q hq => by rw [hH1, Array.getElem?_push, if_neg (Nat.ne_of_lt hq)]
    rw [← hH1]
    have hb : bs ≤ H.size := Nat.le_trans F.fbs hS.1
    have hK := F.ftf.2.2.2.2
    have hcA : cA = Da j := by
      have h6 := (hK.2 j _ (m_tys_at Da h8)).2
      rw [hjt] at h6
      obtain ⟨_, _, _, _, _, h7⟩ := h6
      exact Option.some.inj (f1.symm.trans h7)
    subst hcA
    have hR' : HR bs D Da (ealloc ε kz n) (mnew μ (nx ε)) s H' := by
      refine HR.new hR kz n hb z1 o1 (fun kk hkk _ => by omega) (fun j2 hj2 _ => ?_) (by omega)
      have : j2 = j := by omega
      subst this
      have el : ln (ealloc ε kz n) (H.size + 1) = n := by rw [← hR.1]; exact if_pos rfl
      have em : ∀ z : Int, mnew μ (nx ε) (H.size + 1) z = 0 := fun z => by rw [← hR.1]; exact if_pos rfl
      refine ⟨hb, by rw [el]; exact h0, by rw [el]; omega, ?_, fun z hz => by rw [em]; exact m_ok0 _⟩
      rw [e1, el]
      have ef : (fun _ : Nat => Value.null) = fun z : Nat => m_cv (m_atg j2, mnew μ (nx ε) (H.size + 1) z) := by
        funext z
        rw [em, htg]
        rfl
      rw [ef]
    have h9 := hk _ _ _ _ (h _ _ _ rfl rfl rfl) p e s m args below meth c H' locs (cells + 1) (slots + n.toNat) A F (HR.grow (ε := ε) (μ := μ) hS z1 o1) (by show cells + 1 ≤ B.1 + 1; omega) (by show slots + n.toNat ≤ B.2 + lim.toNat; omega) hl (m_ac (show m_ok (2, _) by show 0 ≤ nx ε; rw [hR.1]; omega) (m_a2 hst)) hA hR'
    rw [List.map_cons, hR.1, m_ref] at h9
    exact h9
  · exact h.elim
theorem ok_obi {idx : Nat} (hw1 : Cond.methodLink own idx Lib.objectInit ∈ lw_tbl) (hw2 : Cond.instanceMethod Lib.objectInit ∈ lw_tbl) (hw3 : Cond.code Lib.objectInit ⟨#[0xb1]⟩ 1 none ∈ lw_tbl) (hRf : 1 ≤ R.frames ∧ 20 ≤ R.locals) (hd : decode cc pc = .ok (.invokespecial idx, 3)) (hk : Le k (AW l bs D Da own cc nL rt R ex nm Q X B (pc + 3))) : Le (m_obi k) (AW l bs D Da own cc nL rt R ex nm Q X B (pc)) := by
  intro ls sk ε μ h p e s m args below meth c H locs cells slots A F hS hc hs hl hst hA hR
  unfold m_obi at h
  split at h
  · rename_i a r
    obtain ⟨h0, h8, h⟩ := h
    rw [List.map_cons, show m_cv (2, a) = Value.ref (a - 1).toNat from if_neg (by omega)]
    refine W.objInit F.1 F.2.1 F.fown (F.ftf.w hw1 rfl) (F.ftf.w hw2 rfl) (F.ftf.w hw3 rfl) rfl (by show A.size = _; rw [hA.1, F.2.2.1]) rfl hd hRf.1 (by rw [m_cs_sum]; show 2 * 0 + _ + 12 ≤ _; omega) ?_
    exact hk _ _ _ _ h p e s m args below meth c H locs cells slots A F hS hc hs hl (m_a2 hst) hA hR
  · exact h.elim
end Ar
