/-! ===== fields, arrays, making ===== -/
section Fx
variable {l : Launch} {bs : Nat} {D : va_G} {Da : Nat → ClassId} {own : String} {cc : ByteArray} {nL : Nat} {rt : Option FieldType} {ex : List ExceptionTableEntry} {nm : String} {p : Program} {s : State} {m : MethodId} {meth : Method} {c : Code}
theorem m_fix.fown (F : m_fix l bs D Da own cc nL rt ex nm p s m meth c) : s.vm.findClass own = some m.cls := F.2.2.2.2.2.1
theorem m_fix.fnm (F : m_fix l bs D Da own cc nL rt ex nm p s m meth c) : meth.name = nm := F.2.2.2.2.2.2.2.2.1
theorem m_fix.ftf (F : m_fix l bs D Da own cc nL rt ex nm p s m meth c) : TF D Da s := F.2.2.2.2.2.2.2.2.2.1
theorem m_fix.fex (F : m_fix l bs D Da own cc nL rt ex nm p s m meth c) : c.exceptionTable.toList = ex := F.2.2.2.2.2.2.1
theorem m_fix.ftr (F : m_fix l bs D Da own cc nL rt ex nm p s m meth c) : l.stackTraces = false := F.2.2.2.2.2.2.2.1
theorem m_fix.fbs (F : m_fix l bs D Da own cc nL rt ex nm p s m meth c) : bs ≤ s.heap.size := F.2.2.2.2.2.2.2.2.2.2.1
theorem m_fix.fsz (F : m_fix l bs D Da own cc nL rt ex nm p s m meth c) : SZ bs s s.heap := F.2.2.2.2.2.2.2.2.2.2.2
end Fx
theorem m_ref (n : Nat) : m_cv (2, (n : Int) + 1) = Value.ref n := by
  show (if (n : Int) + 1 ≤ 0 then Value.null else Value.ref ((n : Int) + 1 - 1).toNat) = _
  rw [if_neg (by omega), show ((n : Int) + 1 - 1).toNat = n by omega]
theorem st_same (μ : m_M) (a i v : Int) : st μ a i v a i = v := if_pos ⟨rfl, rfl⟩
theorem st_ne {μ : m_M} {a i v b j : Int} (h : ¬ (b = a ∧ j = i)) : st μ a i v b j = μ b j := if_neg h
theorem HR.upd {bs : Nat} {D : va_G} {Da : Nat → ClassId} {ε ε' : m_E} {μ μ' : m_M} {U : State} {H H' : Heap} (h : HR bs D Da ε μ U H) (n : Nat) (hbs : bs ≤ n)
    (hk : ∀ a, kd ε' a = kd ε a) (hl : ∀ a, ln ε' a = ln ε a) (hn : nx ε' = nx ε) (hsz : H'.size = H.size) (hoth : ∀ q, q ≠ n → H'[q]? = H[q]?)
    (hμ : ∀ b : Int, b ≠ (n : Int) + 1 → ∀ j : Int, μ' b j = μ b j ∧ fn ε' b j = fn ε b j)
    (hO : ∀ k : Nat, kd ε (n + 1) = k → k < 12 → HO bs D ε' μ' H' (n + 1) n k)
    (hA : ∀ j : Nat, kd ε (n + 1) = 100 + j → j < 8 → HA bs Da ε' μ' H' (n + 1) n j) : HR bs D Da ε' μ' U H' := by
  obtain ⟨h1, h2, h3, h4, h5⟩ := h
  refine ⟨by rw [hn, hsz]; exact h1, fun a ha => ?_, fun q k hq hkk => ?_, fun q j hq hj => ?_, fun q hq => ?_⟩
  · rw [hk] at ha; rw [hsz]; exact h2 a ha
  · rw [hk] at hq
    by_cases e : q = n
    · subst e; exact hO k hq hkk
    · obtain ⟨b1, r, b2, b3, b4⟩ := h3 q k hq hkk
      have hne : (q : Int) + 1 ≠ (n : Int) + 1 := by omega
      have hv : ∀ i : Nat, m_fv ε' μ' k (q + 1) i = m_fv ε μ k (q + 1) i := fun i => by unfold m_fv; rw [(hμ _ hne i).1, (hμ _ hne i).2]
      exact ⟨b1, r, b2, (b3.kept (hoth q e)).to (fun i _ => by rw [hv i]), fun i hi => by rw [hv i]; exact b4 i hi⟩
  · rw [hk] at hq
    by_cases e : q = n
    · subst e; exact hA j hq hj
    · obtain ⟨b1, b2, b3, b4, b5⟩ := h4 q j hq hj
      have hne : (q : Int) + 1 ≠ (n : Int) + 1 := by omega
      refine ⟨b1, by rw [hl]; exact b2, by rw [hl]; exact b3, ?_, fun i hi => ?_⟩
      · rw [hoth q e, b4, hl]
        have e2 : (fun i : Nat => m_cv (m_atg j, μ (q + 1) i)) = fun i : Nat => m_cv (m_atg j, μ' (q + 1) i) := funext fun i => by rw [(hμ _ hne i).1]
        rw [e2]
      · rw [hl] at hi; rw [(hμ _ hne i).1]; exact b5 i hi
  · rw [hk] at hq
    obtain ⟨b1, b2, b3, b4, b5⟩ := h5 q hq
    have e : q ≠ n := by omega
    have hne : (q : Int) + 1 ≠ (n : Int) + 1 := by omega
    refine ⟨b1, by rw [hl]; exact b2, by rw [hl]; exact b3, ?_, fun i hi => ?_⟩
    · have e2 : (fun i : Nat => Int32.ofInt (μ (q + 1) i)) = fun i : Nat => Int32.ofInt (μ' (q + 1) i) := funext fun i => by rw [(hμ _ hne i).1]
      rw [hl, ← e2]
      exact va_X.kept b4 (hoth q e)
    · rw [hl] at hi; rw [(hμ _ hne i).1]; exact b5 i hi
theorem HR.obj {bs : Nat} {D : va_G} {Da : Nat → ClassId} {ε : m_E} {μ : m_M} {U : State} {H : Heap} (h : HR bs D Da ε μ U H) {a : Int} {kk : Nat} (hk : kd ε a = kk) (h12 : kk < 12) : ∃ n : Nat, a = n + 1 ∧ n < H.size ∧ HO bs D ε μ H (n + 1) n kk := by
  obtain ⟨n, rfl, hn⟩ := h.2.1 a (by rw [hk]; omega)
  exact ⟨n, rfl, hn, h.2.2.1 n kk hk h12⟩
theorem HR.arr {bs : Nat} {D : va_G} {Da : Nat → ClassId} {ε : m_E} {μ : m_M} {U : State} {H : Heap} (h : HR bs D Da ε μ U H) {a : Int} {j : Nat} (hk : kd ε a = 100 + j) (h8 : j < 8) : ∃ n : Nat, a = n + 1 ∧ n < H.size ∧ HA bs Da ε μ H (n + 1) n j := by
  obtain ⟨n, rfl, hn⟩ := h.2.1 a (by rw [hk]; omega)
  exact ⟨n, rfl, hn, h.2.2.2.1 n j hk h8⟩
theorem HR.fresh {bs : Nat} {D : va_G} {Da : Nat → ClassId} {ε : m_E} {μ : m_M} {U : State} {H : Heap} (h : HR bs D Da ε μ U H) : kd ε (nx ε) < 0 := by
  rcases Int.lt_or_le (kd ε (nx ε)) 0 with q | q
  · exact q
  · obtain ⟨n, e, hn⟩ := h.2.1 _ q
    rw [h.1] at e
    omega
theorem m_d0 (t : FieldType) (h : t ≠ .double) : m_cv (m_tag t, 0) = defaultValue t := by
  cases t <;> first | rfl | exact absurd rfl h
theorem m_ok0 (t : Nat) : m_ok (t, 0) := by
  match t with
  | 0 => show i32 0; unfold i32; omega
  | 1 => show i64 0; unfold i64; omega
  | 2 => exact Int.le_refl 0
  | _ + 3 => show 0 ≤ (0 : Int) ∧ (0 : Int) < 4294967296; omega
/-- a new cell -/
theorem HR.new {bs : Nat} {D : va_G} {Da : Nat → ClassId} {ε : m_E} {μ : m_M} {U : State} {H H' : Heap} (h : HR bs D Da ε μ U H) (k ln0 : Int) (hbs : bs ≤ H.size) (hsz : H'.size = H.size + 1) (hoth : ∀ q, q < H.size → H'[q]? = H[q]?)
    (hO : ∀ kk : Nat, k = kk → kk < 12 → HO bs D (ealloc ε k ln0) (mnew μ (nx ε)) H' (H.size + 1) H.size kk) (hA : ∀ j : Nat, k = 100 + j → j < 8 → HA bs Da (ealloc ε k ln0) (mnew μ (nx ε)) H' (H.size + 1) H.size j) (h99 : k ≠ 99) : HR bs D Da (ealloc ε k ln0) (mnew μ (nx ε)) U H' := by
  have hf := h.fresh
  obtain ⟨h1, h2, h3, h4, h5⟩ := h
  have hne : ∀ q : Nat, q < H.size → (q : Int) + 1 ≠ nx ε := fun q hq => by rw [h1]; omega
  have ek : ∀ a, a ≠ nx ε → kd (ealloc ε k ln0) a = kd ε a := fun a ha => if_neg ha
  have el : ∀ a, a ≠ nx ε → ln (ealloc ε k ln0) a = ln ε a := fun a ha => if_neg ha
  have ef : ∀ a j, a ≠ nx ε → fn (ealloc ε k ln0) a j = fn ε a j := fun a j ha => if_neg ha
  have em : ∀ a j, a ≠ nx ε → mnew μ (nx ε) a j = μ a j := fun a j ha => if_neg ha
  have ekn : kd (ealloc ε k ln0) (nx ε) = k := if_pos rfl
  refine ⟨?_, fun a ha => ?_, fun q kk hq hkk => ?_, fun q j hq hj => ?_, fun q hq => ?_⟩
  · show nx ε + 1 = _
    rw [h1, hsz]; push_cast; omega
  · by_cases e : a = nx ε
    · exact ⟨H.size, by rw [e, h1], by omega⟩
    · rw [ek a e] at ha
      obtain ⟨n, e1, e2⟩ := h2 a ha
      exact ⟨n, e1, by omega⟩
  · by_cases e : (q : Int) + 1 = nx ε
    · have eq : q = H.size := by rw [h1] at e; omega
      subst eq
      rw [e, ekn] at hq
      exact hO kk hq hkk
    · rw [ek _ e] at hq
      obtain ⟨b1, r, b2, b3, b4⟩ := h3 q kk hq hkk
      obtain ⟨n, e1, e2⟩ := h2 _ (by rw [hq]; omega)
      have hqs : q < H.size := by omega
      have hv : ∀ i : Nat, m_fv (ealloc ε k ln0) (mnew μ (nx ε)) kk (q + 1) i = m_fv ε μ kk (q + 1) i := fun i => by unfold m_fv; rw [ef _ _ e, em _ _ e]
      exact ⟨b1, r, b2, (b3.kept (hoth q hqs)).to (fun i _ => by rw [hv i]), fun i hi => by rw [hv i]; exact b4 i hi⟩
  · by_cases e : (q : Int) + 1 = nx ε
    · have eq : q = H.size := by rw [h1] at e; omega
      subst eq
      rw [e, ekn] at hq
      exact hA j hq hj
    · rw [ek _ e] at hq
      obtain ⟨b1, b2, b3, b4, b5⟩ := h4 q j hq hj
      obtain ⟨n, e1, e2⟩ := h2 _ (by rw [hq]; omega)
      have hqs : q < H.size := by omega
      refine ⟨b1, by rw [el _ e]; exact b2, by rw [el _ e]; exact b3, ?_, fun i hi => ?_⟩
      · have e2 : (fun i : Nat => m_cv (m_atg j, μ (q + 1) i)) = fun i : Nat => m_cv (m_atg j, mnew μ (nx ε) (q + 1) i) := funext fun i => by rw [em _ _ e]
        rw [hoth q hqs, b4, el _ e, e2]
      · rw [el _ e] at hi; rw [em _ _ e]; exact b5 i hi
  · by_cases e : (q : Int) + 1 = nx ε
    · rw [e, ekn] at hq
      exact absurd hq h99
    · rw [ek _ e] at hq
      obtain ⟨b1, b2, b3, b4, b5⟩ := h5 q hq
      have hqs : q < H.size := by omega
      refine ⟨b1, by rw [el _ e]; exact b2, by rw [el _ e]; exact b3, ?_, fun i hi => ?_⟩
      · have e2 : (fun i : Nat => Int32.ofInt (μ (q + 1) i)) = fun i : Nat => Int32.ofInt (mnew μ (nx ε) (q + 1) i) := funext fun i => by rw [em _ _ e]
        rw [el _ e, ← e2]
        exact va_X.kept b4 (hoth q hqs)
      · rw [el _ e] at hi; rw [em _ _ e]; exact b5 i hi
def m_gf (kk i : Nat) (j : Int) (k : m_C) : m_C := fun ls st ε μ => match st with
  | (2, a) :: r => kd ε a = kk ∧ k ls ((m_ft kk i, cond (m_ff kk i) (fn ε a j) (μ a j)) :: r) ε μ
  | _ => False
/-- a field that isn't final; boolean ones hold 0 and 1 alone -/
def m_pf (kk i : Nat) (j : Int) (k : m_C) : m_C := fun ls sk ε μ => match sk with
  | (t, v) :: (2, a) :: r => cond (Nat.beq t (m_ft kk i)) (kd ε a = kk ∧ ∀ μ', μ' = st μ a j v → k ls r ε μ') False
  | _ => False
def m_pz (kk : Nat) (j : Int) (k : m_C) : m_C := fun ls sk ε μ => match sk with
  | (0, v) :: (2, a) :: r => kd ε a = kk ∧ (v = 0 ∨ v = 1) ∧ ∀ μ', μ' = st μ a j v → k ls r ε μ'
  | _ => False
def m_pF (kk i : Nat) (j : Int) (k : m_C) : m_C := fun ls sk ε μ => match sk with
  | (t, v) :: (2, a) :: r => cond (Nat.beq t (m_ft kk i)) (kd ε a = kk ∧ ∀ ε', ε' = efin ε a j v → k ls r ε' μ) False
  | _ => False
def m_pzF (kk : Nat) (j : Int) (k : m_C) : m_C := fun ls sk ε μ => match sk with
  | (0, v) :: (2, a) :: r => kd ε a = kk ∧ (v = 0 ∨ v = 1) ∧ ∀ ε', ε' = efin ε a j v → k ls r ε' μ
  | _ => False
theorem m_fits {t : FieldType} {v : Int} (ht : t = .int ∨ t = .long ∨ (∃ n, t = .object n) ∨ (∃ n, t = .array n) ∨ (t = .boolean ∧ (v = 0 ∨ v = 1))) : narrow t (m_cv (m_tag t, v)) = m_cv (m_tag t, v) ∧ fits t (m_cv (m_tag t, v)) = true := by
  rcases ht with rfl | rfl | ⟨n, rfl⟩ | ⟨n, rfl⟩ | ⟨rfl, hv⟩
  · exact ⟨rfl, rfl⟩
  · exact ⟨rfl, rfl⟩
  · show narrow _ (if v ≤ 0 then Value.null else Value.ref (v - 1).toNat) = _ ∧ fits _ (if v ≤ 0 then Value.null else Value.ref (v - 1).toNat) = true
    split <;> simp [narrow, fits, m_cv, m_tag, *]
  · show narrow _ (if v ≤ 0 then Value.null else Value.ref (v - 1).toNat) = _ ∧ fits _ (if v ≤ 0 then Value.null else Value.ref (v - 1).toNat) = true
    split <;> simp [narrow, fits, m_cv, m_tag, *]
  · rcases hv with rfl | rfl <;> exact ⟨by decide, by decide⟩
section Hp
variable {l : Launch} {bs : Nat} {D : va_G} {Da : Nat → ClassId} {own : String} {cc : ByteArray} {nL : Nat} {rt : Option FieldType} {R : Room} {ex : List ExceptionTableEntry} {nm : String} {Q X : m_Po} {B : Nat × Nat} {pc : Nat} {k : m_C}
theorem ok_gf {kk i idx N : Nat} {j : Int} {C : String} {T : u_T} (h12 : kk < 12) (hcl : vwCl[kk]? = some (C, T, N)) (hin : ∀ w ∈ u_ws C T N, w ∈ lw_tbl ∧ goodWord w = true) (hi : i < N) (hself : (T i).1 = C) (hj : j = (i : Int)) (hw : Cond.fieldLink own idx C (T i).2.1 (T i).2.2.1 ∈ lw_tbl) (hd : decode cc pc = .ok (.getfield idx, 3)) (hk : Le k (AW l bs D Da own cc nL rt R ex nm Q X B (pc + 3))) : Le (m_gf kk i j k) (AW l bs D Da own cc nL rt R ex nm Q X B pc) := by
  intro ls st ε μ h p e s m args below meth c H locs cells slots A F hS hc hs hl hst hA hR
  unfold m_gf at h
  split at h
  · rename_i a r
    obtain ⟨hk1, h⟩ := h
    subst hj
    obtain ⟨n, rfl, hn, hb, r9, b2, b3, b4⟩ := hR.obj hk1 h12
    cases b2.symm.trans hcl
    have hP : va_P D vwCl [((n : Nat), (Sum.inr (kk, (List.range N).map (fun i => m_cv (m_ft kk i, m_fv ε μ kk (n + 1) i))) : va_E))] H := by
      intro q x hx
      have hq : q = 0 := by have := (List.getElem?_eq_some_iff.mp hx).1; simpa using this
      subst hq
      cases hx
      refine ⟨_, hcl, b3.to (fun i hi => ?_)⟩
      simp [vp_V, hi]
    rw [List.map_cons, m_ref]
    refine va_get F.1 F.2.1 (Ts := u_ws C T N) (fun w hw => F.ftf.w (hin w hw).1 (hin w hw).2) (fun w h => h) F.fown F.ftf.2.2.2.2 hP 0 rfl hcl i hi (F.ftf.w hw rfl) (fun x hx => by rw [hself] at hx; exact hx) (v := m_cv (m_ft kk i, m_fv ε μ kk (n + 1) i)) (by simp [hi]) hd ?_
    exact hk _ _ _ _ h p e s m args below meth c H locs cells slots A F hS hc hs hl (m_ac (b4 i hi) (m_a2 hst)) hA hR
  · exact h.elim
theorem ok_gfN {kk i idx N : Nat} {j : Int} {C host : String} {T : u_T} (h12 : kk < 12) (hcl : vwCl[kk]? = some (C, T, N)) (hin : ∀ w ∈ u_ws C T N, w ∈ lw_tbl ∧ goodWord w = true) (hi : i < N) (hself : (T i).1 = C) (hj : j = (i : Int)) (hw : Cond.fieldLinkNest own idx C (T i).2.1 (T i).2.2.1 host ∈ lw_tbl) (hd : decode cc pc = .ok (.getfield idx, 3)) (hk : Le k (AW l bs D Da own cc nL rt R ex nm Q X B (pc + 3))) : Le (m_gf kk i j k) (AW l bs D Da own cc nL rt R ex nm Q X B pc) := by
  intro ls st ε μ h p e s m args below meth c H locs cells slots A F hS hc hs hl hst hA hR
  unfold m_gf at h
  split at h
  · rename_i a r
    obtain ⟨hk1, h⟩ := h
    subst hj
    obtain ⟨n, rfl, hn, hb, r9, b2, b3, b4⟩ := hR.obj hk1 h12
    cases b2.symm.trans hcl
    have hP : va_P D vwCl [((n : Nat), (Sum.inr (kk, (List.range N).map (fun i => m_cv (m_ft kk i, m_fv ε μ kk (n + 1) i))) : va_E))] H := by
      intro q x hx
      have hq : q = 0 := by have := (List.getElem?_eq_some_iff.mp hx).1; simpa using this
      subst hq
      cases hx
      refine ⟨_, hcl, b3.to (fun i hi => ?_)⟩
      simp [vp_V, hi]
    rw [List.map_cons, m_ref]
    refine va_getN F.1 F.2.1 (Ts := u_ws C T N) (fun w hw => F.ftf.w (hin w hw).1 (hin w hw).2) (fun w h => h) F.fown F.ftf.2.2.2.2 hP 0 rfl hcl i hi (F.ftf.n hw rfl rfl) (fun x hx => by rw [hself] at hx; exact hx) (v := m_cv (m_ft kk i, m_fv ε μ kk (n + 1) i)) (by simp [hi]) hd ?_
    exact hk _ _ _ _ h p e s m args below meth c H locs cells slots A F hS hc hs hl (m_ac (b4 i hi) (m_a2 hst)) hA hR
  · exact h.elim
/-- what a put leaves -/
theorem HR.putf {ε ε' : m_E} {μ μ' : m_M} {s : State} {H H' : Heap} {kk i N n : Nat} {C : String} {T : u_T} {v : Int} {cell : Cell} (hR : HR bs D Da ε μ s H) (h12 : kk < 12) (hcl : vwCl[kk]? = some (C, T, N)) (hi : i < N) (hbs : bs ≤ n) (hk1 : kd ε ((n : Int) + 1) = kk)
    (hk : ∀ a, kd ε' a = kd ε a) (hl : ∀ a, ln ε' a = ln ε a) (hn : nx ε' = nx ε)
    (q2 : cell.cls = D.1 kk) (q3 : cell.vm = .none) (q4 : ∀ z, z < N → cell.slots[D.2 kk z]? = some (m_cv (m_ft kk z, m_fv ε μ kk (n + 1) z))) (b4 : ∀ z, z < N → m_ok (m_ft kk z, m_fv ε μ kk (n + 1) z))
    (hap : ∀ x y, x < N → y < N → x ≠ y → D.2 kk x ≠ D.2 kk y) (hv : m_ok (m_ft kk i, v))
    (e1 : H'[n]? = some (cell.setSlot (D.2 kk i) (m_cv (m_ft kk i, v)))) (e2 : H'.size = H.size) (e3 : ∀ q, q ≠ n → H'[q]? = H[q]?)
    (hμ : ∀ b : Int, b ≠ (n : Int) + 1 → ∀ j : Int, μ' b j = μ b j ∧ fn ε' b j = fn ε b j)
    (hfi : m_fv ε' μ' kk (n + 1) i = v) (hfo : ∀ z, z < N → z ≠ i → m_fv ε' μ' kk (n + 1) z = m_fv ε μ kk (n + 1) z) : HR bs D Da ε' μ' s H' := by
  refine hR.upd n hbs hk hl hn e2 e3 hμ (fun k2 h2 h3 => ?_) (fun j2 h2 h3 => ?_)
  · have : k2 = kk := by rw [hk1] at h2; omega
    subst this
    refine ⟨hbs, _, hcl, ⟨_, e1, q2, q3, fun z hz => ?_⟩, fun z hz => ?_⟩
    · have h9 := t_set q4 hap hi (m_cv (m_ft k2 i, v)) z hz
      rw [h9]
      by_cases ez : z = i
      · subst ez; simp [updV, hfi]
      · simp only [updV, if_neg ez, hfo z hz ez]
    · by_cases ez : z = i
      · subst ez; rw [hfi]; exact hv
      · rw [hfo z hz ez]; exact b4 z hz
  · rw [hk1] at h2; omega
end Hp
