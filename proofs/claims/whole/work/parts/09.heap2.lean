/-! ===== storing into fields, arrays, making ===== -/
theorem efin_kd (ε : m_E) (a i v b : Int) : kd (efin ε a i v) b = kd ε b := rfl
section Hq
variable {l : Launch} {bs : Nat} {D : va_G} {Da : Nat → ClassId} {own : String} {cc : ByteArray} {nL : Nat} {rt : Option FieldType} {R : Room} {ex : List ExceptionTableEntry} {nm : String} {Q X : m_Po} {B : Nat × Nat} {pc : Nat} {k : m_C}
theorem m_ap {args : Array Value} {s : State} {kk N : Nat} {C : String} {T : u_T} {ty : Nat → FieldType} (hT : TF D Da s) (hcl : vwCl[kk]? = some (C, T, N)) (hin : ∀ w ∈ u_ws C T N, w ∈ lw_tbl ∧ goodWord w = true) (hty : ∀ z, z < N → parseFieldDescriptor (T z).2.2.1 = some (ty z)) (hnm : ∀ a, a < N → ∀ b, b < N → a ≠ b → (T a).2.1 ≠ (T b).2.1) : ∀ x y, x < N → y < N → x ≠ y → D.2 kk x ≠ D.2 kk y :=
  va_apart (own := "") (args := args) (Ts := u_ws C T N) (fun w hw => hT.w (hin w hw).1 (hin w hw).2) (fun w h => h) ty hty hnm hT.2.2.2.2 hcl
/-- one put, whichever link names it -/
theorem ok_put {link : Cond} {kk i idx N : Nat} {j v a : Int} {C : String} {T : u_T} {ty : Nat → FieldType} {r : m_S} {ls : m_L} {ε : m_E} {μ : m_M} {fin : Bool} (h12 : kk < 12) (hcl : vwCl[kk]? = some (C, T, N)) (hin : ∀ w ∈ u_ws C T N, w ∈ lw_tbl ∧ goodWord w = true) (hty : ∀ z, z < N → parseFieldDescriptor (T z).2.2.1 = some (ty z)) (hnm : ∀ a, a < N → ∀ b, b < N → a ≠ b → (T a).2.1 ≠ (T b).2.1)
    (hft : ∀ z, z < N → m_ft kk z = m_tag (ty z) ∧ m_ff kk z = (T z).2.2.2 ∧ (T z).1 = C) (hi : i < N) (hj : j = (i : Int)) (hff : m_ff kk i = fin)
    (hlink : (fin = false ∧ link = Cond.fieldLink own idx C (T i).2.1 (T i).2.2.1) ∨ (fin = false ∧ ∃ host, link = Cond.fieldLinkNest own idx C (T i).2.1 (T i).2.2.1 host) ∨ (fin = true ∧ nm = "<init>" ∧ C = own ∧ link = Cond.fieldLink own idx C (T i).2.1 (T i).2.2.1)) (hw : link ∈ lw_tbl)
    (hvt : ty i = .int ∨ ty i = .long ∨ (∃ n, ty i = .object n) ∨ (∃ n, ty i = .array n) ∨ (ty i = .boolean ∧ (v = 0 ∨ v = 1)))
    (hd : decode cc pc = .ok (.putfield idx, 3)) (hk1 : kd ε a = kk)
    (hk : AW l bs D Da own cc nL rt R ex nm Q X B (pc + 3) ls r (cond fin (efin ε a j v) ε) (cond fin μ (st μ a j v))) : AW l bs D Da own cc nL rt R ex nm Q X B pc ls ((m_ft kk i, v) :: (2, a) :: r) ε μ := by
  intro p e s m args below meth c H locs cells slots A F hS hc hs hl hst hA hR
  subst hj
  obtain ⟨n, rfl, hn, hb, r9, b2, ⟨cell, q1, q2, q3, q4⟩, b4⟩ := hR.obj hk1 h12
  cases b2.symm.trans hcl
  have hts : ∀ w ∈ u_ws C T N, w.before args s = true := fun w hw => F.ftf.w (hin w hw).1 (hin w hw).2
  have hK := F.ftf.2.2.2.2
  have hap := m_ap (args := args) F.ftf hcl hin hty hnm
  obtain ⟨hSl, hfc, kC, hkC, hkind⟩ := hK.1 kk _ hcl
  obtain ⟨cf, kf, fi, f, hfi, hsl⟩ := hSl i hi
  have hself := (hft i hi).2.2
  have hlay := hts _ (u_in_lay (C := C) (T := T) hi)
  have hst0 := (u_facts hfc hkC (u_lays hts (fun w h => h) hi) hfi).1
  obtain ⟨hn1, hf1⟩ := m_fits hvt
  rw [← (hft i hi).1] at hn1 hf1
  rw [List.map_cons, List.map_cons, m_ref]
  have hfi' : s.fieldFound? C (T i).2.1 (T i).2.2.1 = some (cf, kf, fi, f) := by rw [hself] at hfi; exact hfi
  have fin_case : ∀ H' : Heap, H'[n]? = some (cell.setSlot f.slot (m_cv (m_ft kk i, v))) → H'.size = H.size → (∀ q, q ≠ n → H'[q]? = H[q]?) → W p l e R s m args below meth c H' (locs ++ [⟨n, f.slot⟩]) cells slots (vx_MQ below (m_Q bs D Da rt Q) (m_X bs D Da X) args s R.cells R.slots (fun q => bs ≤ q)) (F0 m (pc + 3) A (r.map m_cv)) := by
    intro H' e1 e2 e3
    rw [hsl] at e1
    refine hk p e s m args below meth c H' _ cells slots A F (hS.put e2 e3 hb) hc hs hl (m_a2 (m_a2 hst)) hA ?_
    have hmv : m_ok (m_ft kk i, v) := m_a1 hst
    cases fin with
    | false =>
      refine HR.putf hR h12 hcl hi hb hk1 (fun _ => rfl) (fun _ => rfl) rfl q2 q3 q4 b4 hap hmv e1 e2 e3 (fun b hbn j => ⟨st_ne (fun z => hbn z.1), rfl⟩) ?_ (fun z hz hne => ?_)
      · unfold m_fv; rw [hff]; exact st_same _ _ _ _
      · unfold m_fv
        cases m_ff kk z with
        | true => rfl
        | false => exact st_ne (fun y => hne (by have := y.2; omega))
    | true =>
      refine HR.putf hR h12 hcl hi hb hk1 (fun _ => rfl) (fun _ => rfl) rfl q2 q3 q4 b4 hap hmv e1 e2 e3 (fun b hbn j => ⟨rfl, st_ne (fun z => hbn z.1)⟩) ?_ (fun z hz hne => ?_)
      · unfold m_fv; rw [hff]; exact st_same _ _ _ _
      · unfold m_fv
        cases m_ff kk z with
        | true => exact st_ne (fun y => hne (by have := y.2; omega))
        | false => rfl
  rcases hlink with ⟨hf0, rfl⟩ | ⟨hf0, host, rfl⟩ | ⟨hf0, hini, hown, rfl⟩
  · unfold u_lay at hlay
    rw [if_neg (by rw [← (hft i hi).2.1, hff, hf0]; decide)] at hlay
    have h6 := u_store hfc hkC hkind hlay hfi (hty i hi) hn1 hf1
    exact W.putK F.1 F.2.1 (f := f) ⟨F.fown, F.ftf.w hw rfl, ⟨_, _, _, hfi'⟩, hst0⟩ (by rw [q2]; exact h6) q1 q3 (by rw [hsl]; exact k2_hasslot (q4 i hi)) rfl rfl hd fin_case
  · unfold u_lay at hlay
    rw [if_neg (by rw [← (hft i hi).2.1, hff, hf0]; decide)] at hlay
    have h6 := u_store hfc hkC hkind hlay hfi (hty i hi) hn1 hf1
    exact va_WputK F.1 F.2.1 (f := f) F.fown (F.ftf.n hw rfl rfl) hfi' hst0 (by rw [q2]; exact h6) q1 q3 (by rw [hsl]; exact k2_hasslot (q4 i hi)) rfl rfl hd fin_case
  · unfold u_lay at hlay
    rw [if_pos (by rw [← (hft i hi).2.1, hff, hf0])] at hlay
    have hcf : m.cls = cf := by
      obtain ⟨_, _, c', _, _, _, -, -, hf', -, -, -, hown2, -⟩ := Cond.laysFinal_spec hlay
      have e1 : c' = cf := by have := hfi.symm.trans hf'; simp at this; exact this.1.symm
      rw [hself, hown] at hown2
      rw [← e1]; exact Option.some.inj (F.fown.symm.trans hown2)
    have h6 := u_fits hfc hkC hkind (Or.inr hlay) hfi (hty i hi) hn1 hf1
    exact W.putFinK F.1 F.2.1 F.fown (F.ftf.w hw rfl) hfi' hst0 hcf (F.fnm.trans hini) (by rw [q2]; exact h6) q1 q3 (by rw [hsl]; exact k2_hasslot (q4 i hi)) rfl rfl hd fin_case
theorem ok_pf {link : Cond} {kk i idx N : Nat} {j : Int} {C : String} {T : u_T} {ty : Nat → FieldType} (h12 : kk < 12) (hcl : vwCl[kk]? = some (C, T, N)) (hin : ∀ w ∈ u_ws C T N, w ∈ lw_tbl ∧ goodWord w = true) (hty : ∀ z, z < N → parseFieldDescriptor (T z).2.2.1 = some (ty z)) (hnm : ∀ a, a < N → ∀ b, b < N → a ≠ b → (T a).2.1 ≠ (T b).2.1)
    (hft : ∀ z, z < N → m_ft kk z = m_tag (ty z) ∧ m_ff kk z = (T z).2.2.2 ∧ (T z).1 = C) (hi : i < N) (hj : j = (i : Int)) (hff : m_ff kk i = false)
    (hlink : link = Cond.fieldLink own idx C (T i).2.1 (T i).2.2.1 ∨ ∃ host, link = Cond.fieldLinkNest own idx C (T i).2.1 (T i).2.2.1 host) (hw : link ∈ lw_tbl)
    (hvt : ty i = .int ∨ ty i = .long ∨ (∃ n, ty i = .object n) ∨ (∃ n, ty i = .array n)) (hd : decode cc pc = .ok (.putfield idx, 3)) (hk : Le k (AW l bs D Da own cc nL rt R ex nm Q X B (pc + 3))) : Le (m_pf kk i j k) (AW l bs D Da own cc nL rt R ex nm Q X B pc) := by
  intro ls sk ε μ h
  unfold m_pf at h
  split at h
  · rename_i t v a r
    cases hb : Nat.beq t (m_ft kk i) with
    | false => simp only [hb, cond_false] at h
    | true =>
      simp only [hb, cond_true] at h
      have ht : t = m_ft kk i := Nat.eq_of_beq_eq_true hb
      subst ht
      exact ok_put (fin := false) h12 hcl hin hty hnm hft hi hj hff (hlink.elim (fun z => Or.inl ⟨rfl, z⟩) (fun z => Or.inr (Or.inl ⟨rfl, z⟩))) hw (by rcases hvt with q | q | q | q; exact Or.inl q; exact Or.inr (Or.inl q); exact Or.inr (Or.inr (Or.inl q)); exact Or.inr (Or.inr (Or.inr (Or.inl q)))) hd h.1 (hk _ _ _ _ (h.2 _ rfl))
  · exact h.elim
theorem ok_pF {kk i idx N : Nat} {j : Int} {C : String} {T : u_T} {ty : Nat → FieldType} (h12 : kk < 12) (hcl : vwCl[kk]? = some (C, T, N)) (hin : ∀ w ∈ u_ws C T N, w ∈ lw_tbl ∧ goodWord w = true) (hty : ∀ z, z < N → parseFieldDescriptor (T z).2.2.1 = some (ty z)) (hnm : ∀ a, a < N → ∀ b, b < N → a ≠ b → (T a).2.1 ≠ (T b).2.1)
    (hft : ∀ z, z < N → m_ft kk z = m_tag (ty z) ∧ m_ff kk z = (T z).2.2.2 ∧ (T z).1 = C) (hi : i < N) (hj : j = (i : Int)) (hff : m_ff kk i = true)
    (hini : nm = "<init>") (hown : C = own) (hw : Cond.fieldLink own idx C (T i).2.1 (T i).2.2.1 ∈ lw_tbl)
    (hvt : ty i = .int ∨ ty i = .long ∨ (∃ n, ty i = .object n) ∨ (∃ n, ty i = .array n)) (hd : decode cc pc = .ok (.putfield idx, 3)) (hk : Le k (AW l bs D Da own cc nL rt R ex nm Q X B (pc + 3))) : Le (m_pF kk i j k) (AW l bs D Da own cc nL rt R ex nm Q X B pc) := by
  intro ls sk ε μ h
  unfold m_pF at h
  split at h
  · rename_i t v a r
    cases hb : Nat.beq t (m_ft kk i) with
    | false => simp only [hb, cond_false] at h
    | true =>
      simp only [hb, cond_true] at h
      have ht : t = m_ft kk i := Nat.eq_of_beq_eq_true hb
      subst ht
      exact ok_put (fin := true) h12 hcl hin hty hnm hft hi hj hff (Or.inr (Or.inr ⟨rfl, hini, hown, rfl⟩)) hw (by rcases hvt with q | q | q | q; exact Or.inl q; exact Or.inr (Or.inl q); exact Or.inr (Or.inr (Or.inl q)); exact Or.inr (Or.inr (Or.inr (Or.inl q)))) hd h.1 (hk _ _ _ _ (h.2 _ rfl))
  · exact h.elim
theorem ok_pz {link : Cond} {kk i idx N : Nat} {j : Int} {C : String} {T : u_T} {ty : Nat → FieldType} (h12 : kk < 12) (hcl : vwCl[kk]? = some (C, T, N)) (hin : ∀ w ∈ u_ws C T N, w ∈ lw_tbl ∧ goodWord w = true) (hty : ∀ z, z < N → parseFieldDescriptor (T z).2.2.1 = some (ty z)) (hnm : ∀ a, a < N → ∀ b, b < N → a ≠ b → (T a).2.1 ≠ (T b).2.1)
    (hft : ∀ z, z < N → m_ft kk z = m_tag (ty z) ∧ m_ff kk z = (T z).2.2.2 ∧ (T z).1 = C) (hi : i < N) (hj : j = (i : Int)) (hff : m_ff kk i = false)
    (hlink : link = Cond.fieldLink own idx C (T i).2.1 (T i).2.2.1 ∨ ∃ host, link = Cond.fieldLinkNest own idx C (T i).2.1 (T i).2.2.1 host) (hw : link ∈ lw_tbl)
    (hvt : ty i = .boolean) (hd : decode cc pc = .ok (.putfield idx, 3)) (hk : Le k (AW l bs D Da own cc nL rt R ex nm Q X B (pc + 3))) : Le (m_pz kk j k) (AW l bs D Da own cc nL rt R ex nm Q X B pc) := by
  intro ls sk ε μ h
  unfold m_pz at h
  split at h
  · rename_i v a r
    have e0 : m_ft kk i = 0 := by rw [(hft i hi).1, hvt]; rfl
    have h9 := ok_put (l := l) (bs := bs) (D := D) (Da := Da) (own := own) (cc := cc) (nL := nL) (rt := rt) (R := R) (ex := ex) (nm := nm) (Q := Q) (X := X) (B := B) (pc := pc) (fin := false) (v := v) (r := r) h12 hcl hin hty hnm hft hi hj hff (hlink.elim (fun z => Or.inl ⟨rfl, z⟩) (fun z => Or.inr (Or.inl ⟨rfl, z⟩))) hw (Or.inr (Or.inr (Or.inr (Or.inr ⟨hvt, h.2.1⟩)))) hd h.1 (hk _ _ _ _ (h.2.2 _ rfl))
    rw [e0] at h9
    exact h9
  · exact h.elim
theorem ok_pzF {kk i idx N : Nat} {j : Int} {C : String} {T : u_T} {ty : Nat → FieldType} (h12 : kk < 12) (hcl : vwCl[kk]? = some (C, T, N)) (hin : ∀ w ∈ u_ws C T N, w ∈ lw_tbl ∧ goodWord w = true) (hty : ∀ z, z < N → parseFieldDescriptor (T z).2.2.1 = some (ty z)) (hnm : ∀ a, a < N → ∀ b, b < N → a ≠ b → (T a).2.1 ≠ (T b).2.1)
    (hft : ∀ z, z < N → m_ft kk z = m_tag (ty z) ∧ m_ff kk z = (T z).2.2.2 ∧ (T z).1 = C) (hi : i < N) (hj : j = (i : Int)) (hff : m_ff kk i = true)
    (hini : nm = "<init>") (hown : C = own) (hw : Cond.fieldLink own idx C (T i).2.1 (T i).2.2.1 ∈ lw_tbl)
    (hvt : ty i = .boolean) (hd : decode cc pc = .ok (.putfield idx, 3)) (hk : Le k (AW l bs D Da own cc nL rt R ex nm Q X B (pc + 3))) : Le (m_pzF kk j k) (AW l bs D Da own cc nL rt R ex nm Q X B pc) := by
  intro ls sk ε μ h
  unfold m_pzF at h
  split at h
  · rename_i v a r
    have e0 : m_ft kk i = 0 := by rw [(hft i hi).1, hvt]; rfl
    have h9 := ok_put (l := l) (bs := bs) (D := D) (Da := Da) (own := own) (cc := cc) (nL := nL) (rt := rt) (R := R) (ex := ex) (nm := nm) (Q := Q) (X := X) (B := B) (pc := pc) (fin := true) (v := v) (r := r) h12 hcl hin hty hnm hft hi hj hff (Or.inr (Or.inr ⟨rfl, hini, hown, rfl⟩)) hw (Or.inr (Or.inr (Or.inr (Or.inr ⟨hvt, h.2.1⟩)))) hd h.1 (hk _ _ _ _ (h.2.2 _ rfl))
    rw [e0] at h9
    exact h9
  · exact h.elim
end Hq
