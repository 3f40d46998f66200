set_option maxHeartbeats 2000000
/-! ===== a call whose exceptions are caught where it stands; methods with a table ===== -/
section Ca
variable {p : Program} {l : Launch} {e : Env} {R : Room} {s : State} {m : MethodId} {args : Array Value} {below : List Frame} {meth : Method} {c : Code} {H : Heap} {locs : List Loc} {cells slots : Nat} {Q : State → Prop} {pc : Nat} {ls : Array Slot} {rest : List Value}
/-- caught by the row x of this method's table; the rows ahead don't take it -/
theorem vx_catch {own name : String} {E : String} {ce : Cell} {q : Addr} (hown : s.vm.findClass own = some m.cls) (pre : List ExceptionTableEntry) (x : ExceptionTableEntry) (suf : List ExceptionTableEntry) (hsplit : c.exceptionTable.toList = pre ++ x :: suf)
    (hpass : ∀ z ∈ pre, covers z pc = false ∨ (z.catchType ≠ 0 ∧ ∃ nm : String, (Cond.classLink own z.catchType nm).before args s = true ∧ va_Nc E nm s)) (hx : covers x pc = true) (h0 : x.catchType ≠ 0)
    (hlink : (Cond.classLink own x.catchType name).before args s = true) (hcast : (Cond.castable E name).before args s = true) (hcell : H[q]? = some ce) (hv : ce.vm = .none) (hcl : s.vm.findClass E = some ce.cls)
    (kk : W p l e R s m args below meth c H locs cells slots Q (F0 m x.handlerPc ls [.ref q])) : vx_W p l e R s m args below meth c H locs cells slots Q (F0 m pc ls rest) q := by
  intro T hT X
  have hpl : e.platform.magicAccessors = ({} : Platform).magicAccessors := by rw [X.admits.platform]
  obtain ⟨c3, c4, hc3, hc4, hasg⟩ := Cond.castable_spec hcast
  cases Option.some.inj (hc3.symm.trans hcl)
  obtain ⟨c5, hc5, hcl5⟩ := Cond.classLink_spec hown hlink e.platform hpl
  cases Option.some.inj (hc4.symm.trans hc5)
  obtain ⟨vm', X', st⟩ := cq_caught X q (g := F0 m pc ls rest) rfl (by rw [hT]; exact hcell) (by rw [hv]; rfl) (by obtain ⟨k9, h9, -⟩ := Vm.findClass_spec hcl; exact ⟨k9, h9⟩) pre x suf hsplit
    (fun z hz => by
      rcases hpass z hz with h | ⟨hz0, nm, hl1, hn1⟩
      · exact Or.inl h
      · obtain ⟨c6, hc6, hcl6⟩ := Cond.classLink_spec hown hl1 e.platform hpl
        obtain ⟨a8, b8, h1, h2, h3⟩ := hn1
        cases Option.some.inj (h1.symm.trans hcl)
        cases Option.some.inj (h2.symm.trans hc6)
        exact Or.inr ⟨hz0, _, hcl6, h3⟩) hx h0 hcl5 hasg
  obtain ⟨t, a1, b1⟩ := kk (T.setVm vm') hT X'
  exact ⟨t, st.trans a1, b1⟩
end Ca
/-- what comes of an exception of the kind e: the handler of its kind -/
def m_hit (K : m_K) (ls : m_L) : List (Int × Nat) → m_Po
  | [], _, _, _ => False
  | h :: r, e, ε, μ => (e = h.1 ∧ ∀ q : Int, 0 < q → K h.2 ls [(2, q)] ε μ) ∨ (e ≠ h.1 ∧ m_hit K ls r e ε μ)
def m_hV (kk : Int) (C : m_O) (n : Nat) (t : Option Nat) (hs : List (Int × Nat)) (K : m_K) (k : m_C) : m_C := fun ls st ε μ => cond (Nat.ble n st.length && Nat.ble (m_cs (st.drop n)) 8) (match (st.take n).reverse with
  | (2, a) :: as => kd ε a = kk ∧ C ((2, a) :: as) ε μ (fun z ε' μ' => k ls (m_psh t z (st.drop n)) ε' μ') (m_hit K ls hs)
  | _ => False) False
/-- the rows of the table are the handlers hs -/
def m_hok (own : String) (pc : Nat) : List ExceptionTableEntry → List (Int × Nat) → Prop
  | [], [] => True
  | x :: xs, h :: hs => (covers x pc = true ∧ x.catchType ≠ 0 ∧ x.handlerPc = h.2 ∧ (h.1 = 1 ∨ h.1 = 2 ∨ h.1 = 3) ∧ Cond.classLink own x.catchType (m_en h.1) ∈ lw_tbl) ∧ m_hok own pc xs hs
  | _, _ => False
theorem m_hit_k {own : String} {pc : Nat} {K : m_K} {ls : m_L} {e : Int} {ε : m_E} {μ : m_M} : ∀ {xs : List ExceptionTableEntry} {hs : List (Int × Nat)}, m_hok own pc xs hs → m_hit K ls hs e ε μ → e = 1 ∨ e = 2 ∨ e = 3
  | [], [], _, h => h.elim
  | [], _ :: _, h, _ => h.elim
  | _ :: _, [], h, _ => h.elim
  | x :: xs, q :: hs, h, k => by
    rcases k with ⟨k, _⟩ | ⟨_, k⟩
    · rw [k]; exact h.1.2.2.2.1
    · exact m_hit_k h.2 k
theorem mt_CA1 : Cond.castable (m_en 1) (m_en 1) ∈ lw_tbl := mt_2 _ (List.mem_of_getElem? (i := 202) rfl)
theorem mt_CA2 : Cond.castable (m_en 2) (m_en 2) ∈ lw_tbl := mt_2 _ (List.mem_of_getElem? (i := 92) rfl)
theorem mt_CA3 : Cond.castable (m_en 3) (m_en 3) ∈ lw_tbl := mt_2 _ (List.mem_of_getElem? (i := 159) rfl)
theorem m_castw : ∀ k : Int, k = 1 ∨ k = 2 ∨ k = 3 → Cond.castable (m_en k) (m_en k) ∈ lw_tbl := by
  intro k h
  rcases h with h | h | h <;> subst h
  · exact mt_CA1
  · exact mt_CA2
  · exact mt_CA3
theorem m_ncw {k j : Int} (hk : k = 1 ∨ k = 2 ∨ k = 3) (hj : j = 1 ∨ j = 2 ∨ j = 3) (h : k ≠ j) : (m_en k, m_en j) ∈ m_ncs := by
  rcases hk with e | e | e <;> rcases hj with e' | e' | e' <;> subst e <;> subst e' <;> first | exact absurd rfl h | decide
section Cb
variable {l : Launch} {bs : Nat} {D : va_G} {Da : Nat → ClassId} {own : String} {cc : ByteArray} {nL : Nat} {rt : Option FieldType} {R : Room} {ex : List ExceptionTableEntry} {nm : String} {Q X : m_Po} {B : Nat × Nat} {pc : Nat} {k : m_C}
theorem m_hcatch {p : Program} {e : Env} {s : State} {m : MethodId} {args : Array Value} {below : List Frame} {meth : Method} {c : Code} {H1 : Heap} {locs1 : List Loc} {cells slots : Nat} {A : Array Slot} {rest : List Value} {Qf : State → Prop} (F : m_fix l bs D Da own cc nL rt ex nm p s m meth c) {K : m_K} {ls : m_L} {z : Int} {ε' : m_E} {μ' : m_M} {q : Addr} {ce : Cell} (hce : H1[q]? = some ce) (hcv : ce.vm = .none) (hcl : s.vm.findClass (m_en z) = some ce.cls) (hz : z = 1 ∨ z = 2 ∨ z = 3) :
    ∀ (xs : List ExceptionTableEntry) (hs : List (Int × Nat)) (pre : List ExceptionTableEntry), ex = pre ++ xs → m_hok own pc xs hs → (∀ w ∈ pre, covers w pc = false ∨ (w.catchType ≠ 0 ∧ ∃ nm : String, (Cond.classLink own w.catchType nm).before args s = true ∧ va_Nc (m_en z) nm s)) → m_hit K ls hs z ε' μ' →
      (∀ h ∈ hs, K h.2 ls [(2, (q : Int) + 1)] ε' μ' → W p l e R s m args below meth c H1 locs1 cells slots Qf (F0 m h.2 A [.ref q])) → vx_W p l e R s m args below meth c H1 locs1 cells slots Qf (F0 m pc A rest) q
  | [], [], _, _, _, _, h, _ => h.elim
  | [], _ :: _, _, _, h, _, _, _ => h.elim
  | _ :: _, [], _, _, h, _, _, _ => h.elim
  | x :: xs, h :: hs, pre, hsp, hok, hpass, hit, kk => by
    obtain ⟨⟨o1, o2, o3, o4, o5⟩, ok⟩ := hok
    rcases hit with ⟨e1, hit⟩ | ⟨e1, hit⟩
    · refine vx_catch (own := own) (name := m_en h.1) F.fown pre x xs (by rw [F.fex]; exact hsp) hpass o1 o2 (F.ftf.w o5 rfl) ?_ hce hcv hcl ?_
      · rw [e1]; exact F.ftf.n (m_castw _ o4) rfl rfl
      · rw [o3]; exact kk h List.mem_cons_self (hit _ (by omega))
    · refine m_hcatch F hce hcv hcl hz xs hs (pre ++ [x]) (by rw [hsp]; simp) ok (fun w hw => ?_) hit (fun h' hm => kk h' (List.mem_cons_of_mem _ hm))
      rcases List.mem_append.mp hw with hw | hw
      · exact hpass w hw
      · rw [List.mem_singleton.mp hw]
        exact Or.inr ⟨o2, m_en h.1, F.ftf.w o5 rfl, F.ftf.2.2.1 _ (m_ncw hz o4 e1)⟩
theorem ok_hV {kz : Int} {kk idx n maxL N : Nat} {C0 : String} {T : u_T} {y : MethodName} {bytes : ByteArray} {rt' : Option FieldType} {rm : Room} {C : m_O} {hs : List (Int × Nat)} {K : m_K} (hkz : kz = kk) (h12 : kk < 12) (hcl : vwCl[kk]? = some (C0, T, N)) (hsnd : Snd l bs D Da y (.code y bytes maxL rt') rt' rm C) (hsite : m_site R B y bytes maxL rt' rm n) (hw1 : Cond.instanceMethod y ∈ lw_tbl)
    (hd : decode cc pc = .ok (.invokevirtual idx, 3)) (hsel : Cond.selects C0 y y ∈ lw_tbl) (hlk : Cond.methodLink own idx y ∈ lw_tbl) (hh : m_hok own pc ex hs) (hks : ∀ q ∈ hs, Le (K q.2) (AW l bs D Da own cc nL rt R ex nm Q X (B.1 + rm.cells, B.2 + rm.slots) q.2))
    (hk : Le k (AW l bs D Da own cc nL rt R ex nm Q X (B.1 + rm.cells, B.2 + rm.slots) (pc + 3))) : Le (m_hV kz C (n + 1) (m_rt rt') hs K k) (AW l bs D Da own cc nL rt R ex nm Q X B pc) := by
  intro ls st ε μ h p e s m args below meth c H locs cells slots A F hS hc hs' hl hst hA hR
  unfold m_hV at h
  cases hb : (Nat.ble (n + 1) st.length && Nat.ble (m_cs (st.drop (n + 1))) 8) with
  | false => simp only [hb, cond_false] at h
  | true =>
    simp only [hb, cond_true] at h
    rw [Bool.and_eq_true] at hb
    have hn : n + 1 ≤ st.length := Nat.le_of_ble_eq_true hb.1
    have h8 : m_cs (st.drop (n + 1)) ≤ 8 := Nat.le_of_ble_eq_true hb.2
    split at h
    · rename_i a as hta
      obtain ⟨hk1, h⟩ := h
      obtain ⟨b, rfl, hbs, hbb, r9, b2, ⟨cell, g1, g2, g3, g4⟩, b4⟩ := hR.obj (hk1.trans hkz) h12
      cases b2.symm.trans hcl
      obtain ⟨q1, q2, q3, q4, q5, q6⟩ := hsite
      have hlen : (as.map m_cv).length = n := by
        have := congrArg List.length hta
        simp at this
        simp; omega
      have hroom : 2 * (F0 m pc A (st.map m_cv)).monitorRoom + (((st.drop (n + 1)).map m_cv).map fun v => v.category).sum ≤ 8 := lv_room (by rw [m_cs_sum]; exact h8)
      have hM := hsnd _ _ _ _ _ h
      have hvs : (Value.ref b :: as.map m_cv).toArray = (((2, (b : Int) + 1) :: as).map m_cv).toArray := by rw [List.map_cons, m_ref]
      have hok9 : ∀ v ∈ (2, (b : Int) + 1) :: as, m_ok v := by rw [← hta]; exact m_argok hst
      have hpre := m_pre F hS hR hok9 hvs
      have hobj : ∃ cellB : Cell, H[b]? = some cellB ∧ cellB.vm.isStatics = false ∧ s.vm.findClass C0 = some cellB.cls := ⟨cell, g1, by rw [g3]; rfl, by rw [g2]; exact (F.ftf.2.2.2.2.1 _ _ hcl).2.1⟩
      refine m_goesX (vx_runV (Ts := []) (own := own) (C := C0) (b := b) (bytes := bytes) (maxL := maxL) (nL := nL) (n := n) (index := idx) (ret := rt') (As := as.map m_cv) (rest := (st.drop (n + 1)).map m_cv) ⟨F.1, F.2.1, F.2.2.1, F.fown, fun w hw => nomatch hw⟩ hM ⟨⟨rfl, rfl, q5.1, q5.2, m_ws F.ftf q1 rfl, List.mem_cons_self, F.ftf.w q1 rfl, F.ftf.w q2 rfl, q3, m_len1 q4, F.ftf.w hlk rfl⟩, F.ftf.w hw1 rfl, F.ftf.w hsel rfl⟩ ⟨m_blind, hobj, hpre⟩ rfl hlen hA.1 (m_splitv hn hta) hroom hd ⟨by omega, by omega⟩) hS (fun z ε' μ' H1 locs1 q ce hx hR' hS' hce hcv hcl' => ?_) (fun z ε' μ' H1 locs1 hz hq hR' hS' => ?_)
      · refine m_hcatch F hce hcv hcl' (m_hit_k hh hx) ex hs [] rfl hh (fun w hw => nomatch hw) hx (fun h9 hm hK9 => ?_)
        have := hks h9 hm _ _ _ _ hK9 p e s m args below meth c H1 locs1 (cells + rm.cells) (slots + rm.slots) A F hS' (by show _ ≤ B.1 + rm.cells; omega) (by show _ ≤ B.2 + rm.slots; omega) hl (m_ac (v := (2, (q : Int) + 1)) (show (0 : Int) ≤ (q : Int) + 1 by omega) (fun v hv => nomatch hv)) hA hR'
        rw [List.map_cons, m_ref] at this
        exact this
      · rw [← m_psh_rv]
        exact hk _ _ _ _ hq p e s m args below meth c H1 locs1 (cells + rm.cells) (slots + rm.slots) A F hS' (by show _ ≤ B.1 + rm.cells; omega) (by show _ ≤ B.2 + rm.slots; omega) hl (m_psh_ok hz (m_restok hst)) hA hR'
    · exact h.elim
end Cb
/-- a method with a table out of its blocks -/
theorem m_methodH {l : Launch} {bs : Nat} {D : va_G} {Da : Nat → ClassId} {cc : ByteArray} {nL : Nat} {rt : Option FieldType} {R : Room} {bud : Nat → Nat × Nat} {cd : m_B} {y : MethodName} {hh : List (Nat × Nat × Nat × Nat)} (htr : l.stackTraces = false) (hy : plainName y.cls = true) (h : OkM l bs D Da y.cls cc nL rt R (tableOf hh) y.name bud cd) : Snd l bs D Da y (.codeWith y cc nL rt hh) rt R (m_ent cd nL) := by
  intro as ε μ Q X hC
  obtain ⟨hfit, hG⟩ := hC
  refine vx_ofWH (cc := cc) (maxL := nL) (ret := rt) (hh := hh) hy rfl ?_
  intro p e s m args below meth c s₁ B hml hv
  have hexn : c.exceptionTable.toList = tableOf hh := vx_table (x := y) B (atoms_spec (ws := [Cond.codeWith y cc nL rt hh]) B.pre _ List.mem_cons_self)
  obtain ⟨rfl, hok, hT, hb, hZ, hR⟩ := hv
  have hl := lv_entry (as.map m_cv) (n := nL) (by rw [m_sl_len]; exact Nat.le_of_ble_eq_true hfit)
  rw [lg_entry_eq]
  generalize (lg_sl (as.map m_cv) ++ List.replicate (nL - (lg_sl (as.map m_cv)).length) Slot.unset).toArray = A at hl ⊢
  rw [m_args_lv] at hl
  exact G_AW h Q X 0 _ _ _ _ hG p e s m _ below meth c s.heap [] 0 0 A ⟨B.exec, B.bytes, hml, B.returns, B.notSynchronized, findClass_of_methodNamed B.named, hexn, htr, (name_of_methodNamed B.named B.method).1, hT, hb, hZ⟩ va_S.rf (Nat.zero_le _) (Nat.zero_le _) (m_args_ok hok) (fun v hv => nomatch hv) hl hR
/-- a call of a static method with a table, of which nothing comes but a return -/
def m_siteW (R : Room) (B : Nat × Nat) (y : MethodName) (bytes : ByteArray) (maxL : Nat) (rt' : Option FieldType) (hh : List (Nat × Nat × Nat × Nat)) (rm : Room) (n : Nat) : Prop :=
  Cond.codeWith y bytes maxL rt' hh ∈ lw_tbl ∧ Cond.initialized y.cls ∈ lw_tbl ∧ (y.cls ≠ "java/lang/invoke/MethodHandle" ∧ y.cls ≠ "java/lang/invoke/VarHandle") ∧ (parseMethodDescriptor y.desc).map (fun d => d.parameters.length) = some n ∧ (rm.frames + 1 ≤ R.frames ∧ 8 + (maxL + 11) + rm.locals ≤ R.locals) ∧ (B.1 + rm.cells ≤ R.cells ∧ B.2 + rm.slots ≤ R.slots)
def m_staW (y : MethodName) (bytes : ByteArray) (maxL : Nat) (rt' : Option FieldType) (hh : List (Nat × Nat × Nat × Nat)) (n : Nat) : Prop :=
  Cond.codeWith y bytes maxL rt' hh ∈ lw_tbl ∧ Cond.initialized y.cls ∈ lw_tbl ∧ (y.cls ≠ "java/lang/invoke/MethodHandle" ∧ y.cls ≠ "java/lang/invoke/VarHandle") ∧ (parseMethodDescriptor y.desc).map (fun d => d.parameters.length) = some n
theorem m_siteW_of {R : Room} {B : Nat × Nat} {y : MethodName} {bytes : ByteArray} {maxL : Nat} {rt' : Option FieldType} {hh : List (Nat × Nat × Nat × Nat)} {rm : Room} {n : Nat} (h : m_staW y bytes maxL rt' hh n) (h1 : rm.frames + 1 ≤ R.frames ∧ 8 + (maxL + 11) + rm.locals ≤ R.locals) (h2 : B.1 + rm.cells ≤ R.cells ∧ B.2 + rm.slots ≤ R.slots) : m_siteW R B y bytes maxL rt' hh rm n := ⟨h.1, h.2.1, h.2.2.1, h.2.2.2, h1, h2⟩
section Cc
variable {l : Launch} {bs : Nat} {D : va_G} {Da : Nat → ClassId} {own : String} {cc : ByteArray} {nL : Nat} {rt : Option FieldType} {R : Room} {ex : List ExceptionTableEntry} {nm : String} {Q X : m_Po} {B : Nat × Nat} {pc : Nat} {k : m_C}
theorem ok_cSW {idx n maxL : Nat} {y : MethodName} {bytes : ByteArray} {rt' : Option FieldType} {hh : List (Nat × Nat × Nat × Nat)} {rm : Room} {C : m_O} (hsnd : Snd l bs D Da y (.codeWith y bytes maxL rt' hh) rt' rm C) (hsite : m_siteW R B y bytes maxL rt' hh rm n) (hw1 : Cond.static y ∈ lw_tbl) (hlk : Cond.methodLink own idx y ∈ lw_tbl) (hd : decode cc pc = .ok (.invokestatic idx, 3)) (hk : Le k (AW l bs D Da own cc nL rt R ex nm Q X (B.1 + rm.cells, B.2 + rm.slots) (pc + 3))) : Le (m_cS C n (m_rt rt') k) (AW l bs D Da own cc nL rt R ex nm Q X B pc) := by
  intro ls st ε μ h p e s m args below meth c H locs cells slots A F hS hc hs hl hst hA hR
  unfold m_cS at h
  cases hb : (Nat.ble n st.length && Nat.ble (m_cs (st.drop n)) 8) with
  | false => simp only [hb, cond_false] at h
  | true =>
    simp only [hb, cond_true] at h
    rw [Bool.and_eq_true] at hb
    have hn : n ≤ st.length := Nat.le_of_ble_eq_true hb.1
    have h8 : m_cs (st.drop n) ≤ 8 := Nat.le_of_ble_eq_true hb.2
    obtain ⟨q1, q2, q3, q4, q5, q6⟩ := hsite
    have hlen : (((st.take n).reverse).map m_cv).length = n := by simp; omega
    have hroom : 2 * (F0 m pc A (st.map m_cv)).monitorRoom + (((st.drop n).map m_cv).map fun v => v.category).sum ≤ 8 := lv_room (by rw [m_cs_sum]; exact h8)
    have kk : ∀ (z : Int) (ε' : m_E) (μ' : m_M) (H1 : Heap) (locs1 : List Loc), m_okr rt' z → k ls (m_psh (m_rt rt') z (st.drop n)) ε' μ' → HR bs D Da ε' μ' s H1 → va_S (fun q => bs ≤ q) s.heap H1 locs1 → W p l e R s m args below meth c H1 locs1 (cells + rm.cells) (slots + rm.slots) (vx_MQ below (m_Q bs D Da rt Q) (m_X bs D Da X) args s R.cells R.slots (fun q => bs ≤ q)) (F0 m (pc + 3) A ((m_rv rt' z).toList ++ (st.drop n).map m_cv)) := by
      intro z ε' μ' H1 locs1 hz hq hR' hS'
      rw [← m_psh_rv]
      exact hk _ _ _ _ hq p e s m args below meth c H1 locs1 (cells + rm.cells) (slots + rm.slots) A F hS' (by show _ ≤ B.1 + rm.cells; omega) (by show _ ≤ B.2 + rm.slots; omega) hl (m_psh_ok hz (m_restok hst)) hA hR'
    have hM := (hsnd _ _ _ _ _ h).met
    have hpre : PreS s H (m_P bs D Da ((st.take n).reverse) ε μ) (((st.take n).reverse).map m_cv) := ⟨m_blind, m_pre F hS hR (m_argok hst) rfl⟩
    exact m_goes (vx_runSW (Ts := []) (own := own) (bytes := bytes) (maxL := maxL) (hh := hh) (nL := nL) (n := n) (index := idx) (ret := rt') (As := ((st.take n).reverse).map m_cv) (rest := (st.drop n).map m_cv) ⟨F.1, F.2.1, F.2.2.1, F.fown, fun w hw => nomatch hw⟩ hM ⟨⟨rfl, rfl, q5.1, q5.2, m_ws F.ftf q1 rfl, List.mem_cons_self⟩, F.ftf.w q1 rfl, F.ftf.w q2 rfl, q3, m_len1 q4, F.ftf.w hlk rfl, F.ftf.w hw1 rfl⟩ hpre rfl hlen hA.1 (m_splits hn) hroom hd ⟨by omega, by omega⟩) hS kk
end Cc
