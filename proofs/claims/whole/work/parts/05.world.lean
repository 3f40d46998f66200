/-! ===== what the tables say, as one fact; the heap as kinds, lengths and numbers; contracts ===== -/
def m_nest : Cond → Bool
  | .fieldLinkNest .. => true
  | .methodLinkNest .. => true
  | .castable .. => true
  | .arrayOver (.object _) => true
  | .declares _ => true
  | _ => false
def m_en (k : Int) : String := if k = 1 then "java/lang/IndexOutOfBoundsException" else if k = 2 then "java/lang/IllegalArgumentException" else "java/lang/IllegalStateException"
def m_ncs : List (String × String) := [(m_en 1, m_en 2), (m_en 1, m_en 3), (m_en 2, m_en 1), (m_en 2, m_en 3), (m_en 3, m_en 1), (m_en 3, m_en 2)]
def m_tys (Da : Nat → ClassId) : List (ClassId × FieldType) := [(Da 0, .int), (Da 1, .long), (Da 2, .byte), (Da 3, .boolean), (Da 4, .object RX5), (Da 5, .object RX7), (Da 6, .object RX0), (Da 7, .object RX11)]
def m_aty (j : Nat) : FieldType := match j with
  | 0 => .int
  | 1 => .long
  | 2 => .byte
  | 3 => .boolean
  | 4 => .object RX5
  | 5 => .object RX7
  | 6 => .object RX0
  | _ => .object RX11
def m_atg (j : Nat) : Nat := match j with
  | 0 => 0
  | 1 => 1
  | 2 => 0
  | 3 => 0
  | _ => 2
theorem m_tys_at (Da : Nat → ClassId) {j : Nat} (h : j < 8) : (m_tys Da)[j]? = some (Da j, m_aty j) := by
  match j, h with
  | 0, _ => rfl
  | 1, _ => rfl
  | 2, _ => rfl
  | 3, _ => rfl
  | 4, _ => rfl
  | 5, _ => rfl
  | 6, _ => rfl
  | 7, _ => rfl
def TF (D : va_G) (Da : Nat → ClassId) (U : State) : Prop :=
  (∀ w ∈ lw_tbl, goodWord w = true → w.before #[] U = true) ∧ (∀ w ∈ lw_tbl, m_nest w = true → w.before #[] U = true) ∧ (∀ q ∈ m_ncs, va_Nc q.1 q.2 U) ∧
  (∀ (own : String) (k : Nat) (tx : String), Cond.stringRef own k tx ∈ lw_tbl → ∃ a, vk_R own k tx a U) ∧ va_K D vwCl (m_tys Da) U
theorem TF.warm {D : va_G} {Da : Nat → ClassId} {s U : State} (h : TF D Da s) (hW : s.WarmedH U.vm) : TF D Da U := by
  obtain ⟨h1, h2, h3, h4, h5⟩ := h
  refine ⟨fun w hw hg => word_at hW (good_of_word hg) (h1 w hw hg), fun w hw hn => ?_, fun q hq => va_Nc.moved hW.alike (h3 q hq), fun own k tx hm => ?_, va_K.moved hW.alike h5⟩
  · have h6 := h2 w hw hn
    cases w with
    | fieldLinkNest a i b n d h => exact va_Nw.warmF hW h6
    | methodLinkNest a i x h => exact va_Nw.warmM hW h6
    | castable C T => exact va_Nw.warmC hW h6
    | declares x => exact va_Nw.warmD hW h6
    | arrayOver t =>
      cases t with
      | object C => exact va_AO.moved (C := C) hW.alike h6
      | _ => cases hn
    | _ => cases hn
  · obtain ⟨a, ha⟩ := h4 own k tx hm
    exact ⟨a, vk_R.warm hW ha⟩
theorem TF.w {D : va_G} {Da : Nat → ClassId} {s : State} {args : Array Value} {w : Cond} (h : TF D Da s) (hm : w ∈ lw_tbl) (hg : goodWord w = true) : w.before args s = true :=
  word_at (State.WarmedH.refl s) (good_of_word hg) (h.1 w hm hg)
theorem TF.n {D : va_G} {Da : Nat → ClassId} {s : State} {args : Array Value} {w : Cond} (h : TF D Da s) (hm : w ∈ lw_tbl) (hg : m_nest w = true) (ho : w.onTables = true) : w.before args s = true :=
  va_tabs ho rfl (h.2.1 w hm hg)
/-- a field's number -/
def m_fv (ε : m_E) (μ : m_M) (k : Nat) (a : Int) (i : Nat) : Int := cond (m_ff k i) (fn ε a i) (μ a i)
def HO (bs : Nat) (D : va_G) (ε : m_E) (μ : m_M) (H : Heap) (a : Int) (n k : Nat) : Prop :=
  bs ≤ n ∧ ∃ r : vw_C, vwCl[k]? = some r ∧ t_OB n (D.1 k) r.2.2 (D.2 k) H (fun i => m_cv (m_ft k i, m_fv ε μ k a i)) ∧ ∀ i, i < r.2.2 → m_ok (m_ft k i, m_fv ε μ k a i)
def HA (bs : Nat) (Da : Nat → ClassId) (ε : m_E) (μ : m_M) (H : Heap) (a : Int) (n j : Nat) : Prop :=
  bs ≤ n ∧ 0 ≤ ln ε a ∧ ln ε a < 2147483648 ∧ H[n]? = some (arrV (Da j) (ln ε a).toNat (fun i => m_cv (m_atg j, μ a i))) ∧ ∀ i : Nat, i < (ln ε a).toNat → m_ok (m_atg j, μ a i)
def HS (bs : Nat) (ε : m_E) (μ : m_M) (U : State) (H : Heap) (a : Int) (n : Nat) : Prop :=
  n < bs ∧ 0 ≤ ln ε a ∧ ln ε a < 2147483648 ∧ va_X n (ln ε a).toNat (fun i => Int32.ofInt (μ a i)) U H ∧ ∀ i : Nat, i < (ln ε a).toNat → i32 (μ a i)
/-- the heap: every address of a kind holds what the numbers say -/
def HR (bs : Nat) (D : va_G) (Da : Nat → ClassId) (ε : m_E) (μ : m_M) (U : State) (H : Heap) : Prop :=
  nx ε = H.size + 1 ∧ (∀ a : Int, 0 ≤ kd ε a → ∃ n : Nat, a = n + 1 ∧ n < H.size) ∧
  (∀ (n k : Nat), kd ε (n + 1) = k → k < 12 → HO bs D ε μ H (n + 1) n k) ∧
  (∀ (n j : Nat), kd ε (n + 1) = 100 + j → j < 8 → HA bs Da ε μ H (n + 1) n j) ∧
  (∀ n : Nat, kd ε (n + 1) = 99 → HS bs ε μ U H (n + 1) n)
theorem HR.moved {bs : Nat} {D : va_G} {Da : Nat → ClassId} {ε : m_E} {μ : m_M} {u U : State} {H : Heap} (hvm : u.vm.Alike U.vm) (h : HR bs D Da ε μ u H) : HR bs D Da ε μ U H := by
  obtain ⟨h1, h2, h3, h4, h5⟩ := h
  refine ⟨h1, h2, h3, h4, fun n hn => ?_⟩
  obtain ⟨a1, a2, a3, a4, a5⟩ := h5 n hn
  exact ⟨a1, a2, a3, va_X.moved hvm a4, a5⟩
def SZ (bs : Nat) (U : State) (H : Heap) : Prop := vx_Zq Bundle.tN "UNASSIGNED_STACK" Bundle.steD (fun q => bs ≤ q) U H ∧ vx_Zq Bundle.tN "SUPPRESSED_SENTINEL" Bundle.listD (fun q => bs ≤ q) U H
def m_rv (rt : Option FieldType) (z : Int) : Option Value := match rt with
  | none => none
  | some ty => some (m_cv (m_tag ty, z))
def m_okr (rt : Option FieldType) (z : Int) : Prop := match rt with
  | none => True
  | some ty => m_ok (m_tag ty, z)
section Con
variable (bs : Nat) (D : va_G) (Da : Nat → ClassId)
def m_Q (rt : Option FieldType) (Q : m_Po) : Array Value → State → Outcome → State → Prop := fun _ st o t => ∃ (z : Int) (ε : m_E) (μ : m_M), o = .returned (m_rv rt z) ∧ m_okr rt z ∧ Q z ε μ ∧ HR bs D Da ε μ t t.heap ∧ va_F (fun q => bs ≤ q) st t
def m_X (X : m_Po) : String → State → State → Prop := fun E st t => ∃ (k : Int) (ε : m_E) (μ : m_M), E = m_en k ∧ X k ε μ ∧ HR bs D Da ε μ t t.heap ∧ va_F (fun q => bs ≤ q) st t
def m_P (args : List m_V) (ε : m_E) (μ : m_M) : Array Value → State → Prop := fun v U => v = (args.map m_cv).toArray ∧ (∀ x ∈ args, m_ok x) ∧ TF D Da U ∧ bs ≤ U.heap.size ∧ SZ bs U U.heap ∧ HR bs D Da ε μ U U.heap
/-- a method's contract at given arguments and memory -/
def MC (l : Launch) (y : MethodName) (hd : Cond) (rt : Option FieldType) (rm : Room) (args : List m_V) (ε : m_E) (μ : m_M) (Q X : m_Po) : Prop :=
  vx_Met l y [hd] rm (m_P bs D Da args ε μ) (m_Q bs D Da rt Q) (m_X bs D Da X) rm.cells rm.slots (fun q => bs ≤ q)
end Con
theorem m_blind {bs : Nat} {D : va_G} {Da : Nat → ClassId} {args : List m_V} {ε : m_E} {μ : m_M} : FrameBlind (m_P bs D Da args ε μ) := by
  intro a U g mk h
  obtain ⟨h1, h2, h3, h4, h5, h6⟩ := h
  exact ⟨h1, h2, h3.warm (U := U.calling g mk a) (State.WarmedH.refl U), h4, ⟨vx_Zq.moved (u := U) (U := U.calling g mk a) (Vm.Alike.refl U.vm) h5.1, vx_Zq.moved (u := U) (U := U.calling g mk a) (Vm.Alike.refl U.vm) h5.2⟩, HR.moved (u := U) (U := U.calling g mk a) (Vm.Alike.refl U.vm) h6⟩
/-- the body of a method from a point on: for all machines that stand there -/
def m_fix (l : Launch) (bs : Nat) (D : va_G) (Da : Nat → ClassId) (own : String) (cc : ByteArray) (nL : Nat) (rt : Option FieldType) (ex : List ExceptionTableEntry) (nm : String) (p : Program) (s : State) (m : MethodId) (meth : Method) (c : Code) : Prop :=
  p.tables.exec = Jvm.exec ∧ c.code = cc ∧ c.maxLocals = nL ∧ meth.sig.returnType = rt ∧ meth.locks = false ∧ s.vm.findClass own = some m.cls ∧ c.exceptionTable.toList = ex ∧ l.stackTraces = false ∧ meth.name = nm ∧ TF D Da s ∧ bs ≤ s.heap.size ∧ SZ bs s s.heap
def AW (l : Launch) (bs : Nat) (D : va_G) (Da : Nat → ClassId) (own : String) (cc : ByteArray) (nL : Nat) (rt : Option FieldType) (R : Room) (ex : List ExceptionTableEntry) (nm : String) (Q X : m_Po) (B : Nat × Nat) (pc : Nat) : m_C := fun ls st ε μ =>
  ∀ (p : Program) (e : Env) (s : State) (m : MethodId) (args : Array Value) (below : List Frame) (meth : Method) (c : Code) (H : Heap) (locs : List Loc) (cells slots : Nat) (A : Array Slot),
    m_fix l bs D Da own cc nL rt ex nm p s m meth c → va_S (fun q => bs ≤ q) s.heap H locs → cells ≤ B.1 → slots ≤ B.2 → (∀ q ∈ ls, m_ok q.2) → (∀ v ∈ st, m_ok v) → lv_has A nL (ls.map m_cl) → HR bs D Da ε μ s H →
    W p l e R s m args below meth c H locs cells slots (vx_MQ below (m_Q bs D Da rt Q) (m_X bs D Da X) args s R.cells R.slots (fun q => bs ≤ q)) (F0 m pc A (st.map m_cv))
def Le (k a : m_C) : Prop := ∀ (ls : m_L) (st : m_S) (ε : m_E) (μ : m_M), k ls st ε μ → a ls st ε μ
/-- a method's blocks, by their first program counter -/
abbrev m_B : Type := Nat → m_K → m_Po → m_Po → m_C
/-- the least set of states that the blocks bring to a good end -/
def G (cd : m_B) (Q X : m_Po) (pc : Nat) : m_C := fun ls st ε μ =>
  ∀ Z : m_K, (∀ (pc : Nat) (K : m_K), (∀ q, Le (K q) (Z q)) → Le (cd pc K Q X) (Z pc)) → Z pc ls st ε μ
theorem G_step {cd : m_B} {Q X : m_Po} {pc : Nat} {K : m_K} (hK : ∀ q, Le (K q) (G cd Q X q)) : Le (cd pc K Q X) (G cd Q X pc) := by
  intro ls st ε μ h Z hZ
  exact hZ pc K (fun q ls st ε μ hk => hK q ls st ε μ hk Z hZ) ls st ε μ h
theorem G_go {cd : m_B} {Q X : m_Po} {pc : Nat} : Le (cd pc (G cd Q X) Q X) (G cd Q X pc) := G_step (fun _ _ _ _ _ h => h)
/-- running on through further blocks, up to cut points -/
def m_run (cd : m_B) (cut : Nat → Bool) (Q X : m_Po) : Nat → m_K
  | 0, pc => G cd Q X pc
  | n + 1, pc => cond (cut pc) (G cd Q X pc) (cd pc (m_run cd cut Q X n) Q X)
theorem m_run_G {cd : m_B} {cut : Nat → Bool} {Q X : m_Po} : ∀ (n pc : Nat), Le (m_run cd cut Q X n pc) (G cd Q X pc)
  | 0, _ => fun _ _ _ _ h => h
  | n + 1, pc => by
    intro ls st ε μ h
    unfold m_run at h
    cases hc : cut pc with
    | true => rw [hc] at h; exact h
    | false => rw [hc] at h; exact G_step (fun q => m_run_G n q) ls st ε μ h
theorem G_run {cd : m_B} {Q X : m_Po} (cut : Nat → Bool) (n : Nat) {pc : Nat} : Le (cd pc (m_run cd cut Q X n) Q X) (G cd Q X pc) := G_step (fun q => m_run_G n q)
