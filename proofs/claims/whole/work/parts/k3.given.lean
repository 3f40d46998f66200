set_option maxHeartbeats 4000000
/-! ===== what the start gives: tables, classes, statics, the script ===== -/
theorem arr_prim {args : Array Value} {s : State} {ty : FieldType} (h : (Cond.arrayClass ty).before args s = true) : ∃ c, ArrOfT s c ty ∧ s.vm.findClass ("[" ++ ty.toString) = some c := by
  obtain ⟨c, k, comp, h1, h2, h3⟩ := Cond.arrayClass_spec h
  exact ⟨c, fun n z => ⟨fun k h => (by cases h), k, h2, comp, h3⟩, h1⟩
theorem arr_obj {args : Array Value} {s : State} {C : String} (h : (Cond.arrayOver (.object C)).before args s = true) : ∃ c, ArrOfT s c (.object C) ∧ va_RA s c (.object C) := by
  obtain ⟨comp, c, k, h1, h2, h3, h4, h5⟩ := Cond.arrayOver_spec h
  exact ⟨c, fun n z => ⟨(fun k h => by cases h), k, h3, comp, h4⟩, k, comp, h3, h4, h1, h5⟩
def st_ok (w : Cond) : Bool := match w with
  | .stringRef own k _ => decide (Cond.exactly (.string own k) "java/lang/String" ∈ flatC (Jvm.Cond.and given_1 narrow_1))
  | _ => true
theorem st_all : ∀ w ∈ lw_tbl, st_ok w = true := by decide +kernel
theorem tf_start {s : State} {args : Array Value} (hts : ∀ w ∈ lw_tbl, w.before args s = true) (hg : (Jvm.Cond.and given_1 narrow_1).before args s = true) : ∃ (D : va_G) (Da : Nat → ClassId), TF D Da s := by
  have hs := flat_of_before _ hg
  have hin : ∀ {C : String} {T : u_T} {N : Nat}, (∀ w ∈ u_ws C T N, w ∈ lw_tbl ∧ goodWord w = true) → ∀ w ∈ u_ws C T N, w ∈ lw_tbl := fun h w hw => (h w hw).1
  obtain ⟨c0, i0, K0⟩ := u_known (C := RX0) (T := TX0) (N := 19) (n := 19) hts (hin m_in0) (hts _ mw_613)
  obtain ⟨c1, i1, K1⟩ := u_known (C := RX1) (T := TX1) (N := 8) (n := 8) hts (hin m_in1) (hts _ mw_530)
  obtain ⟨c2, i2, K2⟩ := u_known (C := RX2) (T := TX2) (N := 5) (n := 5) hts (hin m_in2) (hts _ mw_535)
  obtain ⟨c3, i3, K3⟩ := u_known (C := RX3) (T := TX3) (N := 8) (n := 8) hts (hin m_in3) (hts _ mw_540)
  obtain ⟨c4, i4, K4⟩ := u_known (C := RX4) (T := TX4) (N := 4) (n := 4) hts (hin m_in4) (hts _ mw_550)
  obtain ⟨c5, i5, K5⟩ := u_known (C := RX5) (T := TX5) (N := 3) (n := 3) hts (hin m_in5) (hts _ mw_561)
  obtain ⟨c6, i6, K6⟩ := u_known (C := RX7) (T := TX7) (N := 9) (n := 9) hts (hin m_in6) (hts _ mw_595)
  obtain ⟨c7, i7, K7⟩ := u_known (C := RX8) (T := TX8) (N := 10) (n := 10) hts (hin m_in7) (hts _ mw_545)
  obtain ⟨c8, i8, K8⟩ := u_known (C := RX9) (T := TX9) (N := 2) (n := 2) hts (hin m_in8) (hts _ mw_202)
  obtain ⟨c9, i9, K9⟩ := u_known (C := RX10) (T := TX10) (N := 12) (n := 12) hts (hin m_in9) (hts _ mv_1211)
  obtain ⟨c10, i10, K10⟩ := u_known (C := RX11) (T := TX11) (N := 2) (n := 2) hts (hin m_in10) (hts _ mw_821)
  obtain ⟨c11, i11, K11⟩ := u_known (C := RX12) (T := TX12) (N := 68) (n := 68) hts (hin m_in11) (hts _ mv_1215)
  obtain ⟨a0, A0, B0⟩ := arr_prim (hts _ mw_3)
  obtain ⟨a1, A1, B1⟩ := arr_prim (hts _ mw_118)
  obtain ⟨a2, A2, B2⟩ := arr_prim (hts _ mw_389)
  obtain ⟨a3, A3, B3⟩ := arr_prim (hts _ mw_24)
  obtain ⟨a4, A4, B4⟩ := arr_obj (hts _ mw_522)
  obtain ⟨a5, A5, B5⟩ := arr_obj (hts _ mw_21)
  obtain ⟨a6, A6, B6⟩ := arr_obj (hts _ mw_527)
  obtain ⟨a7, A7, B7⟩ := arr_obj (hts _ mw_820)
  refine ⟨(fun k => [c0, c1, c2, c3, c4, c5, c6, c7, c8, c9, c10, c11].getD k c0, fun k => [i0, i1, i2, i3, i4, i5, i6, i7, i8, i9, i10, i11].getD k i0), fun k => [a0, a1, a2, a3, a4, a5, a6, a7].getD k a0, fun w hw hgw => word_at (State.WarmedH.refl s) (good_of_word hgw) (hts w hw), fun w hw hn => ?_, fun q hq => ?_, fun own k tx hm => ?_, fun k q hq => ?_, fun k q hq => ?_⟩
  · have h6 := hts w hw
    cases w with
    | fieldLinkNest a i b n d h => exact va_tabs rfl rfl h6
    | methodLinkNest a i x h => exact va_tabs rfl rfl h6
    | castable C T => exact va_tabs rfl rfl h6
    | declares x => exact va_tabs rfl rfl h6
    | arrayOver t =>
      cases t with
      | object C => exact va_AO.use (va_AO.of h6)
      | _ => cases hn
    | _ => cases hn
  · have h9 : ∀ q ∈ m_ncs, Cond.not (.castable q.1 q.2) ∈ flatC (Jvm.Cond.and given_1 narrow_1) := by decide +kernel
    exact va_Nc.of (hs _ (h9 q hq))
  · have h9 := st_all _ hm
    have h8 : Cond.exactly (.string own k) "java/lang/String" ∈ flatC (Jvm.Cond.and given_1 narrow_1) := of_decide_eq_true h9
    obtain ⟨a, c, cA, kA, q1, -⟩ := Cond.exactly_spec (args := args) (first := s) (o := none) (s := s) (idx := []) (t := .string own k) (cls := "java/lang/String") (hs _ h8)
    exact ⟨a, vk_R.of (A := args) (hts _ hm) q1⟩
  · have h12 : k < 12 := (List.getElem?_eq_some_iff.mp hq).1
    match k, h12, hq with
    | 0, _, hq => cases hq; exact K0
    | 1, _, hq => cases hq; exact K1
    | 2, _, hq => cases hq; exact K2
    | 3, _, hq => cases hq; exact K3
    | 4, _, hq => cases hq; exact K4
    | 5, _, hq => cases hq; exact K5
    | 6, _, hq => cases hq; exact K6
    | 7, _, hq => cases hq; exact K7
    | 8, _, hq => cases hq; exact K8
    | 9, _, hq => cases hq; exact K9
    | 10, _, hq => cases hq; exact K10
    | 11, _, hq => cases hq; exact K11
  · have h8 : k < 8 := (List.getElem?_eq_some_iff.mp hq).1
    match k, h8, hq with
    | 0, _, hq => cases hq; exact ⟨A0, B0⟩
    | 1, _, hq => cases hq; exact ⟨A1, B1⟩
    | 2, _, hq => cases hq; exact ⟨A2, B2⟩
    | 3, _, hq => cases hq; exact ⟨A3, B3⟩
    | 4, _, hq => cases hq; exact ⟨A4, B4⟩
    | 5, _, hq => cases hq; exact ⟨A5, B5⟩
    | 6, _, hq => cases hq; exact ⟨A6, B6⟩
    | 7, _, hq => cases hq; exact ⟨A7, B7⟩
theorem sz_start {s : State} {args : Array Value} (hts : ∀ w ∈ lw_tbl, w.before args s = true) (hg : (Jvm.Cond.and given_1 narrow_1).before args s = true) : SZ s.heap.size s s.heap := by
  have hs := flat_of_before _ hg
  exact ⟨vx_Zqof (hts _ (by decide +kernel)) (hts _ (by decide +kernel)) (hs _ (by decide +kernel)) (fun a h => Nat.not_le.mpr h), vx_Zqof (hts _ (by decide +kernel)) (hts _ (by decide +kernel)) (hs _ (by decide +kernel)) (fun a h => Nat.not_le.mpr h)⟩
def e_st (b L n : Nat) : m_E := (fun a => if a = (b : Int) + 1 then 99 else -1, fun a => if a = (b : Int) + 1 then (L : Int) else 0, fun _ _ => 0, (n : Int) + 1)
def u_st (xs : Nat → Int32) : m_M := fun _ i => (xs i.toNat).toInt
theorem hr_start {s : State} {b L : Nat} {xs : Nat → Int32} {D : va_G} {Da : Nat → ClassId} (hL : L ≤ 3584) (hX : va_X b L xs s s.heap) (hb : b < s.heap.size) : HR s.heap.size D Da (e_st b L s.heap.size) (u_st xs) s s.heap := by
  have k99 : ∀ a : Int, kd (e_st b L s.heap.size) a = 99 ∧ a = (b : Int) + 1 ∨ kd (e_st b L s.heap.size) a = -1 := fun a => by
    show (if a = (b : Int) + 1 then (99 : Int) else -1) = 99 ∧ _ ∨ (if a = (b : Int) + 1 then (99 : Int) else -1) = -1
    by_cases z : a = (b : Int) + 1
    · exact Or.inl ⟨if_pos z, z⟩
    · exact Or.inr (if_neg z)
  refine ⟨rfl, fun a ha => ?_, fun n k hk h12 => ?_, fun n j hk hj => ?_, fun n hn => ?_⟩
  · rcases k99 a with ⟨_, e⟩ | e
    · exact ⟨b, e, hb⟩
    · omega
  · rcases k99 ((n : Int) + 1) with ⟨e, _⟩ | e <;> omega
  · rcases k99 ((n : Int) + 1) with ⟨e, _⟩ | e <;> omega
  · rcases k99 ((n : Int) + 1) with ⟨_, e⟩ | e
    · have eb : n = b := by omega
      subst eb
      have el : ln (e_st n L s.heap.size) ((n : Int) + 1) = (L : Int) := if_pos rfl
      refine ⟨hb, by omega, by omega, ?_, fun i _ => toInt_i32 _⟩
      rw [el, Int.toNat_natCast]
      have ex : (fun i : Nat => Int32.ofInt (u_st xs ((n : Int) + 1) (i : Int))) = xs := funext fun i => by
        show Int32.ofInt (xs (i : Int).toNat).toInt = xs i
        rw [to32, Int.toNat_natCast]
      rw [ex]; exact hX
    · omega
