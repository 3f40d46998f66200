set_option maxHeartbeats 2000000
theorem mk12_641 {Q Y : m_Po} {ε0 ε : m_E} {μ0 μ : m_M} {X : Int} (hh : ∀ ε μ, MK ε0 μ0 X 141 mL12_z mF12_z mS12_z ε μ → Q 0 ε μ) (H : MK ε0 μ0 X 136 mL12_641 mF12_641 mS12_641 ε μ) : G cd_X12_init Q Y 641 [(0, (2, X + 34))] [(2, X + 134), (0, 4), (2, X + 125), (2, X + 125), (2, X + 34)] ε μ := by
  apply g_X12_init_641
  intro _ _
  refine ⟨H.k 10 rfl, ?_⟩
  refine ⟨by decide, by rw [H.n 10 rfl]; decide, ?_⟩
  refine ⟨Or.inr (H.k 1 rfl), ?_⟩
  intro μ hm
  replace H := MK.st' (d := 125) (j := 4) (r := 1) (v := 134) H (by decide) hm (by omega)
  clear hm
  refine ⟨H.k 101 rfl, ?_⟩
  intro ε he
  replace H := MK.fi (d := 34) (i := 58) (v := 125) H (by decide) he (by decide +kernel)
  clear he
  intro a ε μ ha he hm
  obtain ⟨ea, H⟩ := MK.al (D' := 137) H (by decide) ha he hm
  clear ha he hm
  subst ea
  refine ⟨H.k 102 rfl, ?_⟩
  intro ε he
  replace H := MK.fi (d := 34) (i := 60) (v := 136) H (by decide) he (by decide +kernel)
  clear he
  intro a ε μ ha he hm
  obtain ⟨ea, H⟩ := MK.al (D' := 138) H (by decide) ha he hm
  clear ha he hm
  subst ea
  refine ⟨H.k 103 rfl, ?_⟩
  intro ε he
  replace H := MK.fi (d := 34) (i := 61) (v := 137) H (by decide) he (by decide +kernel)
  clear he
  intro a ε μ ha he hm
  obtain ⟨ea, H⟩ := MK.al (D' := 139) H (by decide) ha he hm
  clear ha he hm
  subst ea
  refine ⟨H.k 104 rfl, ?_⟩
  intro ε he
  replace H := MK.fi (d := 34) (i := 62) (v := 138) H (by decide) he (by decide +kernel)
  clear he
  intro a ε μ ha he hm
  obtain ⟨ea, H⟩ := MK.al (D' := 140) H (by decide) ha he hm
  clear ha he hm
  subst ea
  refine ⟨H.k 105 rfl, ?_⟩
  intro ε he
  replace H := MK.fi (d := 34) (i := 64) (v := 139) H (by decide) he (by decide +kernel)
  clear he
  intro a ε μ ha he hm
  obtain ⟨ea, H⟩ := MK.al (D' := 141) H (by decide) ha he hm
  clear ha he hm
  subst ea
  refine ⟨H.k 106 rfl, ?_⟩
  intro ε he
  replace H := MK.fi (d := 34) (i := 65) (v := 140) H (by decide) he (by decide +kernel)
  clear he
  refine ⟨H.k 106 rfl, ?_⟩
  intro μ hm
  replace H := MK.st' (d := 34) (j := 66) (r := 0) (v := -1) H (by decide) hm (by omega)
  clear hm
  exact hh _ _ H
theorem mk12_631 {Q Y : m_Po} {ε0 ε : m_E} {μ0 μ : m_M} {X : Int} (hh : ∀ ε μ, MK ε0 μ0 X 141 mL12_z mF12_z mS12_z ε μ → Q 0 ε μ) (H : MK ε0 μ0 X 134 mL12_631 mF12_631 mS12_631 ε μ) : G cd_X12_init Q Y 631 [(0, (2, X + 34))] [(2, X + 132), (0, 3), (2, X + 125), (2, X + 125), (2, X + 34)] ε μ := by
  apply g_X12_init_631
  intro _ _
  refine ⟨H.k 8 rfl, ?_⟩
  refine ⟨by decide, by rw [H.n 8 rfl]; decide, ?_⟩
  refine ⟨Or.inr (H.k 1 rfl), ?_⟩
  intro μ hm
  replace H := MK.st' (d := 125) (j := 3) (r := 1) (v := 132) H (by decide) hm (by omega)
  clear hm
  intro a ε μ ha he hm
  obtain ⟨ea, H⟩ := MK.al (D' := 135) H (by decide) ha he hm
  clear ha he hm
  subst ea
  refine ⟨H.k 0 rfl, ?_⟩
  refine mk_X11 (D' := 136) (d := 134) H (by decide) (by decide) (H.k 0 rfl) (by decide +kernel) (fun ε μ H => ?_)
  exact mk12_641 hh H
theorem mk12_621 {Q Y : m_Po} {ε0 ε : m_E} {μ0 μ : m_M} {X : Int} (hh : ∀ ε μ, MK ε0 μ0 X 141 mL12_z mF12_z mS12_z ε μ → Q 0 ε μ) (H : MK ε0 μ0 X 132 mL12_621 mF12_621 mS12_621 ε μ) : G cd_X12_init Q Y 621 [(0, (2, X + 34))] [(2, X + 130), (0, 2), (2, X + 125), (2, X + 125), (2, X + 34)] ε μ := by
  apply g_X12_init_621
  intro _ _
  refine ⟨H.k 6 rfl, ?_⟩
  refine ⟨by decide, by rw [H.n 6 rfl]; decide, ?_⟩
  refine ⟨Or.inr (H.k 1 rfl), ?_⟩
  intro μ hm
  replace H := MK.st' (d := 125) (j := 2) (r := 1) (v := 130) H (by decide) hm (by omega)
  clear hm
  intro a ε μ ha he hm
  obtain ⟨ea, H⟩ := MK.al (D' := 133) H (by decide) ha he hm
  clear ha he hm
  subst ea
  refine ⟨H.k 0 rfl, ?_⟩
  refine mk_X11 (D' := 134) (d := 132) H (by decide) (by decide) (H.k 0 rfl) (by decide +kernel) (fun ε μ H => ?_)
  exact mk12_631 hh H
theorem mk12_611 {Q Y : m_Po} {ε0 ε : m_E} {μ0 μ : m_M} {X : Int} (hh : ∀ ε μ, MK ε0 μ0 X 141 mL12_z mF12_z mS12_z ε μ → Q 0 ε μ) (H : MK ε0 μ0 X 130 mL12_611 mF12_611 mS12_611 ε μ) : G cd_X12_init Q Y 611 [(0, (2, X + 34))] [(2, X + 128), (0, 1), (2, X + 125), (2, X + 125), (2, X + 34)] ε μ := by
  apply g_X12_init_611
  intro _ _
  refine ⟨H.k 4 rfl, ?_⟩
  refine ⟨by decide, by rw [H.n 4 rfl]; decide, ?_⟩
  refine ⟨Or.inr (H.k 1 rfl), ?_⟩
  intro μ hm
  replace H := MK.st' (d := 125) (j := 1) (r := 1) (v := 128) H (by decide) hm (by omega)
  clear hm
  intro a ε μ ha he hm
  obtain ⟨ea, H⟩ := MK.al (D' := 131) H (by decide) ha he hm
  clear ha he hm
  subst ea
  refine ⟨H.k 0 rfl, ?_⟩
  refine mk_X11 (D' := 132) (d := 130) H (by decide) (by decide) (H.k 0 rfl) (by decide +kernel) (fun ε μ H => ?_)
  exact mk12_621 hh H
theorem mk12_601 {Q Y : m_Po} {ε0 ε : m_E} {μ0 μ : m_M} {X : Int} (hh : ∀ ε μ, MK ε0 μ0 X 141 mL12_z mF12_z mS12_z ε μ → Q 0 ε μ) (H : MK ε0 μ0 X 128 mL12_601 mF12_601 mS12_601 ε μ) : G cd_X12_init Q Y 601 [(0, (2, X + 34))] [(2, X + 126), (0, 0), (2, X + 125), (2, X + 125), (2, X + 34)] ε μ := by
  apply g_X12_init_601
  intro _ _
  refine ⟨H.k 2 rfl, ?_⟩
  refine ⟨by decide, by rw [H.n 2 rfl]; decide, ?_⟩
  refine ⟨Or.inr (H.k 1 rfl), ?_⟩
  intro μ hm
  replace H := MK.st' (d := 125) (j := 0) (r := 1) (v := 126) H (by decide) hm (by omega)
  clear hm
  intro a ε μ ha he hm
  obtain ⟨ea, H⟩ := MK.al (D' := 129) H (by decide) ha he hm
  clear ha he hm
  subst ea
  refine ⟨H.k 0 rfl, ?_⟩
  refine mk_X11 (D' := 130) (d := 128) H (by decide) (by decide) (H.k 0 rfl) (by decide +kernel) (fun ε μ H => ?_)
  exact mk12_611 hh H
theorem mk12_561 {Q Y : m_Po} {ε0 ε : m_E} {μ0 μ : m_M} {X : Int} (hh : ∀ ε μ, MK ε0 μ0 X 141 mL12_z mF12_z mS12_z ε μ → Q 0 ε μ) (H : MK ε0 μ0 X 122 mL12_561 mF12_561 mS12_561 ε μ) : G cd_X12_init Q Y 561 [(0, (2, X + 34))] [(2, X + 120), (0, 6), (2, X + 107), (2, X + 107), (2, X + 34)] ε μ := by
  apply g_X12_init_561
  intro _ _
  refine ⟨H.k 14 rfl, ?_⟩
  refine ⟨by decide, by rw [H.n 14 rfl]; decide, ?_⟩
  refine ⟨Or.inr (H.k 1 rfl), ?_⟩
  intro μ hm
  replace H := MK.st' (d := 107) (j := 6) (r := 1) (v := 120) H (by decide) hm (by omega)
  clear hm
  refine ⟨H.k 87 rfl, ?_⟩
  intro ε he
  replace H := MK.fi (d := 34) (i := 52) (v := 107) H (by decide) he (by decide +kernel)
  clear he
  intro a ε μ ha he hm
  obtain ⟨ea, H⟩ := MK.al (D' := 123) H (by decide) ha he hm
  clear ha he hm
  subst ea
  refine ⟨H.k 88 rfl, ?_⟩
  intro ε he
  replace H := MK.fi (d := 34) (i := 55) (v := 122) H (by decide) he (by decide +kernel)
  clear he
  intro a ε μ ha he hm
  obtain ⟨ea, H⟩ := MK.al (D' := 124) H (by decide) ha he hm
  clear ha he hm
  subst ea
  refine ⟨H.k 89 rfl, ?_⟩
  intro ε he
  replace H := MK.fi (d := 34) (i := 56) (v := 123) H (by decide) he (by decide +kernel)
  clear he
  intro a ε μ ha he hm
  obtain ⟨ea, H⟩ := MK.al (D' := 125) H (by decide) ha he hm
  clear ha he hm
  subst ea
  refine ⟨H.k 90 rfl, ?_⟩
  intro ε he
  replace H := MK.fi (d := 34) (i := 57) (v := 124) H (by decide) he (by decide +kernel)
  clear he
  intro a ε μ ha he hm
  obtain ⟨ea, H⟩ := MK.al (D' := 126) H (by decide) ha he hm
  clear ha he hm
  subst ea
  intro a ε μ ha he hm
  obtain ⟨ea, H⟩ := MK.al (D' := 127) H (by decide) ha he hm
  clear ha he hm
  subst ea
  refine ⟨H.k 0 rfl, ?_⟩
  refine mk_X11 (D' := 128) (d := 126) H (by decide) (by decide) (H.k 0 rfl) (by decide +kernel) (fun ε μ H => ?_)
  exact mk12_601 hh H
theorem mk12_550 {Q Y : m_Po} {ε0 ε : m_E} {μ0 μ : m_M} {X : Int} (hh : ∀ ε μ, MK ε0 μ0 X 141 mL12_z mF12_z mS12_z ε μ → Q 0 ε μ) (H : MK ε0 μ0 X 120 mL12_550 mF12_550 mS12_550 ε μ) : G cd_X12_init Q Y 550 [(0, (2, X + 34))] [(2, X + 118), (0, 5), (2, X + 107), (2, X + 107), (2, X + 34)] ε μ := by
  apply g_X12_init_550
  intro _ _
  refine ⟨H.k 12 rfl, ?_⟩
  refine ⟨by decide, by rw [H.n 12 rfl]; decide, ?_⟩
  refine ⟨Or.inr (H.k 1 rfl), ?_⟩
  intro μ hm
  replace H := MK.st' (d := 107) (j := 5) (r := 1) (v := 118) H (by decide) hm (by omega)
  clear hm
  intro a ε μ ha he hm
  obtain ⟨ea, H⟩ := MK.al (D' := 121) H (by decide) ha he hm
  clear ha he hm
  subst ea
  refine ⟨H.k 0 rfl, ?_⟩
  refine mk_X11 (D' := 122) (d := 120) H (by decide) (by decide) (H.k 0 rfl) (by decide +kernel) (fun ε μ H => ?_)
  exact mk12_561 hh H
theorem mk12_540 {Q Y : m_Po} {ε0 ε : m_E} {μ0 μ : m_M} {X : Int} (hh : ∀ ε μ, MK ε0 μ0 X 141 mL12_z mF12_z mS12_z ε μ → Q 0 ε μ) (H : MK ε0 μ0 X 118 mL12_540 mF12_540 mS12_540 ε μ) : G cd_X12_init Q Y 540 [(0, (2, X + 34))] [(2, X + 116), (0, 4), (2, X + 107), (2, X + 107), (2, X + 34)] ε μ := by
  apply g_X12_init_540
  intro _ _
  refine ⟨H.k 10 rfl, ?_⟩
  refine ⟨by decide, by rw [H.n 10 rfl]; decide, ?_⟩
  refine ⟨Or.inr (H.k 1 rfl), ?_⟩
  intro μ hm
  replace H := MK.st' (d := 107) (j := 4) (r := 1) (v := 116) H (by decide) hm (by omega)
  clear hm
  intro a ε μ ha he hm
  obtain ⟨ea, H⟩ := MK.al (D' := 119) H (by decide) ha he hm
  clear ha he hm
  subst ea
  refine ⟨H.k 0 rfl, ?_⟩
  refine mk_X11 (D' := 120) (d := 118) H (by decide) (by decide) (H.k 0 rfl) (by decide +kernel) (fun ε μ H => ?_)
  exact mk12_550 hh H
theorem mk12_530 {Q Y : m_Po} {ε0 ε : m_E} {μ0 μ : m_M} {X : Int} (hh : ∀ ε μ, MK ε0 μ0 X 141 mL12_z mF12_z mS12_z ε μ → Q 0 ε μ) (H : MK ε0 μ0 X 116 mL12_530 mF12_530 mS12_530 ε μ) : G cd_X12_init Q Y 530 [(0, (2, X + 34))] [(2, X + 114), (0, 3), (2, X + 107), (2, X + 107), (2, X + 34)] ε μ := by
  apply g_X12_init_530
  intro _ _
  refine ⟨H.k 8 rfl, ?_⟩
  refine ⟨by decide, by rw [H.n 8 rfl]; decide, ?_⟩
  refine ⟨Or.inr (H.k 1 rfl), ?_⟩
  intro μ hm
  replace H := MK.st' (d := 107) (j := 3) (r := 1) (v := 114) H (by decide) hm (by omega)
  clear hm
  intro a ε μ ha he hm
  obtain ⟨ea, H⟩ := MK.al (D' := 117) H (by decide) ha he hm
  clear ha he hm
  subst ea
  refine ⟨H.k 0 rfl, ?_⟩
  refine mk_X11 (D' := 118) (d := 116) H (by decide) (by decide) (H.k 0 rfl) (by decide +kernel) (fun ε μ H => ?_)
  exact mk12_540 hh H
theorem mk12_520 {Q Y : m_Po} {ε0 ε : m_E} {μ0 μ : m_M} {X : Int} (hh : ∀ ε μ, MK ε0 μ0 X 141 mL12_z mF12_z mS12_z ε μ → Q 0 ε μ) (H : MK ε0 μ0 X 114 mL12_520 mF12_520 mS12_520 ε μ) : G cd_X12_init Q Y 520 [(0, (2, X + 34))] [(2, X + 112), (0, 2), (2, X + 107), (2, X + 107), (2, X + 34)] ε μ := by
  apply g_X12_init_520
  intro _ _
  refine ⟨H.k 6 rfl, ?_⟩
  refine ⟨by decide, by rw [H.n 6 rfl]; decide, ?_⟩
  refine ⟨Or.inr (H.k 1 rfl), ?_⟩
  intro μ hm
  replace H := MK.st' (d := 107) (j := 2) (r := 1) (v := 112) H (by decide) hm (by omega)
  clear hm
  intro a ε μ ha he hm
  obtain ⟨ea, H⟩ := MK.al (D' := 115) H (by decide) ha he hm
  clear ha he hm
  subst ea
  refine ⟨H.k 0 rfl, ?_⟩
  refine mk_X11 (D' := 116) (d := 114) H (by decide) (by decide) (H.k 0 rfl) (by decide +kernel) (fun ε μ H => ?_)
  exact mk12_530 hh H
theorem mk12_510 {Q Y : m_Po} {ε0 ε : m_E} {μ0 μ : m_M} {X : Int} (hh : ∀ ε μ, MK ε0 μ0 X 141 mL12_z mF12_z mS12_z ε μ → Q 0 ε μ) (H : MK ε0 μ0 X 112 mL12_510 mF12_510 mS12_510 ε μ) : G cd_X12_init Q Y 510 [(0, (2, X + 34))] [(2, X + 110), (0, 1), (2, X + 107), (2, X + 107), (2, X + 34)] ε μ := by
  apply g_X12_init_510
  intro _ _
  refine ⟨H.k 4 rfl, ?_⟩
  refine ⟨by decide, by rw [H.n 4 rfl]; decide, ?_⟩
  refine ⟨Or.inr (H.k 1 rfl), ?_⟩
  intro μ hm
  replace H := MK.st' (d := 107) (j := 1) (r := 1) (v := 110) H (by decide) hm (by omega)
  clear hm
  intro a ε μ ha he hm
  obtain ⟨ea, H⟩ := MK.al (D' := 113) H (by decide) ha he hm
  clear ha he hm
  subst ea
  refine ⟨H.k 0 rfl, ?_⟩
  refine mk_X11 (D' := 114) (d := 112) H (by decide) (by decide) (H.k 0 rfl) (by decide +kernel) (fun ε μ H => ?_)
  exact mk12_520 hh H
theorem mk12_500 {Q Y : m_Po} {ε0 ε : m_E} {μ0 μ : m_M} {X : Int} (hh : ∀ ε μ, MK ε0 μ0 X 141 mL12_z mF12_z mS12_z ε μ → Q 0 ε μ) (H : MK ε0 μ0 X 110 mL12_500 mF12_500 mS12_500 ε μ) : G cd_X12_init Q Y 500 [(0, (2, X + 34))] [(2, X + 108), (0, 0), (2, X + 107), (2, X + 107), (2, X + 34)] ε μ := by
  apply g_X12_init_500
  intro _ _
  refine ⟨H.k 2 rfl, ?_⟩
  refine ⟨by decide, by rw [H.n 2 rfl]; decide, ?_⟩
  refine ⟨Or.inr (H.k 1 rfl), ?_⟩
  intro μ hm
  replace H := MK.st' (d := 107) (j := 0) (r := 1) (v := 108) H (by decide) hm (by omega)
  clear hm
  intro a ε μ ha he hm
  obtain ⟨ea, H⟩ := MK.al (D' := 111) H (by decide) ha he hm
  clear ha he hm
  subst ea
  refine ⟨H.k 0 rfl, ?_⟩
  refine mk_X11 (D' := 112) (d := 110) H (by decide) (by decide) (H.k 0 rfl) (by decide +kernel) (fun ε μ H => ?_)
  exact mk12_510 hh H
theorem mk12_481 {Q Y : m_Po} {ε0 ε : m_E} {μ0 μ : m_M} {X : Int} (hh : ∀ ε μ, MK ε0 μ0 X 141 mL12_z mF12_z mS12_z ε μ → Q 0 ε μ) (H : MK ε0 μ0 X 107 mL12_481 mF12_481 mS12_481 ε μ) : G cd_X12_init Q Y 481 [(0, (2, X + 34))] [(2, X + 105), (0, 5), (2, X + 94), (2, X + 94), (2, X + 34)] ε μ := by
  apply g_X12_init_481
  intro _ _
  refine ⟨H.k 12 rfl, ?_⟩
  refine ⟨by decide, by rw [H.n 12 rfl]; decide, ?_⟩
  refine ⟨Or.inr (H.k 1 rfl), ?_⟩
  intro μ hm
  replace H := MK.st' (d := 94) (j := 5) (r := 1) (v := 105) H (by decide) hm (by omega)
  clear hm
  refine ⟨H.k 72 rfl, ?_⟩
  intro ε he
  replace H := MK.fi (d := 34) (i := 51) (v := 94) H (by decide) he (by decide +kernel)
  clear he
  intro a ε μ ha he hm
  obtain ⟨ea, H⟩ := MK.al (D' := 108) H (by decide) ha he hm
  clear ha he hm
  subst ea
  intro a ε μ ha he hm
  obtain ⟨ea, H⟩ := MK.al (D' := 109) H (by decide) ha he hm
  clear ha he hm
  subst ea
  refine ⟨H.k 0 rfl, ?_⟩
  refine mk_X11 (D' := 110) (d := 108) H (by decide) (by decide) (H.k 0 rfl) (by decide +kernel) (fun ε μ H => ?_)
  exact mk12_500 hh H
theorem mk12_471 {Q Y : m_Po} {ε0 ε : m_E} {μ0 μ : m_M} {X : Int} (hh : ∀ ε μ, MK ε0 μ0 X 141 mL12_z mF12_z mS12_z ε μ → Q 0 ε μ) (H : MK ε0 μ0 X 105 mL12_471 mF12_471 mS12_471 ε μ) : G cd_X12_init Q Y 471 [(0, (2, X + 34))] [(2, X + 103), (0, 4), (2, X + 94), (2, X + 94), (2, X + 34)] ε μ := by
  apply g_X12_init_471
  intro _ _
  refine ⟨H.k 10 rfl, ?_⟩
  refine ⟨by decide, by rw [H.n 10 rfl]; decide, ?_⟩
  refine ⟨Or.inr (H.k 1 rfl), ?_⟩
  intro μ hm
  replace H := MK.st' (d := 94) (j := 4) (r := 1) (v := 103) H (by decide) hm (by omega)
  clear hm
  intro a ε μ ha he hm
  obtain ⟨ea, H⟩ := MK.al (D' := 106) H (by decide) ha he hm
  clear ha he hm
  subst ea
  refine ⟨H.k 0 rfl, ?_⟩
  refine mk_X11 (D' := 107) (d := 105) H (by decide) (by decide) (H.k 0 rfl) (by decide +kernel) (fun ε μ H => ?_)
  exact mk12_481 hh H
theorem mk12_461 {Q Y : m_Po} {ε0 ε : m_E} {μ0 μ : m_M} {X : Int} (hh : ∀ ε μ, MK ε0 μ0 X 141 mL12_z mF12_z mS12_z ε μ → Q 0 ε μ) (H : MK ε0 μ0 X 103 mL12_461 mF12_461 mS12_461 ε μ) : G cd_X12_init Q Y 461 [(0, (2, X + 34))] [(2, X + 101), (0, 3), (2, X + 94), (2, X + 94), (2, X + 34)] ε μ := by
  apply g_X12_init_461
  intro _ _
  refine ⟨H.k 8 rfl, ?_⟩
  refine ⟨by decide, by rw [H.n 8 rfl]; decide, ?_⟩
  refine ⟨Or.inr (H.k 1 rfl), ?_⟩
  intro μ hm
  replace H := MK.st' (d := 94) (j := 3) (r := 1) (v := 101) H (by decide) hm (by omega)
  clear hm
  intro a ε μ ha he hm
  obtain ⟨ea, H⟩ := MK.al (D' := 104) H (by decide) ha he hm
  clear ha he hm
  subst ea
  refine ⟨H.k 0 rfl, ?_⟩
  refine mk_X11 (D' := 105) (d := 103) H (by decide) (by decide) (H.k 0 rfl) (by decide +kernel) (fun ε μ H => ?_)
  exact mk12_471 hh H
theorem mk12_451 {Q Y : m_Po} {ε0 ε : m_E} {μ0 μ : m_M} {X : Int} (hh : ∀ ε μ, MK ε0 μ0 X 141 mL12_z mF12_z mS12_z ε μ → Q 0 ε μ) (H : MK ε0 μ0 X 101 mL12_451 mF12_451 mS12_451 ε μ) : G cd_X12_init Q Y 451 [(0, (2, X + 34))] [(2, X + 99), (0, 2), (2, X + 94), (2, X + 94), (2, X + 34)] ε μ := by
  apply g_X12_init_451
  intro _ _
  refine ⟨H.k 6 rfl, ?_⟩
  refine ⟨by decide, by rw [H.n 6 rfl]; decide, ?_⟩
  refine ⟨Or.inr (H.k 1 rfl), ?_⟩
  intro μ hm
  replace H := MK.st' (d := 94) (j := 2) (r := 1) (v := 99) H (by decide) hm (by omega)
  clear hm
  intro a ε μ ha he hm
  obtain ⟨ea, H⟩ := MK.al (D' := 102) H (by decide) ha he hm
  clear ha he hm
  subst ea
  refine ⟨H.k 0 rfl, ?_⟩
  refine mk_X11 (D' := 103) (d := 101) H (by decide) (by decide) (H.k 0 rfl) (by decide +kernel) (fun ε μ H => ?_)
  exact mk12_461 hh H
theorem mk12_441 {Q Y : m_Po} {ε0 ε : m_E} {μ0 μ : m_M} {X : Int} (hh : ∀ ε μ, MK ε0 μ0 X 141 mL12_z mF12_z mS12_z ε μ → Q 0 ε μ) (H : MK ε0 μ0 X 99 mL12_441 mF12_441 mS12_441 ε μ) : G cd_X12_init Q Y 441 [(0, (2, X + 34))] [(2, X + 97), (0, 1), (2, X + 94), (2, X + 94), (2, X + 34)] ε μ := by
  apply g_X12_init_441
  intro _ _
  refine ⟨H.k 4 rfl, ?_⟩
  refine ⟨by decide, by rw [H.n 4 rfl]; decide, ?_⟩
  refine ⟨Or.inr (H.k 1 rfl), ?_⟩
  intro μ hm
  replace H := MK.st' (d := 94) (j := 1) (r := 1) (v := 97) H (by decide) hm (by omega)
  clear hm
  intro a ε μ ha he hm
  obtain ⟨ea, H⟩ := MK.al (D' := 100) H (by decide) ha he hm
  clear ha he hm
  subst ea
  refine ⟨H.k 0 rfl, ?_⟩
  refine mk_X11 (D' := 101) (d := 99) H (by decide) (by decide) (H.k 0 rfl) (by decide +kernel) (fun ε μ H => ?_)
  exact mk12_451 hh H
theorem mk12_431 {Q Y : m_Po} {ε0 ε : m_E} {μ0 μ : m_M} {X : Int} (hh : ∀ ε μ, MK ε0 μ0 X 141 mL12_z mF12_z mS12_z ε μ → Q 0 ε μ) (H : MK ε0 μ0 X 97 mL12_431 mF12_431 mS12_431 ε μ) : G cd_X12_init Q Y 431 [(0, (2, X + 34))] [(2, X + 95), (0, 0), (2, X + 94), (2, X + 94), (2, X + 34)] ε μ := by
  apply g_X12_init_431
  intro _ _
  refine ⟨H.k 2 rfl, ?_⟩
  refine ⟨by decide, by rw [H.n 2 rfl]; decide, ?_⟩
  refine ⟨Or.inr (H.k 1 rfl), ?_⟩
  intro μ hm
  replace H := MK.st' (d := 94) (j := 0) (r := 1) (v := 95) H (by decide) hm (by omega)
  clear hm
  intro a ε μ ha he hm
  obtain ⟨ea, H⟩ := MK.al (D' := 98) H (by decide) ha he hm
  clear ha he hm
  subst ea
  refine ⟨H.k 0 rfl, ?_⟩
  refine mk_X11 (D' := 99) (d := 97) H (by decide) (by decide) (H.k 0 rfl) (by decide +kernel) (fun ε μ H => ?_)
  exact mk12_441 hh H
theorem mk12_412 {Q Y : m_Po} {ε0 ε : m_E} {μ0 μ : m_M} {X : Int} (hh : ∀ ε μ, MK ε0 μ0 X 141 mL12_z mF12_z mS12_z ε μ → Q 0 ε μ) (H : MK ε0 μ0 X 94 mL12_412 mF12_412 mS12_412 ε μ) : G cd_X12_init Q Y 412 [(0, (2, X + 34))] [(2, X + 92), (0, 5), (2, X + 81), (2, X + 81), (2, X + 34)] ε μ := by
  apply g_X12_init_412
  intro _ _
  refine ⟨H.k 12 rfl, ?_⟩
  refine ⟨by decide, by rw [H.n 12 rfl]; decide, ?_⟩
  refine ⟨Or.inr (H.k 1 rfl), ?_⟩
  intro μ hm
  replace H := MK.st' (d := 81) (j := 5) (r := 1) (v := 92) H (by decide) hm (by omega)
  clear hm
  refine ⟨H.k 59 rfl, ?_⟩
  intro ε he
  replace H := MK.fi (d := 34) (i := 50) (v := 81) H (by decide) he (by decide +kernel)
  clear he
  intro a ε μ ha he hm
  obtain ⟨ea, H⟩ := MK.al (D' := 95) H (by decide) ha he hm
  clear ha he hm
  subst ea
  intro a ε μ ha he hm
  obtain ⟨ea, H⟩ := MK.al (D' := 96) H (by decide) ha he hm
  clear ha he hm
  subst ea
  refine ⟨H.k 0 rfl, ?_⟩
  refine mk_X11 (D' := 97) (d := 95) H (by decide) (by decide) (H.k 0 rfl) (by decide +kernel) (fun ε μ H => ?_)
  exact mk12_431 hh H
theorem mk12_402 {Q Y : m_Po} {ε0 ε : m_E} {μ0 μ : m_M} {X : Int} (hh : ∀ ε μ, MK ε0 μ0 X 141 mL12_z mF12_z mS12_z ε μ → Q 0 ε μ) (H : MK ε0 μ0 X 92 mL12_402 mF12_402 mS12_402 ε μ) : G cd_X12_init Q Y 402 [(0, (2, X + 34))] [(2, X + 90), (0, 4), (2, X + 81), (2, X + 81), (2, X + 34)] ε μ := by
  apply g_X12_init_402
  intro _ _
  refine ⟨H.k 10 rfl, ?_⟩
  refine ⟨by decide, by rw [H.n 10 rfl]; decide, ?_⟩
  refine ⟨Or.inr (H.k 1 rfl), ?_⟩
  intro μ hm
  replace H := MK.st' (d := 81) (j := 4) (r := 1) (v := 90) H (by decide) hm (by omega)
  clear hm
  intro a ε μ ha he hm
  obtain ⟨ea, H⟩ := MK.al (D' := 93) H (by decide) ha he hm
  clear ha he hm
  subst ea
  refine ⟨H.k 0 rfl, ?_⟩
  refine mk_X11 (D' := 94) (d := 92) H (by decide) (by decide) (H.k 0 rfl) (by decide +kernel) (fun ε μ H => ?_)
  exact mk12_412 hh H
theorem mk12_392 {Q Y : m_Po} {ε0 ε : m_E} {μ0 μ : m_M} {X : Int} (hh : ∀ ε μ, MK ε0 μ0 X 141 mL12_z mF12_z mS12_z ε μ → Q 0 ε μ) (H : MK ε0 μ0 X 90 mL12_392 mF12_392 mS12_392 ε μ) : G cd_X12_init Q Y 392 [(0, (2, X + 34))] [(2, X + 88), (0, 3), (2, X + 81), (2, X + 81), (2, X + 34)] ε μ := by
  apply g_X12_init_392
  intro _ _
  refine ⟨H.k 8 rfl, ?_⟩
  refine ⟨by decide, by rw [H.n 8 rfl]; decide, ?_⟩
  refine ⟨Or.inr (H.k 1 rfl), ?_⟩
  intro μ hm
  replace H := MK.st' (d := 81) (j := 3) (r := 1) (v := 88) H (by decide) hm (by omega)
  clear hm
  intro a ε μ ha he hm
  obtain ⟨ea, H⟩ := MK.al (D' := 91) H (by decide) ha he hm
  clear ha he hm
  subst ea
  refine ⟨H.k 0 rfl, ?_⟩
  refine mk_X11 (D' := 92) (d := 90) H (by decide) (by decide) (H.k 0 rfl) (by decide +kernel) (fun ε μ H => ?_)
  exact mk12_402 hh H
theorem mk12_382 {Q Y : m_Po} {ε0 ε : m_E} {μ0 μ : m_M} {X : Int} (hh : ∀ ε μ, MK ε0 μ0 X 141 mL12_z mF12_z mS12_z ε μ → Q 0 ε μ) (H : MK ε0 μ0 X 88 mL12_382 mF12_382 mS12_382 ε μ) : G cd_X12_init Q Y 382 [(0, (2, X + 34))] [(2, X + 86), (0, 2), (2, X + 81), (2, X + 81), (2, X + 34)] ε μ := by
  apply g_X12_init_382
  intro _ _
  refine ⟨H.k 6 rfl, ?_⟩
  refine ⟨by decide, by rw [H.n 6 rfl]; decide, ?_⟩
  refine ⟨Or.inr (H.k 1 rfl), ?_⟩
  intro μ hm
  replace H := MK.st' (d := 81) (j := 2) (r := 1) (v := 86) H (by decide) hm (by omega)
  clear hm
  intro a ε μ ha he hm
  obtain ⟨ea, H⟩ := MK.al (D' := 89) H (by decide) ha he hm
  clear ha he hm
  subst ea
  refine ⟨H.k 0 rfl, ?_⟩
  refine mk_X11 (D' := 90) (d := 88) H (by decide) (by decide) (H.k 0 rfl) (by decide +kernel) (fun ε μ H => ?_)
  exact mk12_392 hh H
theorem mk12_372 {Q Y : m_Po} {ε0 ε : m_E} {μ0 μ : m_M} {X : Int} (hh : ∀ ε μ, MK ε0 μ0 X 141 mL12_z mF12_z mS12_z ε μ → Q 0 ε μ) (H : MK ε0 μ0 X 86 mL12_372 mF12_372 mS12_372 ε μ) : G cd_X12_init Q Y 372 [(0, (2, X + 34))] [(2, X + 84), (0, 1), (2, X + 81), (2, X + 81), (2, X + 34)] ε μ := by
  apply g_X12_init_372
  intro _ _
  refine ⟨H.k 4 rfl, ?_⟩
  refine ⟨by decide, by rw [H.n 4 rfl]; decide, ?_⟩
  refine ⟨Or.inr (H.k 1 rfl), ?_⟩
  intro μ hm
  replace H := MK.st' (d := 81) (j := 1) (r := 1) (v := 84) H (by decide) hm (by omega)
  clear hm
  intro a ε μ ha he hm
  obtain ⟨ea, H⟩ := MK.al (D' := 87) H (by decide) ha he hm
  clear ha he hm
  subst ea
  refine ⟨H.k 0 rfl, ?_⟩
  refine mk_X11 (D' := 88) (d := 86) H (by decide) (by decide) (H.k 0 rfl) (by decide +kernel) (fun ε μ H => ?_)
  exact mk12_382 hh H
theorem mk12_362 {Q Y : m_Po} {ε0 ε : m_E} {μ0 μ : m_M} {X : Int} (hh : ∀ ε μ, MK ε0 μ0 X 141 mL12_z mF12_z mS12_z ε μ → Q 0 ε μ) (H : MK ε0 μ0 X 84 mL12_362 mF12_362 mS12_362 ε μ) : G cd_X12_init Q Y 362 [(0, (2, X + 34))] [(2, X + 82), (0, 0), (2, X + 81), (2, X + 81), (2, X + 34)] ε μ := by
  apply g_X12_init_362
  intro _ _
  refine ⟨H.k 2 rfl, ?_⟩
  refine ⟨by decide, by rw [H.n 2 rfl]; decide, ?_⟩
  refine ⟨Or.inr (H.k 1 rfl), ?_⟩
  intro μ hm
  replace H := MK.st' (d := 81) (j := 0) (r := 1) (v := 82) H (by decide) hm (by omega)
  clear hm
  intro a ε μ ha he hm
  obtain ⟨ea, H⟩ := MK.al (D' := 85) H (by decide) ha he hm
  clear ha he hm
  subst ea
  refine ⟨H.k 0 rfl, ?_⟩
  refine mk_X11 (D' := 86) (d := 84) H (by decide) (by decide) (H.k 0 rfl) (by decide +kernel) (fun ε μ H => ?_)
  exact mk12_372 hh H
theorem mk12_317 {Q Y : m_Po} {ε0 ε : m_E} {μ0 μ : m_M} {X : Int} (hh : ∀ ε μ, MK ε0 μ0 X 141 mL12_z mF12_z mS12_z ε μ → Q 0 ε μ) (H : MK ε0 μ0 X 78 mL12_317 mF12_317 mS12_317 ε μ) : G cd_X12_init Q Y 317 [(0, (2, X + 34))] [(2, X + 76), (2, X + 34)] ε μ := by
  apply g_X12_init_317
  intro _
  refine ⟨H.k 43 rfl, ?_⟩
  intro ε he
  replace H := MK.fi (d := 34) (i := 38) (v := 76) H (by decide) he (by decide +kernel)
  clear he
  intro a ε μ ha he hm
  obtain ⟨ea, H⟩ := MK.al (D' := 79) H (by decide) ha he hm
  clear ha he hm
  subst ea
  refine ⟨H.k 44 rfl, ?_⟩
  intro ε he
  replace H := MK.fi (d := 34) (i := 39) (v := 78) H (by decide) he (by decide +kernel)
  clear he
  intro a ε μ ha he hm
  obtain ⟨ea, H⟩ := MK.al (D' := 80) H (by decide) ha he hm
  clear ha he hm
  subst ea
  refine ⟨H.k 45 rfl, ?_⟩
  intro ε he
  replace H := MK.fi (d := 34) (i := 40) (v := 79) H (by decide) he (by decide +kernel)
  clear he
  intro a ε μ ha he hm
  obtain ⟨ea, H⟩ := MK.al (D' := 81) H (by decide) ha he hm
  clear ha he hm
  subst ea
  refine ⟨H.k 46 rfl, ?_⟩
  intro ε he
  replace H := MK.fi (d := 34) (i := 41) (v := 80) H (by decide) he (by decide +kernel)
  clear he
  intro a ε μ ha he hm
  obtain ⟨ea, H⟩ := MK.al (D' := 82) H (by decide) ha he hm
  clear ha he hm
  subst ea
  intro a ε μ ha he hm
  obtain ⟨ea, H⟩ := MK.al (D' := 83) H (by decide) ha he hm
  clear ha he hm
  subst ea
  refine ⟨H.k 0 rfl, ?_⟩
  refine mk_X11 (D' := 84) (d := 82) H (by decide) (by decide) (H.k 0 rfl) (by decide +kernel) (fun ε μ H => ?_)
  exact mk12_362 hh H
theorem mk12_306 {Q Y : m_Po} {ε0 ε : m_E} {μ0 μ : m_M} {X : Int} (hh : ∀ ε μ, MK ε0 μ0 X 141 mL12_z mF12_z mS12_z ε μ → Q 0 ε μ) (H : MK ε0 μ0 X 76 mL12_306 mF12_306 mS12_306 ε μ) : G cd_X12_init Q Y 306 [(0, (2, X + 34))] [(2, X + 74), (2, X + 34)] ε μ := by
  apply g_X12_init_306
  intro _
  refine ⟨H.k 41 rfl, ?_⟩
  intro ε he
  replace H := MK.fi (d := 34) (i := 37) (v := 74) H (by decide) he (by decide +kernel)
  clear he
  intro a ε μ ha he hm
  obtain ⟨ea, H⟩ := MK.al (D' := 77) H (by decide) ha he hm
  clear ha he hm
  subst ea
  refine ⟨H.k 0 rfl, ?_⟩
  refine mk_X11 (D' := 78) (d := 76) H (by decide) (by decide) (H.k 0 rfl) (by decide +kernel) (fun ε μ H => ?_)
  exact mk12_317 hh H
theorem mk12_294 {Q Y : m_Po} {ε0 ε : m_E} {μ0 μ : m_M} {X : Int} (hh : ∀ ε μ, MK ε0 μ0 X 141 mL12_z mF12_z mS12_z ε μ → Q 0 ε μ) (H : MK ε0 μ0 X 74 mL12_294 mF12_294 mS12_294 ε μ) : G cd_X12_init Q Y 294 [(0, (2, X + 34))] [(2, X + 72), (0, 3), (2, X + 65), (2, X + 65), (2, X + 34)] ε μ := by
  apply g_X12_init_294
  intro _ _
  refine ⟨H.k 8 rfl, ?_⟩
  refine ⟨by decide, by rw [H.n 8 rfl]; decide, ?_⟩
  refine ⟨Or.inr (H.k 1 rfl), ?_⟩
  intro μ hm
  replace H := MK.st' (d := 65) (j := 3) (r := 1) (v := 72) H (by decide) hm (by omega)
  clear hm
  refine ⟨H.k 39 rfl, ?_⟩
  intro ε he
  replace H := MK.fi (d := 34) (i := 36) (v := 65) H (by decide) he (by decide +kernel)
  clear he
  intro a ε μ ha he hm
  obtain ⟨ea, H⟩ := MK.al (D' := 75) H (by decide) ha he hm
  clear ha he hm
  subst ea
  refine ⟨H.k 0 rfl, ?_⟩
  refine mk_X11 (D' := 76) (d := 74) H (by decide) (by decide) (H.k 0 rfl) (by decide +kernel) (fun ε μ H => ?_)
  exact mk12_306 hh H
theorem mk12_284 {Q Y : m_Po} {ε0 ε : m_E} {μ0 μ : m_M} {X : Int} (hh : ∀ ε μ, MK ε0 μ0 X 141 mL12_z mF12_z mS12_z ε μ → Q 0 ε μ) (H : MK ε0 μ0 X 72 mL12_284 mF12_284 mS12_284 ε μ) : G cd_X12_init Q Y 284 [(0, (2, X + 34))] [(2, X + 70), (0, 2), (2, X + 65), (2, X + 65), (2, X + 34)] ε μ := by
  apply g_X12_init_284
  intro _ _
  refine ⟨H.k 6 rfl, ?_⟩
  refine ⟨by decide, by rw [H.n 6 rfl]; decide, ?_⟩
  refine ⟨Or.inr (H.k 1 rfl), ?_⟩
  intro μ hm
  replace H := MK.st' (d := 65) (j := 2) (r := 1) (v := 70) H (by decide) hm (by omega)
  clear hm
  intro a ε μ ha he hm
  obtain ⟨ea, H⟩ := MK.al (D' := 73) H (by decide) ha he hm
  clear ha he hm
  subst ea
  refine ⟨H.k 0 rfl, ?_⟩
  refine mk_X11 (D' := 74) (d := 72) H (by decide) (by decide) (H.k 0 rfl) (by decide +kernel) (fun ε μ H => ?_)
  exact mk12_294 hh H
theorem mk12_274 {Q Y : m_Po} {ε0 ε : m_E} {μ0 μ : m_M} {X : Int} (hh : ∀ ε μ, MK ε0 μ0 X 141 mL12_z mF12_z mS12_z ε μ → Q 0 ε μ) (H : MK ε0 μ0 X 70 mL12_274 mF12_274 mS12_274 ε μ) : G cd_X12_init Q Y 274 [(0, (2, X + 34))] [(2, X + 68), (0, 1), (2, X + 65), (2, X + 65), (2, X + 34)] ε μ := by
  apply g_X12_init_274
  intro _ _
  refine ⟨H.k 4 rfl, ?_⟩
  refine ⟨by decide, by rw [H.n 4 rfl]; decide, ?_⟩
  refine ⟨Or.inr (H.k 1 rfl), ?_⟩
  intro μ hm
  replace H := MK.st' (d := 65) (j := 1) (r := 1) (v := 68) H (by decide) hm (by omega)
  clear hm
  intro a ε μ ha he hm
  obtain ⟨ea, H⟩ := MK.al (D' := 71) H (by decide) ha he hm
  clear ha he hm
  subst ea
  refine ⟨H.k 0 rfl, ?_⟩
  refine mk_X11 (D' := 72) (d := 70) H (by decide) (by decide) (H.k 0 rfl) (by decide +kernel) (fun ε μ H => ?_)
  exact mk12_284 hh H
theorem mk12_264 {Q Y : m_Po} {ε0 ε : m_E} {μ0 μ : m_M} {X : Int} (hh : ∀ ε μ, MK ε0 μ0 X 141 mL12_z mF12_z mS12_z ε μ → Q 0 ε μ) (H : MK ε0 μ0 X 68 mL12_264 mF12_264 mS12_264 ε μ) : G cd_X12_init Q Y 264 [(0, (2, X + 34))] [(2, X + 66), (0, 0), (2, X + 65), (2, X + 65), (2, X + 34)] ε μ := by
  apply g_X12_init_264
  intro _ _
  refine ⟨H.k 2 rfl, ?_⟩
  refine ⟨by decide, by rw [H.n 2 rfl]; decide, ?_⟩
  refine ⟨Or.inr (H.k 1 rfl), ?_⟩
  intro μ hm
  replace H := MK.st' (d := 65) (j := 0) (r := 1) (v := 66) H (by decide) hm (by omega)
  clear hm
  intro a ε μ ha he hm
  obtain ⟨ea, H⟩ := MK.al (D' := 69) H (by decide) ha he hm
  clear ha he hm
  subst ea
  refine ⟨H.k 0 rfl, ?_⟩
  refine mk_X11 (D' := 70) (d := 68) H (by decide) (by decide) (H.k 0 rfl) (by decide +kernel) (fun ε μ H => ?_)
  exact mk12_274 hh H
theorem mkc_X12 {Q Y : m_Po} {ε0 ε : m_E} {μ0 μ : m_M} {X : Int} (hh : ∀ ε μ, MK ε0 μ0 X 141 mL12_z mF12_z mS12_z ε μ → Q 0 ε μ) (H : MK ε0 μ0 X 35 mL12_0 mF12_0 mS12_0 ε μ) : o_X12_init [(2, X + 34)] ε μ Q Y := by
  apply e_X12_init
  intro _
  refine ⟨H.pos (by decide), ?_⟩
  intro a ε μ ha he hm
  obtain ⟨ea, H⟩ := MK.al (D' := 36) H (by decide) ha he hm
  clear ha he hm
  subst ea
  refine ⟨H.k 1 rfl, ?_⟩
  intro ε he
  replace H := MK.fi (d := 34) (i := 1) (v := 35) H (by decide) he (by decide +kernel)
  clear he
  intro a ε μ ha he hm
  obtain ⟨ea, H⟩ := MK.al (D' := 37) H (by decide) ha he hm
  clear ha he hm
  subst ea
  refine ⟨H.k 2 rfl, ?_⟩
  intro ε he
  replace H := MK.fi (d := 34) (i := 2) (v := 36) H (by decide) he (by decide +kernel)
  clear he
  intro a ε μ ha he hm
  obtain ⟨ea, H⟩ := MK.al (D' := 38) H (by decide) ha he hm
  clear ha he hm
  subst ea
  refine ⟨H.k 3 rfl, ?_⟩
  intro ε he
  replace H := MK.fi (d := 34) (i := 3) (v := 37) H (by decide) he (by decide +kernel)
  clear he
  intro a ε μ ha he hm
  obtain ⟨ea, H⟩ := MK.al (D' := 39) H (by decide) ha he hm
  clear ha he hm
  subst ea
  refine ⟨H.k 4 rfl, ?_⟩
  intro ε he
  replace H := MK.fi (d := 34) (i := 5) (v := 38) H (by decide) he (by decide +kernel)
  clear he
  intro a ε μ ha he hm
  obtain ⟨ea, H⟩ := MK.al (D' := 40) H (by decide) ha he hm
  clear ha he hm
  subst ea
  refine ⟨H.k 5 rfl, ?_⟩
  intro ε he
  replace H := MK.fi (d := 34) (i := 6) (v := 39) H (by decide) he (by decide +kernel)
  clear he
  intro a ε μ ha he hm
  obtain ⟨ea, H⟩ := MK.al (D' := 41) H (by decide) ha he hm
  clear ha he hm
  subst ea
  refine ⟨H.k 6 rfl, ?_⟩
  intro ε he
  replace H := MK.fi (d := 34) (i := 7) (v := 40) H (by decide) he (by decide +kernel)
  clear he
  intro a ε μ ha he hm
  obtain ⟨ea, H⟩ := MK.al (D' := 42) H (by decide) ha he hm
  clear ha he hm
  subst ea
  refine ⟨H.k 7 rfl, ?_⟩
  intro ε he
  replace H := MK.fi (d := 34) (i := 8) (v := 41) H (by decide) he (by decide +kernel)
  clear he
  intro a ε μ ha he hm
  obtain ⟨ea, H⟩ := MK.al (D' := 43) H (by decide) ha he hm
  clear ha he hm
  subst ea
  refine ⟨H.k 8 rfl, ?_⟩
  intro ε he
  replace H := MK.fi (d := 34) (i := 9) (v := 42) H (by decide) he (by decide +kernel)
  clear he
  intro a ε μ ha he hm
  obtain ⟨ea, H⟩ := MK.al (D' := 44) H (by decide) ha he hm
  clear ha he hm
  subst ea
  refine ⟨H.k 9 rfl, ?_⟩
  intro ε he
  replace H := MK.fi (d := 34) (i := 10) (v := 43) H (by decide) he (by decide +kernel)
  clear he
  intro a ε μ ha he hm
  obtain ⟨ea, H⟩ := MK.al (D' := 45) H (by decide) ha he hm
  clear ha he hm
  subst ea
  refine ⟨H.k 10 rfl, ?_⟩
  intro ε he
  replace H := MK.fi (d := 34) (i := 11) (v := 44) H (by decide) he (by decide +kernel)
  clear he
  intro a ε μ ha he hm
  obtain ⟨ea, H⟩ := MK.al (D' := 46) H (by decide) ha he hm
  clear ha he hm
  subst ea
  refine ⟨H.k 11 rfl, ?_⟩
  intro ε he
  replace H := MK.fi (d := 34) (i := 12) (v := 45) H (by decide) he (by decide +kernel)
  clear he
  intro a ε μ ha he hm
  obtain ⟨ea, H⟩ := MK.al (D' := 47) H (by decide) ha he hm
  clear ha he hm
  subst ea
  refine ⟨H.k 12 rfl, ?_⟩
  intro ε he
  replace H := MK.fi (d := 34) (i := 13) (v := 46) H (by decide) he (by decide +kernel)
  clear he
  intro a ε μ ha he hm
  obtain ⟨ea, H⟩ := MK.al (D' := 48) H (by decide) ha he hm
  clear ha he hm
  subst ea
  refine ⟨H.k 13 rfl, ?_⟩
  intro ε he
  replace H := MK.fi (d := 34) (i := 15) (v := 47) H (by decide) he (by decide +kernel)
  clear he
  intro a ε μ ha he hm
  obtain ⟨ea, H⟩ := MK.al (D' := 49) H (by decide) ha he hm
  clear ha he hm
  subst ea
  refine ⟨H.k 14 rfl, ?_⟩
  intro ε he
  replace H := MK.fi (d := 34) (i := 16) (v := 48) H (by decide) he (by decide +kernel)
  clear he
  intro a ε μ ha he hm
  obtain ⟨ea, H⟩ := MK.al (D' := 50) H (by decide) ha he hm
  clear ha he hm
  subst ea
  refine ⟨H.k 15 rfl, ?_⟩
  intro ε he
  replace H := MK.fi (d := 34) (i := 17) (v := 49) H (by decide) he (by decide +kernel)
  clear he
  intro a ε μ ha he hm
  obtain ⟨ea, H⟩ := MK.al (D' := 51) H (by decide) ha he hm
  clear ha he hm
  subst ea
  refine ⟨H.k 16 rfl, ?_⟩
  intro ε he
  replace H := MK.fi (d := 34) (i := 18) (v := 50) H (by decide) he (by decide +kernel)
  clear he
  intro a ε μ ha he hm
  obtain ⟨ea, H⟩ := MK.al (D' := 52) H (by decide) ha he hm
  clear ha he hm
  subst ea
  refine ⟨H.k 17 rfl, ?_⟩
  intro ε he
  replace H := MK.fi (d := 34) (i := 19) (v := 51) H (by decide) he (by decide +kernel)
  clear he
  intro a ε μ ha he hm
  obtain ⟨ea, H⟩ := MK.al (D' := 53) H (by decide) ha he hm
  clear ha he hm
  subst ea
  refine ⟨H.k 18 rfl, ?_⟩
  intro ε he
  replace H := MK.fi (d := 34) (i := 20) (v := 52) H (by decide) he (by decide +kernel)
  clear he
  intro a ε μ ha he hm
  obtain ⟨ea, H⟩ := MK.al (D' := 54) H (by decide) ha he hm
  clear ha he hm
  subst ea
  refine ⟨H.k 19 rfl, ?_⟩
  intro ε he
  replace H := MK.fi (d := 34) (i := 21) (v := 53) H (by decide) he (by decide +kernel)
  clear he
  intro a ε μ ha he hm
  obtain ⟨ea, H⟩ := MK.al (D' := 55) H (by decide) ha he hm
  clear ha he hm
  subst ea
  refine ⟨H.k 20 rfl, ?_⟩
  intro ε he
  replace H := MK.fi (d := 34) (i := 22) (v := 54) H (by decide) he (by decide +kernel)
  clear he
  intro a ε μ ha he hm
  obtain ⟨ea, H⟩ := MK.al (D' := 56) H (by decide) ha he hm
  clear ha he hm
  subst ea
  refine ⟨H.k 21 rfl, ?_⟩
  intro ε he
  replace H := MK.fi (d := 34) (i := 23) (v := 55) H (by decide) he (by decide +kernel)
  clear he
  intro a ε μ ha he hm
  obtain ⟨ea, H⟩ := MK.al (D' := 57) H (by decide) ha he hm
  clear ha he hm
  subst ea
  refine ⟨H.k 22 rfl, ?_⟩
  intro ε he
  replace H := MK.fi (d := 34) (i := 24) (v := 56) H (by decide) he (by decide +kernel)
  clear he
  refine ⟨by decide, by decide, ?_⟩
  intro a ε μ ha he hm
  obtain ⟨ea, H⟩ := MK.al (D' := 58) H (by decide) ha he hm
  clear ha he hm
  subst ea
  refine ⟨H.k 23 rfl, ?_⟩
  intro ε he
  replace H := MK.fi (d := 34) (i := 25) (v := 57) H (by decide) he (by decide +kernel)
  clear he
  intro a ε μ ha he hm
  obtain ⟨ea, H⟩ := MK.al (D' := 59) H (by decide) ha he hm
  clear ha he hm
  subst ea
  refine ⟨H.k 24 rfl, ?_⟩
  intro ε he
  replace H := MK.fi (d := 34) (i := 26) (v := 58) H (by decide) he (by decide +kernel)
  clear he
  intro a ε μ ha he hm
  obtain ⟨ea, H⟩ := MK.al (D' := 60) H (by decide) ha he hm
  clear ha he hm
  subst ea
  refine ⟨H.k 25 rfl, ?_⟩
  intro ε he
  replace H := MK.fi (d := 34) (i := 28) (v := 59) H (by decide) he (by decide +kernel)
  clear he
  intro a ε μ ha he hm
  obtain ⟨ea, H⟩ := MK.al (D' := 61) H (by decide) ha he hm
  clear ha he hm
  subst ea
  refine ⟨H.k 26 rfl, ?_⟩
  intro ε he
  replace H := MK.fi (d := 34) (i := 30) (v := 60) H (by decide) he (by decide +kernel)
  clear he
  intro a ε μ ha he hm
  obtain ⟨ea, H⟩ := MK.al (D' := 62) H (by decide) ha he hm
  clear ha he hm
  subst ea
  refine ⟨H.k 27 rfl, ?_⟩
  intro ε he
  replace H := MK.fi (d := 34) (i := 31) (v := 61) H (by decide) he (by decide +kernel)
  clear he
  intro a ε μ ha he hm
  obtain ⟨ea, H⟩ := MK.al (D' := 63) H (by decide) ha he hm
  clear ha he hm
  subst ea
  refine ⟨H.k 28 rfl, ?_⟩
  intro ε he
  replace H := MK.fi (d := 34) (i := 32) (v := 62) H (by decide) he (by decide +kernel)
  clear he
  intro a ε μ ha he hm
  obtain ⟨ea, H⟩ := MK.al (D' := 64) H (by decide) ha he hm
  clear ha he hm
  subst ea
  refine ⟨H.k 29 rfl, ?_⟩
  intro ε he
  replace H := MK.fi (d := 34) (i := 33) (v := 63) H (by decide) he (by decide +kernel)
  clear he
  intro a ε μ ha he hm
  obtain ⟨ea, H⟩ := MK.al (D' := 65) H (by decide) ha he hm
  clear ha he hm
  subst ea
  refine ⟨H.k 30 rfl, ?_⟩
  intro ε he
  replace H := MK.fi (d := 34) (i := 34) (v := 64) H (by decide) he (by decide +kernel)
  clear he
  intro a ε μ ha he hm
  obtain ⟨ea, H⟩ := MK.al (D' := 66) H (by decide) ha he hm
  clear ha he hm
  subst ea
  intro a ε μ ha he hm
  obtain ⟨ea, H⟩ := MK.al (D' := 67) H (by decide) ha he hm
  clear ha he hm
  subst ea
  refine ⟨H.k 0 rfl, ?_⟩
  refine mk_X11 (D' := 68) (d := 66) H (by decide) (by decide) (H.k 0 rfl) (by decide +kernel) (fun ε μ H => ?_)
  exact mk12_264 hh H
