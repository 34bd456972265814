theorem dX11_lasts_0 : decode cX11_lasts 0 = .ok (.aload_n 0, 1) := by decide +kernel
theorem dX11_lasts_1 : decode cX11_lasts 1 = .ok (.getfield 10, 3) := by decide +kernel
theorem dX11_lasts_4 : decode cX11_lasts 4 = .ok (.iload_n 1, 1) := by decide +kernel
theorem dX11_lasts_5 : decode cX11_lasts 5 = .ok (.invokevirtual 103, 3) := by decide +kernel
theorem dX11_lasts_8 : decode cX11_lasts 8 = .ok (.ifCond .eq 13, 3) := by decide +kernel
theorem dX11_lasts_11 : decode cX11_lasts 11 = .ok (.iload_n 2, 1) := by decide +kernel
theorem dX11_lasts_12 : decode cX11_lasts 12 = .ok (.iconst 0, 1) := by decide +kernel
theorem dX11_lasts_13 : decode cX11_lasts 13 = .ok (.bipush 24, 2) := by decide +kernel
theorem dX11_lasts_15 : decode cX11_lasts 15 = .ok (.invokestatic 74, 3) := by decide +kernel
theorem dX11_lasts_18 : decode cX11_lasts 18 = .ok (.ifCond .ne 5, 3) := by decide +kernel
theorem dX11_lasts_21 : decode cX11_lasts 21 = .ok (.iconst (-1), 1) := by decide +kernel
theorem dX11_lasts_22 : decode cX11_lasts 22 = .ok (.ireturn, 1) := by decide +kernel
theorem dX11_lasts_23 : decode cX11_lasts 23 = .ok (.aload_n 0, 1) := by decide +kernel
theorem dX11_lasts_24 : decode cX11_lasts 24 = .ok (.getfield 19, 3) := by decide +kernel
theorem dX11_lasts_27 : decode cX11_lasts 27 = .ok (.aload_n 0, 1) := by decide +kernel
theorem dX11_lasts_28 : decode cX11_lasts 28 = .ok (.getfield 10, 3) := by decide +kernel
theorem dX11_lasts_31 : decode cX11_lasts 31 = .ok (.invokevirtual 142, 3) := by decide +kernel
theorem dX11_lasts_34 : decode cX11_lasts 34 = .ok (.aload_n 0, 1) := by decide +kernel
theorem dX11_lasts_35 : decode cX11_lasts 35 = .ok (.iload_n 1, 1) := by decide +kernel
theorem dX11_lasts_36 : decode cX11_lasts 36 = .ok (.iload_n 2, 1) := by decide +kernel
theorem dX11_lasts_37 : decode cX11_lasts 37 = .ok (.invokevirtual 250, 3) := by decide +kernel
theorem dX11_lasts_40 : decode cX11_lasts 40 = .ok (.ireturn, 1) := by decide +kernel
set_option maxRecDepth 100000 in
def f_s_lasts (x1 : Int) (x2 : Int) (V : Nat → Nat → Int) (J : Nat → Nat → Int) (Rr : Nat → Nat → Nat) : (Int × (Nat → Nat → Int)) → Prop :=
  calR (f_s_isAlive 1 x1 V J Rr) fun z1 => fct (0 ≤ z1 ∧ z1 ≤ 1) <| (if z1 = 0 then rtn ((-1), V) else calR (f_s_isWithin x2 0 24) fun z4 => fct (0 ≤ z4 ∧ z4 ≤ 1) <| (if ¬ z4 = 0 then calUX (fun i k : Nat => (39 ≤ i ∧ i ≤ 57)) V (f_s_copyT V J Rr) fun V7 => calVX (fun i k : Nat => (39 ≤ i ∧ i ≤ 57) ∨ (69 ≤ i ∧ i ≤ 71)) V7 (f_s_lastsWith x1 x2 V7 J Rr) fun z8 V8 => fct (0 ≤ z8 ∧ z8 ≤ 60) <| rtn (z8, V8) else rtn ((-1), V)))
set_option maxHeartbeats 8000000 in
set_option maxRecDepth 100000 in
theorem s_lasts (l : Launch) (D : va_G) (cy : Nat → ClassId) (ad : Nat → Nat) (G : Nat → Nat → Int) (V J : Nat → Nat → Int) (Rr : Nat → Nat → Nat) (hI : XI G V) (hJ : VJ J) (hR : XR Rr) (x1 : Int) (bx1 : -2147483648 ≤ x1 ∧ x1 ≤ 2147483647) (x2 : Int) (bx2 : -2147483648 ≤ x2 ∧ x2 ≤ 2147483647) : xMi l D (xTY cy) yX11_lasts cX11_lasts 3 (some .int) 6 147 0 0 [.ref (ad 0), vI x1, vI x2] (XW cy ad V J Rr) (fun u : Nat → Nat → Int => XW cy ad u J Rr) (fun a (u : Nat → Nat → Int) => XI G u ∧ FB (fun i k : Nat => (39 ≤ i ∧ i ≤ 57) ∨ (69 ≤ i ∧ i ≤ 71)) V u ∧ (f_s_lasts x1 x2 V J Rr) (a, u)) := by
  refine xMi.mk (lv0 := [(0, .ref (ad 0)), (1, vI x1), (2, vI x2)]) (by decide) rfl (Nat.le_of_ble_eq_true rfl) (fun p e s m below meth c A C hr hnm hAe => ?_)
  have C : xC2 p s m _ meth c D A s.heap 3 cX11_lasts RX11 (xTY cy) := C
  have hB : FB (fun i k : Nat => (39 ≤ i ∧ i ≤ 57) ∨ (69 ≤ i ∧ i ≤ 71)) V V := FB.rf _ _
  have hF := Imp.of_eq (f_s_lasts.eq_def x1 x2 V J Rr)
  refine x_aload_n C.1 dX11_lasts_0 0 rfl ?_
  refine x_getA C (N := 129) (i := 0) (by decide) rfl vc_X11 wx_X11 0 (by decide) wf_X11_10 (a := 1) rfl dX11_lasts_1 ?_
  refine x_iload_n C.1 dX11_lasts_4 1 rfl ?_
  refine x_callVi C (As := [vI x1]) (rest := []) 1 (xw_at (N := 129) (i := 1) (by omega) (xd_L (Or.inl rfl))) vc_X3 (s_isAlive l D cy ad G V J Rr hI hJ hR 1 (Or.inl rfl) x1 ⟨by omega, by omega⟩) (l1 := []) (l2 := []) (List.append_nil _).symm (w2 := fun _ => XW cy ad V J Rr) (fun _ => List.append_nil _) rfl wm_yX3_isAlive wn_X3 wl_X11_103 wi_yX3_isAlive we_yX3_isAlive hd_yX3_isAlive rfl ⟨Nat.le_of_ble_eq_true rfl, Nat.le_of_ble_eq_true rfl⟩ (Nat.le_of_ble_eq_true rfl) ⟨Nat.le_of_ble_eq_true rfl, Nat.le_of_ble_eq_true rfl⟩ dX11_lasts_5 (fun z1 u1 bz1 h1 => ?_)
  obtain ⟨hon1, hFc1⟩ := h1
  replace hF := calR_i hF hFc1
  replace hF := hF.fc hon1.r
  have bq1 := Sp.r hon1
  refine x_if_eq C.1 (tgt := 21) dX11_lasts_8 (by decide) (by omega) (fun hc2 => ?_) (fun hc2 => ?_)
  · replace hF := hF.to (if_pos hc2)
    refine x_iconst C.1 (n := -1) dX11_lasts_21 ?_
    exact x_iret (S := (Nat → Nat → Int)) (post := (fun a (u : Nat → Nat → Int) => XI G u ∧ FB (fun i k : Nat => (39 ≤ i ∧ i ≤ 57) ∨ (69 ≤ i ∧ i ≤ 71)) V u ∧ (f_s_lasts x1 x2 V J Rr) (a, u))) (w1 := (fun u : Nat → Nat → Int => XW cy ad u J Rr)) (a := (-1)) C hr rfl dX11_lasts_22 (by decide) V rfl ⟨hI, hB, hF _ rfl⟩
  · replace hF := hF.to (if_neg hc2)
    have hon3 := Sp.on hon1 (by omega)
    refine x_iload_n C.1 dX11_lasts_11 2 rfl ?_
    refine x_iconst C.1 (n := 0) dX11_lasts_12 ?_
    refine x_bipush C.1 (n := 24) dX11_lasts_13 ?_
    refine x_callSi C (As := [vI x2, vI 0, vI 24]) (rest := []) (s_isWithin l D cy x2 ⟨by omega, by omega⟩ 0 ⟨by decide, by decide⟩ 24 ⟨by decide, by decide⟩) (l1 := []) (l2 := _) rfl (w2 := fun _ => _) (fun _ => rfl) rfl wm_yX11_isWithin wn_X11 wl_X11_74 wi_yX11_isWithin hd_yX11_isWithin rfl ⟨Nat.le_of_ble_eq_true rfl, Nat.le_of_ble_eq_true rfl⟩ (Nat.le_of_ble_eq_true rfl) ⟨Nat.le_of_ble_eq_true rfl, Nat.le_of_ble_eq_true rfl⟩ dX11_lasts_15 (fun z4 u4 bz4 h4 => ?_)
    obtain ⟨bq4, hx4_0, hFc4⟩ := h4
    replace hF := calR_i hF hFc4
    replace hF := hF.fc bq4
    refine x_if_ne C.1 (tgt := 23) dX11_lasts_18 (by decide) (by omega) (fun hc5 => ?_) (fun hc5 => ?_)
    · replace hF := hF.to (if_pos hc5)
      have hon6 := Sq.on hx4_0 (by omega)
      refine x_aload_n C.1 dX11_lasts_23 0 rfl ?_
      refine x_getA C (N := 129) (i := 0) (by decide) rfl vc_X11 wx_X11 2 (by decide) wf_X11_19 (a := 39) rfl dX11_lasts_24 ?_
      refine x_aload_n C.1 dX11_lasts_27 0 rfl ?_
      refine x_getA C (N := 129) (i := 0) (by decide) rfl vc_X11 wx_X11 0 (by decide) wf_X11_10 (a := 1) rfl dX11_lasts_28 ?_
      refine x_callVv C (As := [.ref (ad 1)]) (rest := []) 39 (xw_at (N := 129) (i := 39) (by omega) (xd_L (Or.inr (Or.inr rfl)))) vc_X3 (s_copyT l D cy ad G V J Rr hI hJ hR ) (l1 := []) (l2 := []) (List.append_nil _).symm (w2 := fun u : Nat → Nat → Int => XW cy ad u J Rr) (fun _ => List.append_nil _) rfl wm_yX3_copy wn_X3 wl_X11_142 wi_yX3_copy we_yX3_copy hd_yX3_copy rfl ⟨Nat.le_of_ble_eq_true rfl, Nat.le_of_ble_eq_true rfl⟩ (Nat.le_of_ble_eq_true rfl) ⟨Nat.le_of_ble_eq_true rfl, Nat.le_of_ble_eq_true rfl⟩ dX11_lasts_31 (fun V7 h7 => ?_)
      obtain ⟨hI7, hBc7, hFc7⟩ := h7
      replace hF := calUX_i hF hFc7 hBc7
      have hB7 := hB.tr hBc7 (fun i k h => (Or.inl h))
      refine x_aload_n C.1 dX11_lasts_34 0 rfl ?_
      refine x_iload_n C.1 dX11_lasts_35 1 rfl ?_
      refine x_iload_n C.1 dX11_lasts_36 2 rfl ?_
      refine x_callVi C (As := [vI x1, vI x2]) (rest := []) 0 (xw_at (N := 129) (i := 0) (by decide) rfl) vc_X11 (s_lastsWith l D cy ad G V7 J Rr hI7 hJ hR x1 ⟨by omega, by omega⟩ x2 ⟨by omega, by omega⟩) (l1 := []) (l2 := []) (List.append_nil _).symm (w2 := fun u : Nat → Nat → Int => XW cy ad u J Rr) (fun _ => List.append_nil _) rfl wm_yX11_lastsWith wn_X11 wl_X11_250 wi_yX11_lastsWith we_yX11_lastsWith hd_yX11_lastsWith rfl ⟨Nat.le_of_ble_eq_true rfl, Nat.le_of_ble_eq_true rfl⟩ (Nat.le_of_ble_eq_true rfl) ⟨Nat.le_of_ble_eq_true rfl, Nat.le_of_ble_eq_true rfl⟩ dX11_lasts_37 (fun z8 V8 bz8 h8 => ?_)
      obtain ⟨hI8, bq8, hBc8, hFc8⟩ := h8
      replace hF := calVX_i hF hFc8 hBc8
      replace hF := hF.fc bq8
      have hB8 := hB7.tr hBc8 (fun i k h => (h.elim (fun h => (Or.inl h)) (fun h => (Or.inr (h)))))
      exact x_iret (S := (Nat → Nat → Int)) (post := (fun a (u : Nat → Nat → Int) => XI G u ∧ FB (fun i k : Nat => (39 ≤ i ∧ i ≤ 57) ∨ (69 ≤ i ∧ i ≤ 71)) V u ∧ (f_s_lasts x1 x2 V J Rr) (a, u))) (w1 := (fun u : Nat → Nat → Int => XW cy ad u J Rr)) (a := z8) C hr rfl dX11_lasts_40 (by omega) V8 rfl ⟨hI8, hB8, hF _ rfl⟩
    · replace hF := hF.to (if_neg (fun hh => hh hc5))
      refine x_iconst C.1 (n := -1) dX11_lasts_21 ?_
      exact x_iret (S := (Nat → Nat → Int)) (post := (fun a (u : Nat → Nat → Int) => XI G u ∧ FB (fun i k : Nat => (39 ≤ i ∧ i ≤ 57) ∨ (69 ≤ i ∧ i ≤ 71)) V u ∧ (f_s_lasts x1 x2 V J Rr) (a, u))) (w1 := (fun u : Nat → Nat → Int => XW cy ad u J Rr)) (a := (-1)) C hr rfl dX11_lasts_22 (by decide) V rfl ⟨hI, hB, hF _ rfl⟩
theorem dX11_needs_0 : decode cX11_needs 0 = .ok (.aload_n 0, 1) := by decide +kernel
theorem dX11_needs_1 : decode cX11_needs 1 = .ok (.getfield 10, 3) := by decide +kernel
theorem dX11_needs_4 : decode cX11_needs 4 = .ok (.iload_n 1, 1) := by decide +kernel
theorem dX11_needs_5 : decode cX11_needs 5 = .ok (.invokevirtual 103, 3) := by decide +kernel
theorem dX11_needs_8 : decode cX11_needs 8 = .ok (.ifCond .eq 13, 3) := by decide +kernel
theorem dX11_needs_11 : decode cX11_needs 11 = .ok (.iload_n 2, 1) := by decide +kernel
theorem dX11_needs_12 : decode cX11_needs 12 = .ok (.iconst 1, 1) := by decide +kernel
theorem dX11_needs_13 : decode cX11_needs 13 = .ok (.bipush 60, 2) := by decide +kernel
theorem dX11_needs_15 : decode cX11_needs 15 = .ok (.invokestatic 74, 3) := by decide +kernel
theorem dX11_needs_18 : decode cX11_needs 18 = .ok (.ifCond .ne 5, 3) := by decide +kernel
theorem dX11_needs_21 : decode cX11_needs 21 = .ok (.iconst (-1), 1) := by decide +kernel
theorem dX11_needs_22 : decode cX11_needs 22 = .ok (.ireturn, 1) := by decide +kernel
theorem dX11_needs_23 : decode cX11_needs 23 = .ok (.aload_n 0, 1) := by decide +kernel
theorem dX11_needs_24 : decode cX11_needs 24 = .ok (.getfield 19, 3) := by decide +kernel
theorem dX11_needs_27 : decode cX11_needs 27 = .ok (.aload_n 0, 1) := by decide +kernel
theorem dX11_needs_28 : decode cX11_needs 28 = .ok (.getfield 10, 3) := by decide +kernel
theorem dX11_needs_31 : decode cX11_needs 31 = .ok (.invokevirtual 142, 3) := by decide +kernel
theorem dX11_needs_34 : decode cX11_needs 34 = .ok (.iconst 0, 1) := by decide +kernel
theorem dX11_needs_35 : decode cX11_needs 35 = .ok (.istore_n 3, 1) := by decide +kernel
theorem dX11_needs_36 : decode cX11_needs 36 = .ok (.iload_n 3, 1) := by decide +kernel
theorem dX11_needs_37 : decode cX11_needs 37 = .ok (.bipush 24, 2) := by decide +kernel
theorem dX11_needs_39 : decode cX11_needs 39 = .ok (.if_icmp .gt 21, 3) := by decide +kernel
theorem dX11_needs_42 : decode cX11_needs 42 = .ok (.aload_n 0, 1) := by decide +kernel
theorem dX11_needs_43 : decode cX11_needs 43 = .ok (.iload_n 1, 1) := by decide +kernel
theorem dX11_needs_44 : decode cX11_needs 44 = .ok (.iload_n 3, 1) := by decide +kernel
theorem dX11_needs_45 : decode cX11_needs 45 = .ok (.invokevirtual 250, 3) := by decide +kernel
theorem dX11_needs_48 : decode cX11_needs 48 = .ok (.iload_n 2, 1) := by decide +kernel
theorem dX11_needs_49 : decode cX11_needs 49 = .ok (.if_icmp .lt 5, 3) := by decide +kernel
theorem dX11_needs_52 : decode cX11_needs 52 = .ok (.iload_n 3, 1) := by decide +kernel
theorem dX11_needs_53 : decode cX11_needs 53 = .ok (.ireturn, 1) := by decide +kernel
theorem dX11_needs_54 : decode cX11_needs 54 = .ok (.iinc 3 1, 3) := by decide +kernel
theorem dX11_needs_57 : decode cX11_needs 57 = .ok (.goto (-21), 3) := by decide +kernel
theorem dX11_needs_60 : decode cX11_needs 60 = .ok (.bipush (-2), 2) := by decide +kernel
theorem dX11_needs_62 : decode cX11_needs 62 = .ok (.ireturn, 1) := by decide +kernel
set_option maxRecDepth 100000 in
def f_s_needs (x1 : Int) (x2 : Int) (V : Nat → Nat → Int) (J : Nat → Nat → Int) (Rr : Nat → Nat → Nat) : (Int × (Nat → Nat → Int)) → Prop :=
  calR (f_s_isAlive 1 x1 V J Rr) fun z1 => fct (0 ≤ z1 ∧ z1 ≤ 1) <| (if z1 = 0 then rtn ((-1), V) else calR (f_s_isWithin x2 1 60) fun z4 => fct (0 ≤ z4 ∧ z4 ≤ 1) <| (if ¬ z4 = 0 then calUX (fun i k : Nat => (39 ≤ i ∧ i ≤ 57)) V (f_s_copyT V J Rr) fun V7 => lop2 (27) (fun rc28 (z27 : Int) (V28 : Nat → Nat → Int) => (if 24 < z27 then rtn ((-2), V28) else calVX (fun i k : Nat => (39 ≤ i ∧ i ≤ 57) ∨ (69 ≤ i ∧ i ≤ 71)) V28 (f_s_lastsWith x1 z27 V28 J Rr) fun z33 V33 => fct (0 ≤ z33 ∧ z33 ≤ 60) <| (if z33 < x2 then rc28 (z27 + 1) V33 else rtn (z27, V33)))) 0 V7 else rtn ((-1), V)))
set_option maxHeartbeats 8000000 in
set_option maxRecDepth 100000 in
theorem s_needs (l : Launch) (D : va_G) (cy : Nat → ClassId) (ad : Nat → Nat) (G : Nat → Nat → Int) (V J : Nat → Nat → Int) (Rr : Nat → Nat → Nat) (hI : XI G V) (hJ : VJ J) (hR : XR Rr) (x1 : Int) (bx1 : -2147483648 ≤ x1 ∧ x1 ≤ 2147483647) (x2 : Int) (bx2 : -2147483648 ≤ x2 ∧ x2 ≤ 2147483647) : xMi l D (xTY cy) yX11_needs cX11_needs 4 (some .int) 6 147 0 0 [.ref (ad 0), vI x1, vI x2] (XW cy ad V J Rr) (fun u : Nat → Nat → Int => XW cy ad u J Rr) (fun a (u : Nat → Nat → Int) => XI G u ∧ FB (fun i k : Nat => (39 ≤ i ∧ i ≤ 57) ∨ (69 ≤ i ∧ i ≤ 71)) V u ∧ (f_s_needs x1 x2 V J Rr) (a, u)) := by
  refine xMi.mk (lv0 := [(0, .ref (ad 0)), (1, vI x1), (2, vI x2)]) (by decide) rfl (Nat.le_of_ble_eq_true rfl) (fun p e s m below meth c A C hr hnm hAe => ?_)
  have C : xC2 p s m _ meth c D A s.heap 4 cX11_needs RX11 (xTY cy) := C
  have hB : FB (fun i k : Nat => (39 ≤ i ∧ i ≤ 57) ∨ (69 ≤ i ∧ i ≤ 71)) V V := FB.rf _ _
  have hF := Imp.of_eq (f_s_needs.eq_def x1 x2 V J Rr)
  refine x_aload_n C.1 dX11_needs_0 0 rfl ?_
  refine x_getA C (N := 129) (i := 0) (by decide) rfl vc_X11 wx_X11 0 (by decide) wf_X11_10 (a := 1) rfl dX11_needs_1 ?_
  refine x_iload_n C.1 dX11_needs_4 1 rfl ?_
  refine x_callVi C (As := [vI x1]) (rest := []) 1 (xw_at (N := 129) (i := 1) (by omega) (xd_L (Or.inl rfl))) vc_X3 (s_isAlive l D cy ad G V J Rr hI hJ hR 1 (Or.inl rfl) x1 ⟨by omega, by omega⟩) (l1 := []) (l2 := []) (List.append_nil _).symm (w2 := fun _ => XW cy ad V J Rr) (fun _ => List.append_nil _) rfl wm_yX3_isAlive wn_X3 wl_X11_103 wi_yX3_isAlive we_yX3_isAlive hd_yX3_isAlive rfl ⟨Nat.le_of_ble_eq_true rfl, Nat.le_of_ble_eq_true rfl⟩ (Nat.le_of_ble_eq_true rfl) ⟨Nat.le_of_ble_eq_true rfl, Nat.le_of_ble_eq_true rfl⟩ dX11_needs_5 (fun z1 u1 bz1 h1 => ?_)
  obtain ⟨hon1, hFc1⟩ := h1
  replace hF := calR_i hF hFc1
  replace hF := hF.fc hon1.r
  have bq1 := Sp.r hon1
  refine x_if_eq C.1 (tgt := 21) dX11_needs_8 (by decide) (by omega) (fun hc2 => ?_) (fun hc2 => ?_)
  · replace hF := hF.to (if_pos hc2)
    refine x_iconst C.1 (n := -1) dX11_needs_21 ?_
    exact x_iret (S := (Nat → Nat → Int)) (post := (fun a (u : Nat → Nat → Int) => XI G u ∧ FB (fun i k : Nat => (39 ≤ i ∧ i ≤ 57) ∨ (69 ≤ i ∧ i ≤ 71)) V u ∧ (f_s_needs x1 x2 V J Rr) (a, u))) (w1 := (fun u : Nat → Nat → Int => XW cy ad u J Rr)) (a := (-1)) C hr rfl dX11_needs_22 (by decide) V rfl ⟨hI, hB, hF _ rfl⟩
  · replace hF := hF.to (if_neg hc2)
    have hon3 := Sp.on hon1 (by omega)
    refine x_iload_n C.1 dX11_needs_11 2 rfl ?_
    refine x_iconst C.1 (n := 1) dX11_needs_12 ?_
    refine x_bipush C.1 (n := 60) dX11_needs_13 ?_
    refine x_callSi C (As := [vI x2, vI 1, vI 60]) (rest := []) (s_isWithin l D cy x2 ⟨by omega, by omega⟩ 1 ⟨by decide, by decide⟩ 60 ⟨by decide, by decide⟩) (l1 := []) (l2 := _) rfl (w2 := fun _ => _) (fun _ => rfl) rfl wm_yX11_isWithin wn_X11 wl_X11_74 wi_yX11_isWithin hd_yX11_isWithin rfl ⟨Nat.le_of_ble_eq_true rfl, Nat.le_of_ble_eq_true rfl⟩ (Nat.le_of_ble_eq_true rfl) ⟨Nat.le_of_ble_eq_true rfl, Nat.le_of_ble_eq_true rfl⟩ dX11_needs_15 (fun z4 u4 bz4 h4 => ?_)
    obtain ⟨bq4, hx4_0, hFc4⟩ := h4
    replace hF := calR_i hF hFc4
    replace hF := hF.fc bq4
    refine x_if_ne C.1 (tgt := 23) dX11_needs_18 (by decide) (by omega) (fun hc5 => ?_) (fun hc5 => ?_)
    · replace hF := hF.to (if_pos hc5)
      have hon6 := Sq.on hx4_0 (by omega)
      refine x_aload_n C.1 dX11_needs_23 0 rfl ?_
      refine x_getA C (N := 129) (i := 0) (by decide) rfl vc_X11 wx_X11 2 (by decide) wf_X11_19 (a := 39) rfl dX11_needs_24 ?_
      refine x_aload_n C.1 dX11_needs_27 0 rfl ?_
      refine x_getA C (N := 129) (i := 0) (by decide) rfl vc_X11 wx_X11 0 (by decide) wf_X11_10 (a := 1) rfl dX11_needs_28 ?_
      refine x_callVv C (As := [.ref (ad 1)]) (rest := []) 39 (xw_at (N := 129) (i := 39) (by omega) (xd_L (Or.inr (Or.inr rfl)))) vc_X3 (s_copyT l D cy ad G V J Rr hI hJ hR ) (l1 := []) (l2 := []) (List.append_nil _).symm (w2 := fun u : Nat → Nat → Int => XW cy ad u J Rr) (fun _ => List.append_nil _) rfl wm_yX3_copy wn_X3 wl_X11_142 wi_yX3_copy we_yX3_copy hd_yX3_copy rfl ⟨Nat.le_of_ble_eq_true rfl, Nat.le_of_ble_eq_true rfl⟩ (Nat.le_of_ble_eq_true rfl) ⟨Nat.le_of_ble_eq_true rfl, Nat.le_of_ble_eq_true rfl⟩ dX11_needs_31 (fun V7 h7 => ?_)
      obtain ⟨hI7, hBc7, hFc7⟩ := h7
      replace hF := calUX_i hF hFc7 hBc7
      have hB7 := hB.tr hBc7 (fun i k h => (Or.inl h))
      refine x_iconst C.1 (n := 0) dX11_needs_34 ?_
      refine x_istore_n C.1 (lv' := [(3, vI 0), (0, .ref (ad 0)), (1, vI x1), (2, vI x2)]) dX11_needs_35 (by decide) rfl ?_
      obtain ⟨bd28, hbd28, hF⟩ := lop2_ex hF
      refine x_loop (I := fun x : Int × (Nat → Nat → Int) => match x with | (z27, V28) => (0 ≤ z27 ∧ z27 ≤ 25) ∧ XI G V28 ∧ FB (fun i k : Nat => (39 ≤ i ∧ i ≤ 57) ∨ (69 ≤ i ∧ i ≤ 71)) V V28 ∧ (∃ nf : Nat, (26 - z27).toNat < nf ∧ Imp (lop2 nf bd28 z27 V28) (f_s_needs x1 x2 V J Rr))) (μ := fun x : Int × (Nat → Nat → Int) => match x with | (z27, V28) => (26 - z27).toNat) (wsf := fun x : Int × (Nat → Nat → Int) => match x with | (z27, V28) => XW cy ad V28 J Rr) (lvf := fun x : Int × (Nat → Nat → Int) => match x with | (z27, V28) => [(3, vI z27), (0, .ref (ad 0)), (1, vI x1), (2, vI x2)]) (fun x hI28x ih28 => ?_) (0, V7) ⟨⟨by decide, by decide⟩, hI7, hB7, ⟨_, (by omega), hF⟩⟩ rfl rfl
      obtain ⟨z27, V28⟩ := x
      obtain ⟨bz27, hI28, hB28, nf28, hn28, hF⟩ := hI28x
      try dsimp only
      obtain ⟨nf28, rfl⟩ : ∃ mm, nf28 = mm + 1 := ⟨nf28 - 1, (Nat.succ_pred_eq_of_pos (Nat.lt_of_le_of_lt (Nat.zero_le _) hn28)).symm⟩
      replace hF := hF.to (lop2_s hbd28)
      refine x_iload_n C.1 dX11_needs_36 0 rfl ?_
      refine x_bipush C.1 (n := 24) dX11_needs_37 ?_
      refine x_icmp_gt C.1 (tgt := 60) dX11_needs_39 (by decide) (by omega) (by decide) (fun hc32 => ?_) (fun hc32 => ?_)
      · replace hF := hF.to (if_pos hc32)
        refine x_bipush C.1 (n := -2) dX11_needs_60 ?_
        exact x_iret (S := (Nat → Nat → Int)) (post := (fun a (u : Nat → Nat → Int) => XI G u ∧ FB (fun i k : Nat => (39 ≤ i ∧ i ≤ 57) ∨ (69 ≤ i ∧ i ≤ 71)) V u ∧ (f_s_needs x1 x2 V J Rr) (a, u))) (w1 := (fun u : Nat → Nat → Int => XW cy ad u J Rr)) (a := (-2)) C hr rfl dX11_needs_62 (by decide) V28 rfl ⟨hI28, hB28, hF _ rfl⟩
      · replace hF := hF.to (if_neg hc32)
        refine x_aload_n C.1 dX11_needs_42 1 rfl ?_
        refine x_iload_n C.1 dX11_needs_43 2 rfl ?_
        refine x_iload_n C.1 dX11_needs_44 0 rfl ?_
        refine x_callVi C (As := [vI x1, vI z27]) (rest := []) 0 (xw_at (N := 129) (i := 0) (by decide) rfl) vc_X11 (s_lastsWith l D cy ad G V28 J Rr hI28 hJ hR x1 ⟨by omega, by omega⟩ z27 ⟨by omega, by omega⟩) (l1 := []) (l2 := []) (List.append_nil _).symm (w2 := fun u : Nat → Nat → Int => XW cy ad u J Rr) (fun _ => List.append_nil _) rfl wm_yX11_lastsWith wn_X11 wl_X11_250 wi_yX11_lastsWith we_yX11_lastsWith hd_yX11_lastsWith rfl ⟨Nat.le_of_ble_eq_true rfl, Nat.le_of_ble_eq_true rfl⟩ (Nat.le_of_ble_eq_true rfl) ⟨Nat.le_of_ble_eq_true rfl, Nat.le_of_ble_eq_true rfl⟩ dX11_needs_45 (fun z33 V33 bz33 h33 => ?_)
        obtain ⟨hI33, bq33, hBc33, hFc33⟩ := h33
        replace hF := calVX_i hF hFc33 hBc33
        replace hF := hF.fc bq33
        have hB33 := hB28.tr hBc33 (fun i k h => (h.elim (fun h => (Or.inl h)) (fun h => (Or.inr (h)))))
        refine x_iload_n C.1 dX11_needs_48 3 rfl ?_
        refine x_icmp_lt C.1 (tgt := 54) dX11_needs_49 (by decide) (by omega) (by omega) (fun hc34 => ?_) (fun hc34 => ?_)
        · replace hF := hF.to (if_pos hc34)
          refine x_iinc C.1 (v := z27 + 1) (lv' := [(3, vI (z27 + 1)), (0, .ref (ad 0)), (1, vI x1), (2, vI x2)]) (by omega) dX11_needs_54 0 rfl (by decide) rfl ?_
          refine x_goto C.1 (tgt := 36) dX11_needs_57 (by decide) ?_
          have hmu28 : (26 - (z27 + 1)).toNat < (26 - z27).toNat := (by omega)
          exact ih28 (z27 + 1, V33) ⟨⟨by omega, by omega⟩, hI33, hB33, ⟨nf28, Nat.lt_of_lt_of_le hmu28 (Nat.le_of_lt_succ hn28), hF⟩⟩ hmu28
        · replace hF := hF.to (if_neg hc34)
          refine x_iload_n C.1 dX11_needs_52 0 rfl ?_
          exact x_iret (S := (Nat → Nat → Int)) (post := (fun a (u : Nat → Nat → Int) => XI G u ∧ FB (fun i k : Nat => (39 ≤ i ∧ i ≤ 57) ∨ (69 ≤ i ∧ i ≤ 71)) V u ∧ (f_s_needs x1 x2 V J Rr) (a, u))) (w1 := (fun u : Nat → Nat → Int => XW cy ad u J Rr)) (a := z27) C hr rfl dX11_needs_53 (by omega) V33 rfl ⟨hI33, hB33, hF _ rfl⟩
    · replace hF := hF.to (if_neg (fun hh => hh hc5))
      refine x_iconst C.1 (n := -1) dX11_needs_21 ?_
      exact x_iret (S := (Nat → Nat → Int)) (post := (fun a (u : Nat → Nat → Int) => XI G u ∧ FB (fun i k : Nat => (39 ≤ i ∧ i ≤ 57) ∨ (69 ≤ i ∧ i ≤ 71)) V u ∧ (f_s_needs x1 x2 V J Rr) (a, u))) (w1 := (fun u : Nat → Nat → Int => XW cy ad u J Rr)) (a := (-1)) C hr rfl dX11_needs_22 (by decide) V rfl ⟨hI, hB, hF _ rfl⟩
theorem hd_yX10_comer : yX10_comer.cls ≠ "java/lang/invoke/MethodHandle" ∧ yX10_comer.cls ≠ "java/lang/invoke/VarHandle" ∧ (parseMethodDescriptor yX10_comer.desc).map (fun d => d.parameters.length) = some 1 := by decide +kernel
theorem hd_yX10_find : yX10_find.cls ≠ "java/lang/invoke/MethodHandle" ∧ yX10_find.cls ≠ "java/lang/invoke/VarHandle" ∧ (parseMethodDescriptor yX10_find.desc).map (fun d => d.parameters.length) = some 4 := by decide +kernel
theorem dX11_week_0 : decode cX11_week 0 = .ok (.aload_n 0, 1) := by decide +kernel
theorem dX11_week_1 : decode cX11_week 1 = .ok (.getfield 10, 3) := by decide +kernel
theorem dX11_week_4 : decode cX11_week 4 = .ok (.iload_n 1, 1) := by decide +kernel
theorem dX11_week_5 : decode cX11_week 5 = .ok (.invokevirtual 103, 3) := by decide +kernel
theorem dX11_week_8 : decode cX11_week 8 = .ok (.ifCond .eq 11, 3) := by decide +kernel
theorem dX11_week_11 : decode cX11_week 11 = .ok (.aload_n 0, 1) := by decide +kernel
theorem dX11_week_12 : decode cX11_week 12 = .ok (.iload_n 2, 1) := by decide +kernel
theorem dX11_week_13 : decode cX11_week 13 = .ok (.invokevirtual 253, 3) := by decide +kernel
theorem dX11_week_16 : decode cX11_week 16 = .ok (.ifCond .ne 5, 3) := by decide +kernel
theorem dX11_week_19 : decode cX11_week 19 = .ok (.iconst (-1), 1) := by decide +kernel
theorem dX11_week_20 : decode cX11_week 20 = .ok (.ireturn, 1) := by decide +kernel
theorem dX11_week_21 : decode cX11_week 21 = .ok (.iload_n 3, 1) := by decide +kernel
theorem dX11_week_22 : decode cX11_week 22 = .ok (.bipush 7, 2) := by decide +kernel
theorem dX11_week_24 : decode cX11_week 24 = .ok (.invokestatic 70, 3) := by decide +kernel
theorem dX11_week_27 : decode cX11_week 27 = .ok (.ifCond .ne 17, 3) := by decide +kernel
theorem dX11_week_30 : decode cX11_week 30 = .ok (.iload_n 3, 1) := by decide +kernel
theorem dX11_week_31 : decode cX11_week 31 = .ok (.bipush 10, 2) := by decide +kernel
theorem dX11_week_33 : decode cX11_week 33 = .ok (.if_icmp .eq 11, 3) := by decide +kernel
theorem dX11_week_36 : decode cX11_week 36 = .ok (.iload_n 3, 1) := by decide +kernel
theorem dX11_week_37 : decode cX11_week 37 = .ok (.bipush 11, 2) := by decide +kernel
theorem dX11_week_39 : decode cX11_week 39 = .ok (.if_icmp .eq 5, 3) := by decide +kernel
theorem dX11_week_42 : decode cX11_week 42 = .ok (.iconst (-1), 1) := by decide +kernel
theorem dX11_week_43 : decode cX11_week 43 = .ok (.ireturn, 1) := by decide +kernel
theorem dX11_week_44 : decode cX11_week 44 = .ok (.aload_n 0, 1) := by decide +kernel
theorem dX11_week_45 : decode cX11_week 45 = .ok (.getfield 19, 3) := by decide +kernel
theorem dX11_week_48 : decode cX11_week 48 = .ok (.aload_n 0, 1) := by decide +kernel
theorem dX11_week_49 : decode cX11_week 49 = .ok (.getfield 10, 3) := by decide +kernel
theorem dX11_week_52 : decode cX11_week 52 = .ok (.invokevirtual 142, 3) := by decide +kernel
theorem dX11_week_55 : decode cX11_week 55 = .ok (.aload_n 0, 1) := by decide +kernel
theorem dX11_week_56 : decode cX11_week 56 = .ok (.getfield 48, 3) := by decide +kernel
theorem dX11_week_59 : decode cX11_week 59 = .ok (.aload_n 0, 1) := by decide +kernel
theorem dX11_week_60 : decode cX11_week 60 = .ok (.getfield 19, 3) := by decide +kernel
theorem dX11_week_63 : decode cX11_week 63 = .ok (.aload_n 0, 1) := by decide +kernel
theorem dX11_week_64 : decode cX11_week 64 = .ok (.getfield 34, 3) := by decide +kernel
theorem dX11_week_67 : decode cX11_week 67 = .ok (.iload_n 1, 1) := by decide +kernel
theorem dX11_week_68 : decode cX11_week 68 = .ok (.iload_n 2, 1) := by decide +kernel
theorem dX11_week_69 : decode cX11_week 69 = .ok (.invokevirtual 256, 3) := by decide +kernel
theorem dX11_week_72 : decode cX11_week 72 = .ok (.ifCond .ne 6, 3) := by decide +kernel
theorem dX11_week_75 : decode cX11_week 75 = .ok (.bipush (-2), 2) := by decide +kernel
theorem dX11_week_77 : decode cX11_week 77 = .ok (.ireturn, 1) := by decide +kernel
theorem dX11_week_78 : decode cX11_week 78 = .ok (.iload_n 3, 1) := by decide +kernel
theorem dX11_week_79 : decode cX11_week 79 = .ok (.bipush 10, 2) := by decide +kernel
theorem dX11_week_81 : decode cX11_week 81 = .ok (.if_icmp .ne 11, 3) := by decide +kernel
theorem dX11_week_84 : decode cX11_week 84 = .ok (.aload_n 0, 1) := by decide +kernel
theorem dX11_week_85 : decode cX11_week 85 = .ok (.getfield 48, 3) := by decide +kernel
theorem dX11_week_88 : decode cX11_week 88 = .ok (.getfield 260, 3) := by decide +kernel
theorem dX11_week_91 : decode cX11_week 91 = .ok (.ireturn, 1) := by decide +kernel
theorem dX11_week_92 : decode cX11_week 92 = .ok (.iload_n 3, 1) := by decide +kernel
theorem dX11_week_93 : decode cX11_week 93 = .ok (.bipush 11, 2) := by decide +kernel
theorem dX11_week_95 : decode cX11_week 95 = .ok (.if_icmp .ne 13, 3) := by decide +kernel
theorem dX11_week_98 : decode cX11_week 98 = .ok (.aload_n 0, 1) := by decide +kernel
theorem dX11_week_99 : decode cX11_week 99 = .ok (.getfield 48, 3) := by decide +kernel
theorem dX11_week_102 : decode cX11_week 102 = .ok (.getfield 263, 3) := by decide +kernel
theorem dX11_week_105 : decode cX11_week 105 = .ok (.goto 11, 3) := by decide +kernel
theorem dX11_week_108 : decode cX11_week 108 = .ok (.aload_n 0, 1) := by decide +kernel
theorem dX11_week_109 : decode cX11_week 109 = .ok (.getfield 48, 3) := by decide +kernel
theorem dX11_week_112 : decode cX11_week 112 = .ok (.iload_n 3, 1) := by decide +kernel
theorem dX11_week_113 : decode cX11_week 113 = .ok (.invokevirtual 264, 3) := by decide +kernel
theorem dX11_week_116 : decode cX11_week 116 = .ok (.ireturn, 1) := by decide +kernel
set_option maxRecDepth 100000 in
def f_s_week (x1 : Int) (x2 : Int) (x3 : Int) (V : Nat → Nat → Int) (J : Nat → Nat → Int) (Rr : Nat → Nat → Nat) : (Int × (Nat → Nat → Int)) → Prop :=
  calR (f_s_isAlive 1 x1 V J Rr) fun z1 => fct (0 ≤ z1 ∧ z1 ≤ 1) <| (if z1 = 0 then rtn ((-1), V) else calR (f_s_areTold x2 V J Rr) fun z4 => fct (0 ≤ z4 ∧ z4 ≤ 1) <| (if ¬ z4 = 0 then calR (f_s_isPlace x3 7) fun z7 => fct (0 ≤ z7 ∧ z7 ≤ 1) <| (if ¬ z7 = 0 then calUX (fun i k : Nat => (39 ≤ i ∧ i ≤ 57)) V (f_s_copyT V J Rr) fun V10 => calVX (fun i k : Nat => (105 ≤ i ∧ i ≤ 123) ∨ (69 ≤ i ∧ i ≤ 71) ∨ (39 ≤ i ∧ i ≤ 57)) V10 (f_s_find x1 x2 V10 J Rr) fun z11 V11 => fct (0 ≤ z11 ∧ z11 ≤ 1) <| (if ¬ z11 = 0 then calR (f_s_comer x3 V11 J Rr) fun z13 => rtn (z13, V11) else rtn ((-2), V11)) else (if x3 = 10 then calUX (fun i k : Nat => (39 ≤ i ∧ i ≤ 57)) V (f_s_copyT V J Rr) fun V15 => calVX (fun i k : Nat => (105 ≤ i ∧ i ≤ 123) ∨ (69 ≤ i ∧ i ≤ 71) ∨ (39 ≤ i ∧ i ≤ 57)) V15 (f_s_find x1 x2 V15 J Rr) fun z16 V16 => fct (0 ≤ z16 ∧ z16 ≤ 1) <| (if ¬ z16 = 0 then rdb (V16 105 6) fun z18 => rtn (z18, V16) else rtn ((-2), V16)) else (if x3 = 11 then calUX (fun i k : Nat => (39 ≤ i ∧ i ≤ 57)) V (f_s_copyT V J Rr) fun V20 => calVX (fun i k : Nat => (105 ≤ i ∧ i ≤ 123) ∨ (69 ≤ i ∧ i ≤ 71) ∨ (39 ≤ i ∧ i ≤ 57)) V20 (f_s_find x1 x2 V20 J Rr) fun z21 V21 => fct (0 ≤ z21 ∧ z21 ≤ 1) <| (if ¬ z21 = 0 then rdb (V21 105 7) fun z23 => rtn (z23, V21) else rtn ((-2), V21)) else rtn ((-1), V)))) else rtn ((-1), V)))
set_option maxHeartbeats 8000000 in
set_option maxRecDepth 100000 in
theorem s_week (l : Launch) (D : va_G) (cy : Nat → ClassId) (ad : Nat → Nat) (G : Nat → Nat → Int) (V J : Nat → Nat → Int) (Rr : Nat → Nat → Nat) (hI : XI G V) (hJ : VJ J) (hR : XR Rr) (x1 : Int) (bx1 : -2147483648 ≤ x1 ∧ x1 ≤ 2147483647) (x2 : Int) (bx2 : -2147483648 ≤ x2 ∧ x2 ≤ 2147483647) (x3 : Int) (bx3 : -2147483648 ≤ x3 ∧ x3 ≤ 2147483647) : xMi l D (xTY cy) yX11_week cX11_week 4 (some .int) 13 359 0 0 [.ref (ad 0), vI x1, vI x2, vI x3] (XW cy ad V J Rr) (fun u : Nat → Nat → Int => XW cy ad u J Rr) (fun a (u : Nat → Nat → Int) => XI G u ∧ FB (fun i k : Nat => (39 ≤ i ∧ i ≤ 57) ∨ (105 ≤ i ∧ i ≤ 123) ∨ (69 ≤ i ∧ i ≤ 71)) V u ∧ (f_s_week x1 x2 x3 V J Rr) (a, u)) := by
  refine xMi.mk (lv0 := [(0, .ref (ad 0)), (1, vI x1), (2, vI x2), (3, vI x3)]) (by decide) rfl (Nat.le_of_ble_eq_true rfl) (fun p e s m below meth c A C hr hnm hAe => ?_)
  have C : xC2 p s m _ meth c D A s.heap 4 cX11_week RX11 (xTY cy) := C
  have hB : FB (fun i k : Nat => (39 ≤ i ∧ i ≤ 57) ∨ (105 ≤ i ∧ i ≤ 123) ∨ (69 ≤ i ∧ i ≤ 71)) V V := FB.rf _ _
  have hF := Imp.of_eq (f_s_week.eq_def x1 x2 x3 V J Rr)
  refine x_aload_n C.1 dX11_week_0 0 rfl ?_
  refine x_getA C (N := 129) (i := 0) (by decide) rfl vc_X11 wx_X11 0 (by decide) wf_X11_10 (a := 1) rfl dX11_week_1 ?_
  refine x_iload_n C.1 dX11_week_4 1 rfl ?_
  refine x_callVi C (As := [vI x1]) (rest := []) 1 (xw_at (N := 129) (i := 1) (by omega) (xd_L (Or.inl rfl))) vc_X3 (s_isAlive l D cy ad G V J Rr hI hJ hR 1 (Or.inl rfl) x1 ⟨by omega, by omega⟩) (l1 := []) (l2 := []) (List.append_nil _).symm (w2 := fun _ => XW cy ad V J Rr) (fun _ => List.append_nil _) rfl wm_yX3_isAlive wn_X3 wl_X11_103 wi_yX3_isAlive we_yX3_isAlive hd_yX3_isAlive rfl ⟨Nat.le_of_ble_eq_true rfl, Nat.le_of_ble_eq_true rfl⟩ (Nat.le_of_ble_eq_true rfl) ⟨Nat.le_of_ble_eq_true rfl, Nat.le_of_ble_eq_true rfl⟩ dX11_week_5 (fun z1 u1 bz1 h1 => ?_)
  obtain ⟨hon1, hFc1⟩ := h1
  replace hF := calR_i hF hFc1
  replace hF := hF.fc hon1.r
  have bq1 := Sp.r hon1
  refine x_if_eq C.1 (tgt := 19) dX11_week_8 (by decide) (by omega) (fun hc2 => ?_) (fun hc2 => ?_)
  · replace hF := hF.to (if_pos hc2)
    refine x_iconst C.1 (n := -1) dX11_week_19 ?_
    exact x_iret (S := (Nat → Nat → Int)) (post := (fun a (u : Nat → Nat → Int) => XI G u ∧ FB (fun i k : Nat => (39 ≤ i ∧ i ≤ 57) ∨ (105 ≤ i ∧ i ≤ 123) ∨ (69 ≤ i ∧ i ≤ 71)) V u ∧ (f_s_week x1 x2 x3 V J Rr) (a, u))) (w1 := (fun u : Nat → Nat → Int => XW cy ad u J Rr)) (a := (-1)) C hr rfl dX11_week_20 (by decide) V rfl ⟨hI, hB, hF _ rfl⟩
  · replace hF := hF.to (if_neg hc2)
    have hon3 := Sp.on hon1 (by omega)
    refine x_aload_n C.1 dX11_week_11 0 rfl ?_
    refine x_iload_n C.1 dX11_week_12 2 rfl ?_
    refine x_callVi C (As := [vI x2]) (rest := []) 0 (xw_at (N := 129) (i := 0) (by decide) rfl) vc_X11 (s_areTold l D cy ad G V J Rr hI hJ hR x2 ⟨by omega, by omega⟩) (l1 := []) (l2 := []) (List.append_nil _).symm (w2 := fun _ => XW cy ad V J Rr) (fun _ => List.append_nil _) rfl wm_yX11_areTold wn_X11 wl_X11_253 wi_yX11_areTold we_yX11_areTold hd_yX11_areTold rfl ⟨Nat.le_of_ble_eq_true rfl, Nat.le_of_ble_eq_true rfl⟩ (Nat.le_of_ble_eq_true rfl) ⟨Nat.le_of_ble_eq_true rfl, Nat.le_of_ble_eq_true rfl⟩ dX11_week_13 (fun z4 u4 bz4 h4 => ?_)
    obtain ⟨hon4, hFc4⟩ := h4
    replace hF := calR_i hF hFc4
    replace hF := hF.fc hon4.r
    have bq4 := Sp.r hon4
    refine x_if_ne C.1 (tgt := 21) dX11_week_16 (by decide) (by omega) (fun hc5 => ?_) (fun hc5 => ?_)
    · replace hF := hF.to (if_pos hc5)
      have hon6 := Sp.on hon4 (by omega)
      refine x_iload_n C.1 dX11_week_21 3 rfl ?_
      refine x_bipush C.1 (n := 7) dX11_week_22 ?_
      refine x_callSi C (As := [vI x3, vI 7]) (rest := []) (s_isPlace l D cy x3 ⟨by omega, by omega⟩ 7 ⟨by decide, by decide⟩) (l1 := []) (l2 := _) rfl (w2 := fun _ => _) (fun _ => rfl) rfl wm_yX11_isPlace wn_X11 wl_X11_70 wi_yX11_isPlace hd_yX11_isPlace rfl ⟨Nat.le_of_ble_eq_true rfl, Nat.le_of_ble_eq_true rfl⟩ (Nat.le_of_ble_eq_true rfl) ⟨Nat.le_of_ble_eq_true rfl, Nat.le_of_ble_eq_true rfl⟩ dX11_week_24 (fun z7 u7 bz7 h7 => ?_)
      obtain ⟨bq7, hx7_0, hFc7⟩ := h7
      replace hF := calR_i hF hFc7
      replace hF := hF.fc bq7
      refine x_if_ne C.1 (tgt := 44) dX11_week_27 (by decide) (by omega) (fun hc8 => ?_) (fun hc8 => ?_)
      · replace hF := hF.to (if_pos hc8)
        have hon9 := Sq.on hx7_0 (by omega)
        refine x_aload_n C.1 dX11_week_44 0 rfl ?_
        refine x_getA C (N := 129) (i := 0) (by decide) rfl vc_X11 wx_X11 2 (by decide) wf_X11_19 (a := 39) rfl dX11_week_45 ?_
        refine x_aload_n C.1 dX11_week_48 0 rfl ?_
        refine x_getA C (N := 129) (i := 0) (by decide) rfl vc_X11 wx_X11 0 (by decide) wf_X11_10 (a := 1) rfl dX11_week_49 ?_
        refine x_callVv C (As := [.ref (ad 1)]) (rest := []) 39 (xw_at (N := 129) (i := 39) (by omega) (xd_L (Or.inr (Or.inr rfl)))) vc_X3 (s_copyT l D cy ad G V J Rr hI hJ hR ) (l1 := []) (l2 := []) (List.append_nil _).symm (w2 := fun u : Nat → Nat → Int => XW cy ad u J Rr) (fun _ => List.append_nil _) rfl wm_yX3_copy wn_X3 wl_X11_142 wi_yX3_copy we_yX3_copy hd_yX3_copy rfl ⟨Nat.le_of_ble_eq_true rfl, Nat.le_of_ble_eq_true rfl⟩ (Nat.le_of_ble_eq_true rfl) ⟨Nat.le_of_ble_eq_true rfl, Nat.le_of_ble_eq_true rfl⟩ dX11_week_52 (fun V10 h10 => ?_)
        obtain ⟨hI10, hBc10, hFc10⟩ := h10
        replace hF := calUX_i hF hFc10 hBc10
        have hB10 := hB.tr hBc10 (fun i k h => (Or.inl h))
        refine x_aload_n C.1 dX11_week_55 0 rfl ?_
        refine x_getA C (N := 129) (i := 0) (by decide) rfl vc_X11 wx_X11 7 (by decide) wf_X11_48 (a := 105) rfl dX11_week_56 ?_
        refine x_aload_n C.1 dX11_week_59 0 rfl ?_
        refine x_getA C (N := 129) (i := 0) (by decide) rfl vc_X11 wx_X11 2 (by decide) wf_X11_19 (a := 39) rfl dX11_week_60 ?_
        refine x_aload_n C.1 dX11_week_63 0 rfl ?_
        refine x_getA C (N := 129) (i := 0) (by decide) rfl vc_X11 wx_X11 5 (by decide) wf_X11_34 (a := 60) rfl dX11_week_64 ?_
        refine x_iload_n C.1 dX11_week_67 1 rfl ?_
        refine x_iload_n C.1 dX11_week_68 2 rfl ?_
        refine x_callVi C (As := [.ref (ad 39), .ref (ad 60), vI x1, vI x2]) (rest := []) 105 (xw_at (N := 129) (i := 105) (by decide) rfl) vc_X10 (s_find l D cy ad G V10 J Rr hI10 hJ hR x1 ⟨by omega, by omega⟩ x2 ⟨by omega, by omega⟩) (l1 := []) (l2 := []) (List.append_nil _).symm (w2 := fun u : Nat → Nat → Int => XW cy ad u J Rr) (fun _ => List.append_nil _) rfl wm_yX10_find wn_X10 wl_X11_256 wi_yX10_find we_yX10_find hd_yX10_find rfl ⟨Nat.le_of_ble_eq_true rfl, Nat.le_of_ble_eq_true rfl⟩ (Nat.le_of_ble_eq_true rfl) ⟨Nat.le_of_ble_eq_true rfl, Nat.le_of_ble_eq_true rfl⟩ dX11_week_69 (fun z11 V11 bz11 h11 => ?_)
        obtain ⟨hI11, bq11, hBc11, hFc11⟩ := h11
        replace hF := calVX_i hF hFc11 hBc11
        replace hF := hF.fc bq11
        have hB11 := hB10.tr hBc11 (fun i k h => (h.elim (fun h => (Or.inr (Or.inl h))) (fun h => (h.elim (fun h => (Or.inr (Or.inr (h)))) (fun h => (Or.inl h))))))
        refine x_if_ne C.1 (tgt := 78) dX11_week_72 (by decide) (by omega) (fun hc12 => ?_) (fun hc12 => ?_)
        · replace hF := hF.to (if_pos hc12)
          refine x_iload_n C.1 dX11_week_78 3 rfl ?_
          refine x_bipush C.1 (n := 10) dX11_week_79 ?_
          refine x_icmp_ne_t C.1 (tgt := 92) dX11_week_81 (by decide) (by omega) (by decide) (by omega) ?_
          refine x_iload_n C.1 dX11_week_92 3 rfl ?_
          refine x_bipush C.1 (n := 11) dX11_week_93 ?_
          refine x_icmp_ne_t C.1 (tgt := 108) dX11_week_95 (by decide) (by omega) (by decide) (by omega) ?_
          refine x_aload_n C.1 dX11_week_108 0 rfl ?_
          refine x_getA C (N := 129) (i := 0) (by decide) rfl vc_X11 wx_X11 7 (by decide) wf_X11_48 (a := 105) rfl dX11_week_109 ?_
          refine x_iload_n C.1 dX11_week_112 3 rfl ?_
          refine x_callVi C (As := [vI x3]) (rest := []) 105 (xw_at (N := 129) (i := 105) (by decide) rfl) vc_X10 (s_comer l D cy ad G V11 J Rr hI11 hJ hR x3 ⟨by omega, by omega⟩) (l1 := []) (l2 := []) (List.append_nil _).symm (w2 := fun _ => XW cy ad V11 J Rr) (fun _ => List.append_nil _) rfl wm_yX10_comer wn_X10 wl_X11_264 wi_yX10_comer we_yX10_comer hd_yX10_comer rfl ⟨Nat.le_of_ble_eq_true rfl, Nat.le_of_ble_eq_true rfl⟩ (Nat.le_of_ble_eq_true rfl) ⟨Nat.le_of_ble_eq_true rfl, Nat.le_of_ble_eq_true rfl⟩ dX11_week_113 (fun z13 u13 bz13 h13 => ?_)
          have hFc13 := h13
          replace hF := calR_i hF hFc13
          exact x_iret (S := (Nat → Nat → Int)) (post := (fun a (u : Nat → Nat → Int) => XI G u ∧ FB (fun i k : Nat => (39 ≤ i ∧ i ≤ 57) ∨ (105 ≤ i ∧ i ≤ 123) ∨ (69 ≤ i ∧ i ≤ 71)) V u ∧ (f_s_week x1 x2 x3 V J Rr) (a, u))) (w1 := (fun u : Nat → Nat → Int => XW cy ad u J Rr)) (a := z13) C hr rfl dX11_week_116 (by omega) V11 rfl ⟨hI11, hB11, hF _ rfl⟩
        · replace hF := hF.to (if_neg (fun hh => hh hc12))
          refine x_bipush C.1 (n := -2) dX11_week_75 ?_
          exact x_iret (S := (Nat → Nat → Int)) (post := (fun a (u : Nat → Nat → Int) => XI G u ∧ FB (fun i k : Nat => (39 ≤ i ∧ i ≤ 57) ∨ (105 ≤ i ∧ i ≤ 123) ∨ (69 ≤ i ∧ i ≤ 71)) V u ∧ (f_s_week x1 x2 x3 V J Rr) (a, u))) (w1 := (fun u : Nat → Nat → Int => XW cy ad u J Rr)) (a := (-2)) C hr rfl dX11_week_77 (by decide) V11 rfl ⟨hI11, hB11, hF _ rfl⟩
      · replace hF := hF.to (if_neg (fun hh => hh hc8))
        refine x_iload_n C.1 dX11_week_30 3 rfl ?_
        refine x_bipush C.1 (n := 10) dX11_week_31 ?_
        refine x_icmp_eq C.1 (tgt := 44) dX11_week_33 (by decide) (by omega) (by decide) (fun hc14 => ?_) (fun hc14 => ?_)
        · replace hF := hF.to (if_pos hc14)
          refine x_aload_n C.1 dX11_week_44 0 rfl ?_
          refine x_getA C (N := 129) (i := 0) (by decide) rfl vc_X11 wx_X11 2 (by decide) wf_X11_19 (a := 39) rfl dX11_week_45 ?_
          refine x_aload_n C.1 dX11_week_48 0 rfl ?_
          refine x_getA C (N := 129) (i := 0) (by decide) rfl vc_X11 wx_X11 0 (by decide) wf_X11_10 (a := 1) rfl dX11_week_49 ?_
          refine x_callVv C (As := [.ref (ad 1)]) (rest := []) 39 (xw_at (N := 129) (i := 39) (by omega) (xd_L (Or.inr (Or.inr rfl)))) vc_X3 (s_copyT l D cy ad G V J Rr hI hJ hR ) (l1 := []) (l2 := []) (List.append_nil _).symm (w2 := fun u : Nat → Nat → Int => XW cy ad u J Rr) (fun _ => List.append_nil _) rfl wm_yX3_copy wn_X3 wl_X11_142 wi_yX3_copy we_yX3_copy hd_yX3_copy rfl ⟨Nat.le_of_ble_eq_true rfl, Nat.le_of_ble_eq_true rfl⟩ (Nat.le_of_ble_eq_true rfl) ⟨Nat.le_of_ble_eq_true rfl, Nat.le_of_ble_eq_true rfl⟩ dX11_week_52 (fun V15 h15 => ?_)
          obtain ⟨hI15, hBc15, hFc15⟩ := h15
          replace hF := calUX_i hF hFc15 hBc15
          have hB15 := hB.tr hBc15 (fun i k h => (Or.inl h))
          refine x_aload_n C.1 dX11_week_55 0 rfl ?_
          refine x_getA C (N := 129) (i := 0) (by decide) rfl vc_X11 wx_X11 7 (by decide) wf_X11_48 (a := 105) rfl dX11_week_56 ?_
          refine x_aload_n C.1 dX11_week_59 0 rfl ?_
          refine x_getA C (N := 129) (i := 0) (by decide) rfl vc_X11 wx_X11 2 (by decide) wf_X11_19 (a := 39) rfl dX11_week_60 ?_
          refine x_aload_n C.1 dX11_week_63 0 rfl ?_
          refine x_getA C (N := 129) (i := 0) (by decide) rfl vc_X11 wx_X11 5 (by decide) wf_X11_34 (a := 60) rfl dX11_week_64 ?_
          refine x_iload_n C.1 dX11_week_67 1 rfl ?_
          refine x_iload_n C.1 dX11_week_68 2 rfl ?_
          refine x_callVi C (As := [.ref (ad 39), .ref (ad 60), vI x1, vI x2]) (rest := []) 105 (xw_at (N := 129) (i := 105) (by decide) rfl) vc_X10 (s_find l D cy ad G V15 J Rr hI15 hJ hR x1 ⟨by omega, by omega⟩ x2 ⟨by omega, by omega⟩) (l1 := []) (l2 := []) (List.append_nil _).symm (w2 := fun u : Nat → Nat → Int => XW cy ad u J Rr) (fun _ => List.append_nil _) rfl wm_yX10_find wn_X10 wl_X11_256 wi_yX10_find we_yX10_find hd_yX10_find rfl ⟨Nat.le_of_ble_eq_true rfl, Nat.le_of_ble_eq_true rfl⟩ (Nat.le_of_ble_eq_true rfl) ⟨Nat.le_of_ble_eq_true rfl, Nat.le_of_ble_eq_true rfl⟩ dX11_week_69 (fun z16 V16 bz16 h16 => ?_)
          obtain ⟨hI16, bq16, hBc16, hFc16⟩ := h16
          replace hF := calVX_i hF hFc16 hBc16
          replace hF := hF.fc bq16
          have hB16 := hB15.tr hBc16 (fun i k h => (h.elim (fun h => (Or.inr (Or.inl h))) (fun h => (h.elim (fun h => (Or.inr (Or.inr (h)))) (fun h => (Or.inl h))))))
          refine x_if_ne C.1 (tgt := 78) dX11_week_72 (by decide) (by omega) (fun hc17 => ?_) (fun hc17 => ?_)
          · replace hF := hF.to (if_pos hc17)
            refine x_iload_n C.1 dX11_week_78 3 rfl ?_
            refine x_bipush C.1 (n := 10) dX11_week_79 ?_
            refine x_icmp_ne_f C.1 (tgt := 92) dX11_week_81 (by decide) (by omega) (by decide) (by omega) ?_
            refine x_aload_n C.1 dX11_week_84 0 rfl ?_
            refine x_getA C (N := 129) (i := 0) (by decide) rfl vc_X11 wx_X11 7 (by decide) wf_X11_48 (a := 105) rfl dX11_week_85 ?_
            obtain ⟨z18, ez18, bz18⟩ := hI16.rd 105 6 (x := -2147483648) (y := 2147483647) rfl
            replace hF := hF.to (rdb_e (z := z18) ez18)
            refine x_getI C (N := 129) (i := 105) (by decide) rfl vc_X10 wx_X10 6 (by decide) wf_X11_260 rfl dX11_week_88 (a := z18) ez18 ?_
            exact x_iret (S := (Nat → Nat → Int)) (post := (fun a (u : Nat → Nat → Int) => XI G u ∧ FB (fun i k : Nat => (39 ≤ i ∧ i ≤ 57) ∨ (105 ≤ i ∧ i ≤ 123) ∨ (69 ≤ i ∧ i ≤ 71)) V u ∧ (f_s_week x1 x2 x3 V J Rr) (a, u))) (w1 := (fun u : Nat → Nat → Int => XW cy ad u J Rr)) (a := z18) C hr rfl dX11_week_91 (by omega) V16 rfl ⟨hI16, hB16, hF _ rfl⟩
          · replace hF := hF.to (if_neg (fun hh => hh hc17))
            refine x_bipush C.1 (n := -2) dX11_week_75 ?_
            exact x_iret (S := (Nat → Nat → Int)) (post := (fun a (u : Nat → Nat → Int) => XI G u ∧ FB (fun i k : Nat => (39 ≤ i ∧ i ≤ 57) ∨ (105 ≤ i ∧ i ≤ 123) ∨ (69 ≤ i ∧ i ≤ 71)) V u ∧ (f_s_week x1 x2 x3 V J Rr) (a, u))) (w1 := (fun u : Nat → Nat → Int => XW cy ad u J Rr)) (a := (-2)) C hr rfl dX11_week_77 (by decide) V16 rfl ⟨hI16, hB16, hF _ rfl⟩
        · replace hF := hF.to (if_neg hc14)
          refine x_iload_n C.1 dX11_week_36 3 rfl ?_
          refine x_bipush C.1 (n := 11) dX11_week_37 ?_
          refine x_icmp_eq C.1 (tgt := 44) dX11_week_39 (by decide) (by omega) (by decide) (fun hc19 => ?_) (fun hc19 => ?_)
          · replace hF := hF.to (if_pos hc19)
            refine x_aload_n C.1 dX11_week_44 0 rfl ?_
            refine x_getA C (N := 129) (i := 0) (by decide) rfl vc_X11 wx_X11 2 (by decide) wf_X11_19 (a := 39) rfl dX11_week_45 ?_
            refine x_aload_n C.1 dX11_week_48 0 rfl ?_
            refine x_getA C (N := 129) (i := 0) (by decide) rfl vc_X11 wx_X11 0 (by decide) wf_X11_10 (a := 1) rfl dX11_week_49 ?_
            refine x_callVv C (As := [.ref (ad 1)]) (rest := []) 39 (xw_at (N := 129) (i := 39) (by omega) (xd_L (Or.inr (Or.inr rfl)))) vc_X3 (s_copyT l D cy ad G V J Rr hI hJ hR ) (l1 := []) (l2 := []) (List.append_nil _).symm (w2 := fun u : Nat → Nat → Int => XW cy ad u J Rr) (fun _ => List.append_nil _) rfl wm_yX3_copy wn_X3 wl_X11_142 wi_yX3_copy we_yX3_copy hd_yX3_copy rfl ⟨Nat.le_of_ble_eq_true rfl, Nat.le_of_ble_eq_true rfl⟩ (Nat.le_of_ble_eq_true rfl) ⟨Nat.le_of_ble_eq_true rfl, Nat.le_of_ble_eq_true rfl⟩ dX11_week_52 (fun V20 h20 => ?_)
            obtain ⟨hI20, hBc20, hFc20⟩ := h20
            replace hF := calUX_i hF hFc20 hBc20
            have hB20 := hB.tr hBc20 (fun i k h => (Or.inl h))
            refine x_aload_n C.1 dX11_week_55 0 rfl ?_
            refine x_getA C (N := 129) (i := 0) (by decide) rfl vc_X11 wx_X11 7 (by decide) wf_X11_48 (a := 105) rfl dX11_week_56 ?_
            refine x_aload_n C.1 dX11_week_59 0 rfl ?_
            refine x_getA C (N := 129) (i := 0) (by decide) rfl vc_X11 wx_X11 2 (by decide) wf_X11_19 (a := 39) rfl dX11_week_60 ?_
            refine x_aload_n C.1 dX11_week_63 0 rfl ?_
            refine x_getA C (N := 129) (i := 0) (by decide) rfl vc_X11 wx_X11 5 (by decide) wf_X11_34 (a := 60) rfl dX11_week_64 ?_
            refine x_iload_n C.1 dX11_week_67 1 rfl ?_
            refine x_iload_n C.1 dX11_week_68 2 rfl ?_
            refine x_callVi C (As := [.ref (ad 39), .ref (ad 60), vI x1, vI x2]) (rest := []) 105 (xw_at (N := 129) (i := 105) (by decide) rfl) vc_X10 (s_find l D cy ad G V20 J Rr hI20 hJ hR x1 ⟨by omega, by omega⟩ x2 ⟨by omega, by omega⟩) (l1 := []) (l2 := []) (List.append_nil _).symm (w2 := fun u : Nat → Nat → Int => XW cy ad u J Rr) (fun _ => List.append_nil _) rfl wm_yX10_find wn_X10 wl_X11_256 wi_yX10_find we_yX10_find hd_yX10_find rfl ⟨Nat.le_of_ble_eq_true rfl, Nat.le_of_ble_eq_true rfl⟩ (Nat.le_of_ble_eq_true rfl) ⟨Nat.le_of_ble_eq_true rfl, Nat.le_of_ble_eq_true rfl⟩ dX11_week_69 (fun z21 V21 bz21 h21 => ?_)
            obtain ⟨hI21, bq21, hBc21, hFc21⟩ := h21
            replace hF := calVX_i hF hFc21 hBc21
            replace hF := hF.fc bq21
            have hB21 := hB20.tr hBc21 (fun i k h => (h.elim (fun h => (Or.inr (Or.inl h))) (fun h => (h.elim (fun h => (Or.inr (Or.inr (h)))) (fun h => (Or.inl h))))))
            refine x_if_ne C.1 (tgt := 78) dX11_week_72 (by decide) (by omega) (fun hc22 => ?_) (fun hc22 => ?_)
            · replace hF := hF.to (if_pos hc22)
              refine x_iload_n C.1 dX11_week_78 3 rfl ?_
              refine x_bipush C.1 (n := 10) dX11_week_79 ?_
              refine x_icmp_ne_t C.1 (tgt := 92) dX11_week_81 (by decide) (by omega) (by decide) (by omega) ?_
              refine x_iload_n C.1 dX11_week_92 3 rfl ?_
              refine x_bipush C.1 (n := 11) dX11_week_93 ?_
              refine x_icmp_ne_f C.1 (tgt := 108) dX11_week_95 (by decide) (by omega) (by decide) (by omega) ?_
              refine x_aload_n C.1 dX11_week_98 0 rfl ?_
              refine x_getA C (N := 129) (i := 0) (by decide) rfl vc_X11 wx_X11 7 (by decide) wf_X11_48 (a := 105) rfl dX11_week_99 ?_
              obtain ⟨z23, ez23, bz23⟩ := hI21.rd 105 7 (x := -2147483648) (y := 2147483647) rfl
              replace hF := hF.to (rdb_e (z := z23) ez23)
              refine x_getI C (N := 129) (i := 105) (by decide) rfl vc_X10 wx_X10 7 (by decide) wf_X11_263 rfl dX11_week_102 (a := z23) ez23 ?_
              refine x_goto C.1 (tgt := 116) dX11_week_105 (by decide) ?_
              exact x_iret (S := (Nat → Nat → Int)) (post := (fun a (u : Nat → Nat → Int) => XI G u ∧ FB (fun i k : Nat => (39 ≤ i ∧ i ≤ 57) ∨ (105 ≤ i ∧ i ≤ 123) ∨ (69 ≤ i ∧ i ≤ 71)) V u ∧ (f_s_week x1 x2 x3 V J Rr) (a, u))) (w1 := (fun u : Nat → Nat → Int => XW cy ad u J Rr)) (a := z23) C hr rfl dX11_week_116 (by omega) V21 rfl ⟨hI21, hB21, hF _ rfl⟩
            · replace hF := hF.to (if_neg (fun hh => hh hc22))
              refine x_bipush C.1 (n := -2) dX11_week_75 ?_
              exact x_iret (S := (Nat → Nat → Int)) (post := (fun a (u : Nat → Nat → Int) => XI G u ∧ FB (fun i k : Nat => (39 ≤ i ∧ i ≤ 57) ∨ (105 ≤ i ∧ i ≤ 123) ∨ (69 ≤ i ∧ i ≤ 71)) V u ∧ (f_s_week x1 x2 x3 V J Rr) (a, u))) (w1 := (fun u : Nat → Nat → Int => XW cy ad u J Rr)) (a := (-2)) C hr rfl dX11_week_77 (by decide) V21 rfl ⟨hI21, hB21, hF _ rfl⟩
          · replace hF := hF.to (if_neg hc19)
            refine x_iconst C.1 (n := -1) dX11_week_42 ?_
            exact x_iret (S := (Nat → Nat → Int)) (post := (fun a (u : Nat → Nat → Int) => XI G u ∧ FB (fun i k : Nat => (39 ≤ i ∧ i ≤ 57) ∨ (105 ≤ i ∧ i ≤ 123) ∨ (69 ≤ i ∧ i ≤ 71)) V u ∧ (f_s_week x1 x2 x3 V J Rr) (a, u))) (w1 := (fun u : Nat → Nat → Int => XW cy ad u J Rr)) (a := (-1)) C hr rfl dX11_week_43 (by decide) V rfl ⟨hI, hB, hF _ rfl⟩
    · replace hF := hF.to (if_neg (fun hh => hh hc5))
      refine x_iconst C.1 (n := -1) dX11_week_19 ?_
      exact x_iret (S := (Nat → Nat → Int)) (post := (fun a (u : Nat → Nat → Int) => XI G u ∧ FB (fun i k : Nat => (39 ≤ i ∧ i ≤ 57) ∨ (105 ≤ i ∧ i ≤ 123) ∨ (69 ≤ i ∧ i ≤ 71)) V u ∧ (f_s_week x1 x2 x3 V J Rr) (a, u))) (w1 := (fun u : Nat → Nat → Int => XW cy ad u J Rr)) (a := (-1)) C hr rfl dX11_week_20 (by decide) V rfl ⟨hI, hB, hF _ rfl⟩
theorem dX11_movesOut_0 : decode cX11_movesOut 0 = .ok (.aload_n 0, 1) := by decide +kernel
theorem dX11_movesOut_1 : decode cX11_movesOut 1 = .ok (.iload_n 1, 1) := by decide +kernel
theorem dX11_movesOut_2 : decode cX11_movesOut 2 = .ok (.iload_n 2, 1) := by decide +kernel
theorem dX11_movesOut_3 : decode cX11_movesOut 3 = .ok (.iload_n 3, 1) := by decide +kernel
theorem dX11_movesOut_4 : decode cX11_movesOut 4 = .ok (.invokevirtual 198, 3) := by decide +kernel
theorem dX11_movesOut_7 : decode cX11_movesOut 7 = .ok (.ifCond .eq 13, 3) := by decide +kernel
theorem dX11_movesOut_10 : decode cX11_movesOut 10 = .ok (.iload 4, 2) := by decide +kernel
theorem dX11_movesOut_12 : decode cX11_movesOut 12 = .ok (.iconst 0, 1) := by decide +kernel
theorem dX11_movesOut_13 : decode cX11_movesOut 13 = .ok (.iconst 1, 1) := by decide +kernel
theorem dX11_movesOut_14 : decode cX11_movesOut 14 = .ok (.invokestatic 74, 3) := by decide +kernel
theorem dX11_movesOut_17 : decode cX11_movesOut 17 = .ok (.ifCond .ne 7, 3) := by decide +kernel
theorem dX11_movesOut_20 : decode cX11_movesOut 20 = .ok (.ldc2_w 201, 3) := by decide +kernel
theorem dX11_movesOut_23 : decode cX11_movesOut 23 = .ok (.lreturn, 1) := by decide +kernel
theorem dX11_movesOut_24 : decode cX11_movesOut 24 = .ok (.iconst (-1), 1) := by decide +kernel
theorem dX11_movesOut_25 : decode cX11_movesOut 25 = .ok (.istore 5, 2) := by decide +kernel
theorem dX11_movesOut_27 : decode cX11_movesOut 27 = .ok (.ldc2_w 201, 3) := by decide +kernel
theorem dX11_movesOut_30 : decode cX11_movesOut 30 = .ok (.lstore 6, 2) := by decide +kernel
theorem dX11_movesOut_32 : decode cX11_movesOut 32 = .ok (.iconst 0, 1) := by decide +kernel
theorem dX11_movesOut_33 : decode cX11_movesOut 33 = .ok (.istore 8, 2) := by decide +kernel
theorem dX11_movesOut_35 : decode cX11_movesOut 35 = .ok (.iload 8, 2) := by decide +kernel
theorem dX11_movesOut_37 : decode cX11_movesOut 37 = .ok (.iload_n 3, 1) := by decide +kernel
theorem dX11_movesOut_38 : decode cX11_movesOut 38 = .ok (.if_icmp .ge 84, 3) := by decide +kernel
theorem dX11_movesOut_41 : decode cX11_movesOut 41 = .ok (.aload_n 0, 1) := by decide +kernel
theorem dX11_movesOut_42 : decode cX11_movesOut 42 = .ok (.getfield 41, 3) := by decide +kernel
theorem dX11_movesOut_45 : decode cX11_movesOut 45 = .ok (.aload_n 0, 1) := by decide +kernel
theorem dX11_movesOut_46 : decode cX11_movesOut 46 = .ok (.getfield 10, 3) := by decide +kernel
theorem dX11_movesOut_49 : decode cX11_movesOut 49 = .ok (.iload_n 1, 1) := by decide +kernel
theorem dX11_movesOut_50 : decode cX11_movesOut 50 = .ok (.iload_n 3, 1) := by decide +kernel
theorem dX11_movesOut_51 : decode cX11_movesOut 51 = .ok (.invokevirtual 215, 3) := by decide +kernel
theorem dX11_movesOut_54 : decode cX11_movesOut 54 = .ok (.aload_n 0, 1) := by decide +kernel
theorem dX11_movesOut_55 : decode cX11_movesOut 55 = .ok (.getfield 41, 3) := by decide +kernel
theorem dX11_movesOut_58 : decode cX11_movesOut 58 = .ok (.getfield 219, 3) := by decide +kernel
theorem dX11_movesOut_61 : decode cX11_movesOut 61 = .ok (.iload 8, 2) := by decide +kernel
theorem dX11_movesOut_63 : decode cX11_movesOut 63 = .ok (.iconst 0, 1) := by decide +kernel
theorem dX11_movesOut_64 : decode cX11_movesOut 64 = .ok (.iastore, 1) := by decide +kernel
theorem dX11_movesOut_65 : decode cX11_movesOut 65 = .ok (.aload_n 0, 1) := by decide +kernel
theorem dX11_movesOut_66 : decode cX11_movesOut 66 = .ok (.getfield 41, 3) := by decide +kernel
theorem dX11_movesOut_69 : decode cX11_movesOut 69 = .ok (.aload_n 0, 1) := by decide +kernel
theorem dX11_movesOut_70 : decode cX11_movesOut 70 = .ok (.getfield 10, 3) := by decide +kernel
theorem dX11_movesOut_73 : decode cX11_movesOut 73 = .ok (.aload_n 0, 1) := by decide +kernel
theorem dX11_movesOut_74 : decode cX11_movesOut 74 = .ok (.getfield 34, 3) := by decide +kernel
theorem dX11_movesOut_77 : decode cX11_movesOut 77 = .ok (.iload_n 2, 1) := by decide +kernel
theorem dX11_movesOut_78 : decode cX11_movesOut 78 = .ok (.invokevirtual 228, 3) := by decide +kernel
theorem dX11_movesOut_81 : decode cX11_movesOut 81 = .ok (.lstore 9, 2) := by decide +kernel
theorem dX11_movesOut_83 : decode cX11_movesOut 83 = .ok (.lload 6, 2) := by decide +kernel
theorem dX11_movesOut_85 : decode cX11_movesOut 85 = .ok (.ldc2_w 201, 3) := by decide +kernel
theorem dX11_movesOut_88 : decode cX11_movesOut 88 = .ok (.lcmp, 1) := by decide +kernel
theorem dX11_movesOut_89 : decode cX11_movesOut 89 = .ok (.ifCond .eq 11, 3) := by decide +kernel
theorem dX11_movesOut_92 : decode cX11_movesOut 92 = .ok (.lload 9, 2) := by decide +kernel
theorem dX11_movesOut_94 : decode cX11_movesOut 94 = .ok (.lload 6, 2) := by decide +kernel
theorem dX11_movesOut_96 : decode cX11_movesOut 96 = .ok (.lcmp, 1) := by decide +kernel
theorem dX11_movesOut_97 : decode cX11_movesOut 97 = .ok (.ifCond .ge 19, 3) := by decide +kernel
theorem dX11_movesOut_100 : decode cX11_movesOut 100 = .ok (.lload 9, 2) := by decide +kernel
theorem dX11_movesOut_102 : decode cX11_movesOut 102 = .ok (.lstore 6, 2) := by decide +kernel
theorem dX11_movesOut_104 : decode cX11_movesOut 104 = .ok (.aload_n 0, 1) := by decide +kernel
theorem dX11_movesOut_105 : decode cX11_movesOut 105 = .ok (.getfield 41, 3) := by decide +kernel
theorem dX11_movesOut_108 : decode cX11_movesOut 108 = .ok (.getfield 235, 3) := by decide +kernel
theorem dX11_movesOut_111 : decode cX11_movesOut 111 = .ok (.iload 8, 2) := by decide +kernel
theorem dX11_movesOut_113 : decode cX11_movesOut 113 = .ok (.iaload, 1) := by decide +kernel
theorem dX11_movesOut_114 : decode cX11_movesOut 114 = .ok (.istore 5, 2) := by decide +kernel
theorem dX11_movesOut_116 : decode cX11_movesOut 116 = .ok (.iinc 8 1, 3) := by decide +kernel
theorem dX11_movesOut_119 : decode cX11_movesOut 119 = .ok (.goto (-84), 3) := by decide +kernel
theorem dX11_movesOut_122 : decode cX11_movesOut 122 = .ok (.iload 4, 2) := by decide +kernel
theorem dX11_movesOut_124 : decode cX11_movesOut 124 = .ok (.ifCond .ne 9, 3) := by decide +kernel
theorem dX11_movesOut_127 : decode cX11_movesOut 127 = .ok (.iload 5, 2) := by decide +kernel
theorem dX11_movesOut_129 : decode cX11_movesOut 129 = .ok (.i2l, 1) := by decide +kernel
theorem dX11_movesOut_130 : decode cX11_movesOut 130 = .ok (.goto 5, 3) := by decide +kernel
theorem dX11_movesOut_133 : decode cX11_movesOut 133 = .ok (.lload 6, 2) := by decide +kernel
theorem dX11_movesOut_135 : decode cX11_movesOut 135 = .ok (.lreturn, 1) := by decide +kernel
set_option maxRecDepth 100000 in
def f_s_movesOut (x1 : Int) (x2 : Int) (x3 : Int) (x4 : Int) (V : Nat → Nat → Int) (J : Nat → Nat → Int) (Rr : Nat → Nat → Nat) : (Int × xS) → Prop :=
  calR (f_s_canReckon x1 x2 x3 V J Rr) fun z1 => fct (0 ≤ z1 ∧ z1 ≤ 1) <| (if z1 = 0 then rtn ((-1), (V, J, Rr)) else calR (f_s_isWithin x4 0 1) fun z4 => fct (0 ≤ z4 ∧ z4 ≤ 1) <| (if ¬ z4 = 0 then lop6 (5) (fun rc126 (z123 : Int) (z124 : Int) (z125 : Int) (V126 : Nat → Nat → Int) (J126 : Nat → Nat → Int) (R126 : Nat → Nat → Nat) => (if x3 ≤ z123 then (if ¬ x4 = 0 then rtn (z124, (V126, J126, R126)) else rtn (z125, (V126, J126, R126))) else calUX (fun i k : Nat => (98 ≤ i ∧ i ≤ 104)) V126 (f_s_take 1 x1 x3 V126 J126 R126) fun V179 => rdb (up2 V179 104 z123.toNat 0) fun V180 => calSX (fun i k : Nat => (98 ≤ i ∧ i ≤ 104) ∨ (70 ≤ i ∧ i ≤ 70) ∨ (69 ≤ i ∧ i ≤ 71)) V180 (f_s_lives 1 x2 V180 J126 R126) fun z181 V181 J181 R181 => jnk (fun (z187 : Int) (z188 : Int) => rc126 (z123 + 1) z188 z187 V181 J181 R181) fun jf189 => (if (lcI z124 (-1)) = 0 then rdb (V181 103 z123.toNat) fun z191 => fct (0 ≤ z191 ∧ z191 ≤ 7) <| jf189 z191 z181 else (if 0 ≤ (lcI z181 z124) then jf189 z125 z124 else rdb (V181 103 z123.toNat) fun z194 => fct (0 ≤ z194 ∧ z194 ≤ 7) <| jf189 z194 z181)))) 0 ((-1)) ((-1)) V J Rr else rtn ((-1), (V, J, Rr))))
set_option maxHeartbeats 8000000 in
set_option maxRecDepth 100000 in
theorem s_movesOut (l : Launch) (D : va_G) (cy : Nat → ClassId) (ad : Nat → Nat) (G : Nat → Nat → Int) (V J : Nat → Nat → Int) (Rr : Nat → Nat → Nat) (hI : XI G V) (hJ : VJ J) (hR : XR Rr) (x1 : Int) (bx1 : -2147483648 ≤ x1 ∧ x1 ≤ 2147483647) (x2 : Int) (bx2 : -2147483648 ≤ x2 ∧ x2 ≤ 2147483647) (x3 : Int) (bx3 : -2147483648 ≤ x3 ∧ x3 ≤ 2147483647) (x4 : Int) (bx4 : -2147483648 ≤ x4 ∧ x4 ≤ 2147483647) : xMl l D (xTY cy) yX11_movesOut cX11_movesOut 11 (some .long) 6 155 0 0 [.ref (ad 0), vI x1, vI x2, vI x3, vI x4] (XW cy ad V J Rr) (fun u : xS => XW cy ad u.1 u.2.1 u.2.2) (fun a (u : xS) => XS G u ∧ FB (fun i k : Nat => (98 ≤ i ∧ i ≤ 104) ∨ (70 ≤ i ∧ i ≤ 70) ∨ (69 ≤ i ∧ i ≤ 71)) V u.1 ∧ RK u.2.2 Rr ∧ (f_s_movesOut x1 x2 x3 x4 V J Rr) (a, u)) := by
  refine xMl.mk (lv0 := [(0, .ref (ad 0)), (1, vI x1), (2, vI x2), (3, vI x3), (4, vI x4)]) (by decide) rfl (Nat.le_of_ble_eq_true rfl) (fun p e s m below meth c A C hr hnm hAe => ?_)
  have C : xC2 p s m _ meth c D A s.heap 11 cX11_movesOut RX11 (xTY cy) := C
  have hB : FB (fun i k : Nat => (98 ≤ i ∧ i ≤ 104) ∨ (70 ≤ i ∧ i ≤ 70) ∨ (69 ≤ i ∧ i ≤ 71)) V V := FB.rf _ _
  have hF := Imp.of_eq (f_s_movesOut.eq_def x1 x2 x3 x4 V J Rr)
  refine x_aload_n C.1 dX11_movesOut_0 0 rfl ?_
  refine x_iload_n C.1 dX11_movesOut_1 1 rfl ?_
  refine x_iload_n C.1 dX11_movesOut_2 2 rfl ?_
  refine x_iload_n C.1 dX11_movesOut_3 3 rfl ?_
  refine x_callVi C (As := [vI x1, vI x2, vI x3]) (rest := []) 0 (xw_at (N := 129) (i := 0) (by decide) rfl) vc_X11 (s_canReckon l D cy ad G V J Rr hI hJ hR x1 ⟨by omega, by omega⟩ x2 ⟨by omega, by omega⟩ x3 ⟨by omega, by omega⟩) (l1 := []) (l2 := []) (List.append_nil _).symm (w2 := fun _ => XW cy ad V J Rr) (fun _ => List.append_nil _) rfl wm_yX11_canReckon wn_X11 wl_X11_198 wi_yX11_canReckon we_yX11_canReckon hd_yX11_canReckon rfl ⟨Nat.le_of_ble_eq_true rfl, Nat.le_of_ble_eq_true rfl⟩ (Nat.le_of_ble_eq_true rfl) ⟨Nat.le_of_ble_eq_true rfl, Nat.le_of_ble_eq_true rfl⟩ dX11_movesOut_4 (fun z1 u1 bz1 h1 => ?_)
  obtain ⟨hon1, hFc1⟩ := h1
  replace hF := calR_i hF hFc1
  replace hF := hF.fc hon1.r
  have bq1 := Sp.r hon1
  refine x_if_eq C.1 (tgt := 20) dX11_movesOut_7 (by decide) (by omega) (fun hc2 => ?_) (fun hc2 => ?_)
  · replace hF := hF.to (if_pos hc2)
    refine x_ldc2 C.1 (n := -1) wq_X11_201 dX11_movesOut_20 ?_
    exact x_lret (S := xS) (post := (fun a (u : xS) => XS G u ∧ FB (fun i k : Nat => (98 ≤ i ∧ i ≤ 104) ∨ (70 ≤ i ∧ i ≤ 70) ∨ (69 ≤ i ∧ i ≤ 71)) V u.1 ∧ RK u.2.2 Rr ∧ (f_s_movesOut x1 x2 x3 x4 V J Rr) (a, u))) (w1 := (fun u : xS => XW cy ad u.1 u.2.1 u.2.2)) (a := (-1)) C hr rfl dX11_movesOut_23 (by decide) (V, J, Rr) rfl ⟨⟨hI, hJ, hR⟩, hB, (RK.rf _), hF _ rfl⟩
  · replace hF := hF.to (if_neg hc2)
    have hon3 := Sp.on hon1 (by omega)
    refine x_iload C.1 dX11_movesOut_10 4 rfl ?_
    refine x_iconst C.1 (n := 0) dX11_movesOut_12 ?_
    refine x_iconst C.1 (n := 1) dX11_movesOut_13 ?_
    refine x_callSi C (As := [vI x4, vI 0, vI 1]) (rest := []) (s_isWithin l D cy x4 ⟨by omega, by omega⟩ 0 ⟨by decide, by decide⟩ 1 ⟨by decide, by decide⟩) (l1 := []) (l2 := _) rfl (w2 := fun _ => _) (fun _ => rfl) rfl wm_yX11_isWithin wn_X11 wl_X11_74 wi_yX11_isWithin hd_yX11_isWithin rfl ⟨Nat.le_of_ble_eq_true rfl, Nat.le_of_ble_eq_true rfl⟩ (Nat.le_of_ble_eq_true rfl) ⟨Nat.le_of_ble_eq_true rfl, Nat.le_of_ble_eq_true rfl⟩ dX11_movesOut_14 (fun z4 u4 bz4 h4 => ?_)
    obtain ⟨bq4, hx4_0, hFc4⟩ := h4
    replace hF := calR_i hF hFc4
    replace hF := hF.fc bq4
    refine x_if_ne C.1 (tgt := 24) dX11_movesOut_17 (by decide) (by omega) (fun hc5 => ?_) (fun hc5 => ?_)
    · replace hF := hF.to (if_pos hc5)
      have hon6 := Sq.on hx4_0 (by omega)
      refine x_iconst C.1 (n := -1) dX11_movesOut_24 ?_
      refine x_istore C.1 (lv' := [(5, vI (-1)), (0, .ref (ad 0)), (1, vI x1), (2, vI x2), (3, vI x3), (4, vI x4)]) dX11_movesOut_25 (by decide) rfl ?_
      refine x_ldc2 C.1 (n := -1) wq_X11_201 dX11_movesOut_27 ?_
      refine x_lstore C.1 (lv' := [(6, vJ (-1)), (5, vI (-1)), (0, .ref (ad 0)), (1, vI x1), (2, vI x2), (3, vI x3), (4, vI x4)]) dX11_movesOut_30 (by decide) rfl ?_
      refine x_iconst C.1 (n := 0) dX11_movesOut_32 ?_
      refine x_istore C.1 (lv' := [(8, vI 0), (6, vJ (-1)), (5, vI (-1)), (0, .ref (ad 0)), (1, vI x1), (2, vI x2), (3, vI x3), (4, vI x4)]) dX11_movesOut_33 (by decide) rfl ?_
      obtain ⟨bd126, hbd126, hF⟩ := lop6_ex hF
      refine x_loop (I := fun x : Int × Int × Int × (Nat → Nat → Int) × (Nat → Nat → Int) × (Nat → Nat → Nat) => match x with | (z123, z124, z125, V126, J126, R126) => (0 ≤ z123 ∧ z123 ≤ 3) ∧ (-9223372036854775808 ≤ z124 ∧ z124 ≤ 9223372036854775807) ∧ (-1 ≤ z125 ∧ z125 ≤ 7) ∧ XI G V126 ∧ FB (fun i k : Nat => (98 ≤ i ∧ i ≤ 104) ∨ (70 ≤ i ∧ i ≤ 70) ∨ (69 ≤ i ∧ i ≤ 71)) V V126 ∧ VJ J126 ∧ XR R126 ∧ RK R126 Rr ∧ (∃ nf : Nat, (4 - z123).toNat < nf ∧ Imp (lop6 nf bd126 z123 z124 z125 V126 J126 R126) (f_s_movesOut x1 x2 x3 x4 V J Rr))) (μ := fun x : Int × Int × Int × (Nat → Nat → Int) × (Nat → Nat → Int) × (Nat → Nat → Nat) => match x with | (z123, z124, z125, V126, J126, R126) => (4 - z123).toNat) (wsf := fun x : Int × Int × Int × (Nat → Nat → Int) × (Nat → Nat → Int) × (Nat → Nat → Nat) => match x with | (z123, z124, z125, V126, J126, R126) => XW cy ad V126 J126 R126) (lvf := fun x : Int × Int × Int × (Nat → Nat → Int) × (Nat → Nat → Int) × (Nat → Nat → Nat) => match x with | (z123, z124, z125, V126, J126, R126) => [(8, vI z123), (6, vJ z124), (5, vI z125), (0, .ref (ad 0)), (1, vI x1), (2, vI x2), (3, vI x3), (4, vI x4)]) (fun x hI126x ih126 => ?_) (0, (-1), (-1), V, J, Rr) ⟨⟨by decide, by decide⟩, ⟨by decide, by decide⟩, ⟨by decide, by decide⟩, hI, hB, hJ, hR, (RK.rf _), ⟨_, (by omega), hF⟩⟩ rfl rfl
      obtain ⟨z123, z124, z125, V126, J126, R126⟩ := x
      obtain ⟨bz123, bz124, bz125, hI126, hB126, hJ126, hR126, hE126, nf126, hn126, hF⟩ := hI126x
      try dsimp only
      obtain ⟨nf126, rfl⟩ : ∃ mm, nf126 = mm + 1 := ⟨nf126 - 1, (Nat.succ_pred_eq_of_pos (Nat.lt_of_le_of_lt (Nat.zero_le _) hn126)).symm⟩
      replace hF := hF.to (lop6_s hbd126)
      refine x_iload C.1 dX11_movesOut_35 0 rfl ?_
      refine x_iload_n C.1 dX11_movesOut_37 6 rfl ?_
      refine x_icmp_ge C.1 (tgt := 122) dX11_movesOut_38 (by decide) (by omega) (by omega) (fun hc177 => ?_) (fun hc177 => ?_)
      · replace hF := hF.to (if_pos hc177)
        refine x_iload C.1 dX11_movesOut_122 7 rfl ?_
        refine x_if_ne C.1 (tgt := 133) dX11_movesOut_124 (by decide) (by omega) (fun hc178 => ?_) (fun hc178 => ?_)
        · replace hF := hF.to (if_pos hc178)
          refine x_lload C.1 dX11_movesOut_133 1 rfl ?_
          exact x_lret (S := xS) (post := (fun a (u : xS) => XS G u ∧ FB (fun i k : Nat => (98 ≤ i ∧ i ≤ 104) ∨ (70 ≤ i ∧ i ≤ 70) ∨ (69 ≤ i ∧ i ≤ 71)) V u.1 ∧ RK u.2.2 Rr ∧ (f_s_movesOut x1 x2 x3 x4 V J Rr) (a, u))) (w1 := (fun u : xS => XW cy ad u.1 u.2.1 u.2.2)) (a := z124) C hr rfl dX11_movesOut_135 (by omega) (V126, J126, R126) rfl ⟨⟨hI126, hJ126, hR126⟩, hB126, hE126, hF _ rfl⟩
        · replace hF := hF.to (if_neg (fun hh => hh hc178))
          refine x_iload C.1 dX11_movesOut_127 2 rfl ?_
          refine x_i2l C.1 dX11_movesOut_129 (by omega) ?_
          refine x_goto C.1 (tgt := 135) dX11_movesOut_130 (by decide) ?_
          exact x_lret (S := xS) (post := (fun a (u : xS) => XS G u ∧ FB (fun i k : Nat => (98 ≤ i ∧ i ≤ 104) ∨ (70 ≤ i ∧ i ≤ 70) ∨ (69 ≤ i ∧ i ≤ 71)) V u.1 ∧ RK u.2.2 Rr ∧ (f_s_movesOut x1 x2 x3 x4 V J Rr) (a, u))) (w1 := (fun u : xS => XW cy ad u.1 u.2.1 u.2.2)) (a := z125) C hr rfl dX11_movesOut_135 (by omega) (V126, J126, R126) rfl ⟨⟨hI126, hJ126, hR126⟩, hB126, hE126, hF _ rfl⟩
      · replace hF := hF.to (if_neg hc177)
        refine x_aload_n C.1 dX11_movesOut_41 3 rfl ?_
        refine x_getA C (N := 129) (i := 0) (by decide) rfl vc_X11 wx_X11 6 (by decide) wf_X11_41 (a := 98) rfl dX11_movesOut_42 ?_
        refine x_aload_n C.1 dX11_movesOut_45 3 rfl ?_
        refine x_getA C (N := 129) (i := 0) (by decide) rfl vc_X11 wx_X11 0 (by decide) wf_X11_10 (a := 1) rfl dX11_movesOut_46 ?_
        refine x_iload_n C.1 dX11_movesOut_49 4 rfl ?_
        refine x_iload_n C.1 dX11_movesOut_50 6 rfl ?_
        refine x_callVv C (As := [.ref (ad 1), vI x1, vI x3]) (rest := []) 98 (xw_at (N := 129) (i := 98) (by decide) rfl) vc_X2 (s_take l D cy ad G V126 J126 R126 hI126 hJ126 hR126 1 (Or.inl rfl) x1 ⟨by omega, by omega⟩ x3 ⟨by omega, by omega⟩) (l1 := []) (l2 := []) (List.append_nil _).symm (w2 := fun u : Nat → Nat → Int => XW cy ad u J126 R126) (fun _ => List.append_nil _) rfl wm_yX2_take wn_X2 wl_X11_215 wi_yX2_take we_yX2_take hd_yX2_take rfl ⟨Nat.le_of_ble_eq_true rfl, Nat.le_of_ble_eq_true rfl⟩ (Nat.le_of_ble_eq_true rfl) ⟨Nat.le_of_ble_eq_true rfl, Nat.le_of_ble_eq_true rfl⟩ dX11_movesOut_51 (fun V179 h179 => ?_)
        obtain ⟨hI179, hBc179, hFc179⟩ := h179
        replace hF := calUX_i hF hFc179 hBc179
        have hB179 := hB126.tr hBc179 (fun i k h => (Or.inl h))
        refine x_aload_n C.1 dX11_movesOut_54 3 rfl ?_
        refine x_getA C (N := 129) (i := 0) (by decide) rfl vc_X11 wx_X11 6 (by decide) wf_X11_41 (a := 98) rfl dX11_movesOut_55 ?_
        refine x_getA C (N := 129) (i := 98) (by decide) rfl vc_X2 wx_X2 7 (by decide) wf_X11_219 (a := 104) rfl dX11_movesOut_58 ?_
        refine x_iload C.1 dX11_movesOut_61 0 rfl ?_
        refine x_iconst C.1 (n := 0) dX11_movesOut_63 ?_
        refine x_iast C (N := 129) (i := 104) (q := z123) (a := 0) (by decide) rfl (by omega) (by decide) dX11_movesOut_64 ?_
        refine x_gV ?_
        intro V180 hV180
        have hI180 : XI G V180 := hI179.up hV180 rfl (by decide) rfl
        have hB180 := hB179.up hV180 (Or.inl (⟨by decide, by decide⟩))
        replace hF := hF.to (rdb_e (z := V180) hV180.symm)
        refine x_aload_n C.1 dX11_movesOut_65 3 rfl ?_
        refine x_getA C (N := 129) (i := 0) (by decide) rfl vc_X11 wx_X11 6 (by decide) wf_X11_41 (a := 98) rfl dX11_movesOut_66 ?_
        refine x_aload_n C.1 dX11_movesOut_69 3 rfl ?_
        refine x_getA C (N := 129) (i := 0) (by decide) rfl vc_X11 wx_X11 0 (by decide) wf_X11_10 (a := 1) rfl dX11_movesOut_70 ?_
        refine x_aload_n C.1 dX11_movesOut_73 3 rfl ?_
        refine x_getA C (N := 129) (i := 0) (by decide) rfl vc_X11 wx_X11 5 (by decide) wf_X11_34 (a := 60) rfl dX11_movesOut_74 ?_
        refine x_iload_n C.1 dX11_movesOut_77 5 rfl ?_
        refine x_callVl C (As := [.ref (ad 1), .ref (ad 60), vI x2]) (rest := []) 98 (xw_at (N := 129) (i := 98) (by decide) rfl) vc_X2 (s_lives l D cy ad G V180 J126 R126 hI180 hJ126 hR126 1 (Or.inl rfl) x2 ⟨by omega, by omega⟩) (l1 := []) (l2 := []) (List.append_nil _).symm (w2 := fun u : xS => XW cy ad u.1 u.2.1 u.2.2) (fun _ => List.append_nil _) rfl wm_yX2_lives wn_X2 wl_X11_228 wi_yX2_lives we_yX2_lives hd_yX2_lives rfl ⟨Nat.le_of_ble_eq_true rfl, Nat.le_of_ble_eq_true rfl⟩ (Nat.le_of_ble_eq_true rfl) ⟨Nat.le_of_ble_eq_true rfl, Nat.le_of_ble_eq_true rfl⟩ dX11_movesOut_78 (fun z181 u181 bz181 h181 => ?_)
        obtain ⟨V181, J181, R181⟩ := u181
        obtain ⟨hS181, hBc181, hEc181, hFc181⟩ := h181
        replace hF := calSX_i hF hFc181 hBc181
        have hB181 := hB180.tr hBc181 (fun i k h => (h.elim (fun h => (Or.inl h)) (fun h => (h.elim (fun h => (Or.inr (Or.inl h))) (fun h => (Or.inr (Or.inr (h))))))))
        have hE181 : RK R181 Rr := RK.tr hE126 hEc181
        obtain ⟨hI181, hJ181, hR181⟩ := hS181
        dsimp only at hI181 hJ181 hR181 ⊢
        refine x_lstore C.1 (lv' := [(9, vJ z181), (8, vI z123), (6, vJ z124), (5, vI z125), (0, .ref (ad 0)), (1, vI x1), (2, vI x2), (3, vI x3), (4, vI x4)]) dX11_movesOut_81 (by decide) rfl ?_
        refine x_lload C.1 dX11_movesOut_83 2 rfl ?_
        refine x_ldc2 C.1 (n := -1) wq_X11_201 dX11_movesOut_85 ?_
        refine x_lcmp C.1 rfl dX11_movesOut_88 (by omega) (by decide) ?_
        have bz182 := lcI_r2 z124 (-1)
        obtain ⟨jf189, hjf189, hF⟩ := jn_ex hF
        refine x_join (I := fun x : Int × Int => match x with | (z187, z188) => (-1 ≤ z187 ∧ z187 ≤ 7) ∧ (-9223372036854775808 ≤ z188 ∧ z188 ≤ 9223372036854775807) ∧ Imp (jf189 z187 z188) (f_s_movesOut x1 x2 x3 x4 V J Rr)) (wsf := fun x : Int × Int => match x with | (z187, z188) => XW cy ad V181 J181 R181) (lvf := fun x : Int × Int => match x with | (z187, z188) => [(5, vI z187), (6, vJ z188), (9, vJ z181), (8, vI z123), (0, .ref (ad 0)), (1, vI x1), (2, vI x2), (3, vI x3), (4, vI x4)]) (stf := fun x : Int × Int => match x with | (z187, z188) => []) 116 (fun x hI189x => ?_) (fun jn189 => ?_)
        · obtain ⟨z187, z188⟩ := x
          obtain ⟨bz187, bz188, hF⟩ := hI189x
          try dsimp only
          replace hF := hF.to (jn_s2 hjf189)
          refine x_iinc C.1 (v := z123 + 1) (lv' := [(8, vI (z123 + 1)), (5, vI z187), (6, vJ z188), (9, vJ z181), (0, .ref (ad 0)), (1, vI x1), (2, vI x2), (3, vI x3), (4, vI x4)]) (by omega) dX11_movesOut_116 3 rfl (by decide) rfl ?_
          refine x_goto C.1 (tgt := 35) dX11_movesOut_119 (by decide) ?_
          refine x_lv [(8, vI (z123 + 1)), (6, vJ z188), (5, vI z187), (0, .ref (ad 0)), (1, vI x1), (2, vI x2), (3, vI x3), (4, vI x4)] [0, 2, 1, 4, 5, 6, 7, 8] rfl ?_
          have hmu126 : (4 - (z123 + 1)).toNat < (4 - z123).toNat := (by omega)
          exact ih126 (z123 + 1, z188, z187, V181, J181, R181) ⟨⟨by omega, by omega⟩, ⟨by omega, by omega⟩, ⟨by omega, by omega⟩, hI181, hB181, hJ181, hR181, hE181, ⟨nf126, Nat.lt_of_lt_of_le hmu126 (Nat.le_of_lt_succ hn126), hF⟩⟩ hmu126
        · refine x_if_eq C.1 (tgt := 100) dX11_movesOut_89 (by decide) (by omega) (fun hc190 => ?_) (fun hc190 => ?_)
          · replace hF := hF.to (if_pos hc190)
            rw [lcI_eq] at hc190
            refine x_lload C.1 dX11_movesOut_100 0 rfl ?_
            refine x_lstore C.1 (lv' := [(6, vJ z181), (9, vJ z181), (8, vI z123), (5, vI z125), (0, .ref (ad 0)), (1, vI x1), (2, vI x2), (3, vI x3), (4, vI x4)]) dX11_movesOut_102 (by decide) rfl ?_
            refine x_aload_n C.1 dX11_movesOut_104 4 rfl ?_
            refine x_getA C (N := 129) (i := 0) (by decide) rfl vc_X11 wx_X11 6 (by decide) wf_X11_41 (a := 98) rfl dX11_movesOut_105 ?_
            refine x_getA C (N := 129) (i := 98) (by decide) rfl vc_X2 wx_X2 6 (by decide) wf_X11_235 (a := 103) rfl dX11_movesOut_108 ?_
            refine x_iload C.1 dX11_movesOut_111 2 rfl ?_
            obtain ⟨z191, ez191, bz191⟩ := hI181.rd 103 z123.toNat (x := 0) (y := 7) rfl
            replace hF := hF.to (rdb_e (z := z191) ez191)
            replace hF := hF.fc bz191
            refine x_iald C (N := 129) (i := 103) (q := z123) (by decide) rfl (by omega) (by decide) dX11_movesOut_113 (a := z191) ez191 ?_
            refine x_istore C.1 (lv' := [(5, vI z191), (6, vJ z181), (9, vJ z181), (8, vI z123), (0, .ref (ad 0)), (1, vI x1), (2, vI x2), (3, vI x3), (4, vI x4)]) dX11_movesOut_114 (by decide) rfl ?_
            exact jn189 (z191, z181) ⟨⟨by omega, by omega⟩, ⟨by omega, by omega⟩, hF⟩
          · replace hF := hF.to (if_neg hc190)
            rw [lcI_eq] at hc190
            refine x_lload C.1 dX11_movesOut_92 0 rfl ?_
            refine x_lload C.1 dX11_movesOut_94 2 rfl ?_
            refine x_lcmp C.1 rfl dX11_movesOut_96 (by omega) (by omega) ?_
            have bz192 := lcI_r2 z181 z124
            refine x_if_ge C.1 (tgt := 116) dX11_movesOut_97 (by decide) (by omega) (fun hc193 => ?_) (fun hc193 => ?_)
            · replace hF := hF.to (if_pos hc193)
              rw [lcI_ge] at hc193
              refine x_lv [(5, vI z125), (6, vJ z124), (9, vJ z181), (8, vI z123), (0, .ref (ad 0)), (1, vI x1), (2, vI x2), (3, vI x3), (4, vI x4)] [3, 2, 0, 1, 4, 5, 6, 7, 8] rfl ?_
              exact jn189 (z125, z124) ⟨⟨by omega, by omega⟩, ⟨by omega, by omega⟩, hF⟩
            · replace hF := hF.to (if_neg hc193)
              rw [lcI_ge] at hc193
              refine x_lload C.1 dX11_movesOut_100 0 rfl ?_
              refine x_lstore C.1 (lv' := [(6, vJ z181), (9, vJ z181), (8, vI z123), (5, vI z125), (0, .ref (ad 0)), (1, vI x1), (2, vI x2), (3, vI x3), (4, vI x4)]) dX11_movesOut_102 (by decide) rfl ?_
              refine x_aload_n C.1 dX11_movesOut_104 4 rfl ?_
              refine x_getA C (N := 129) (i := 0) (by decide) rfl vc_X11 wx_X11 6 (by decide) wf_X11_41 (a := 98) rfl dX11_movesOut_105 ?_
              refine x_getA C (N := 129) (i := 98) (by decide) rfl vc_X2 wx_X2 6 (by decide) wf_X11_235 (a := 103) rfl dX11_movesOut_108 ?_
              refine x_iload C.1 dX11_movesOut_111 2 rfl ?_
              obtain ⟨z194, ez194, bz194⟩ := hI181.rd 103 z123.toNat (x := 0) (y := 7) rfl
              replace hF := hF.to (rdb_e (z := z194) ez194)
              replace hF := hF.fc bz194
              refine x_iald C (N := 129) (i := 103) (q := z123) (by decide) rfl (by omega) (by decide) dX11_movesOut_113 (a := z194) ez194 ?_
              refine x_istore C.1 (lv' := [(5, vI z194), (6, vJ z181), (9, vJ z181), (8, vI z123), (0, .ref (ad 0)), (1, vI x1), (2, vI x2), (3, vI x3), (4, vI x4)]) dX11_movesOut_114 (by decide) rfl ?_
              exact jn189 (z194, z181) ⟨⟨by omega, by omega⟩, ⟨by omega, by omega⟩, hF⟩
    · replace hF := hF.to (if_neg (fun hh => hh hc5))
      refine x_ldc2 C.1 (n := -1) wq_X11_201 dX11_movesOut_20 ?_
      exact x_lret (S := xS) (post := (fun a (u : xS) => XS G u ∧ FB (fun i k : Nat => (98 ≤ i ∧ i ≤ 104) ∨ (70 ≤ i ∧ i ≤ 70) ∨ (69 ≤ i ∧ i ≤ 71)) V u.1 ∧ RK u.2.2 Rr ∧ (f_s_movesOut x1 x2 x3 x4 V J Rr) (a, u))) (w1 := (fun u : xS => XW cy ad u.1 u.2.1 u.2.2)) (a := (-1)) C hr rfl dX11_movesOut_23 (by decide) (V, J, Rr) rfl ⟨⟨hI, hJ, hR⟩, hB, (RK.rf _), hF _ rfl⟩
theorem hd_yX11_fillLasting : yX11_fillLasting.cls ≠ "java/lang/invoke/MethodHandle" ∧ yX11_fillLasting.cls ≠ "java/lang/invoke/VarHandle" ∧ (parseMethodDescriptor yX11_fillLasting.desc).map (fun d => d.parameters.length) = some 1 := by decide +kernel
theorem hd_yX11_spreadBest : yX11_spreadBest.cls ≠ "java/lang/invoke/MethodHandle" ∧ yX11_spreadBest.cls ≠ "java/lang/invoke/VarHandle" ∧ (parseMethodDescriptor yX11_spreadBest.desc).map (fun d => d.parameters.length) = some 1 := by decide +kernel
theorem hd_yX3_toldPlants : yX3_toldPlants.cls ≠ "java/lang/invoke/MethodHandle" ∧ yX3_toldPlants.cls ≠ "java/lang/invoke/VarHandle" ∧ (parseMethodDescriptor yX3_toldPlants.desc).map (fun d => d.parameters.length) = some 0 := by decide +kernel
theorem dX11_spread_0 : decode cX11_spread 0 = .ok (.iload_n 1, 1) := by decide +kernel
theorem dX11_spread_1 : decode cX11_spread 1 = .ok (.iconst 0, 1) := by decide +kernel
theorem dX11_spread_2 : decode cX11_spread 2 = .ok (.bipush 24, 2) := by decide +kernel
theorem dX11_spread_4 : decode cX11_spread 4 = .ok (.invokestatic 74, 3) := by decide +kernel
theorem dX11_spread_7 : decode cX11_spread 7 = .ok (.ifCond .eq 17, 3) := by decide +kernel
theorem dX11_spread_10 : decode cX11_spread 10 = .ok (.iload_n 2, 1) := by decide +kernel
theorem dX11_spread_11 : decode cX11_spread 11 = .ok (.iconst 4, 1) := by decide +kernel
theorem dX11_spread_12 : decode cX11_spread 12 = .ok (.invokestatic 70, 3) := by decide +kernel
theorem dX11_spread_15 : decode cX11_spread 15 = .ok (.ifCond .ne 11, 3) := by decide +kernel
theorem dX11_spread_18 : decode cX11_spread 18 = .ok (.iload_n 2, 1) := by decide +kernel
theorem dX11_spread_19 : decode cX11_spread 19 = .ok (.bipush 10, 2) := by decide +kernel
theorem dX11_spread_21 : decode cX11_spread 21 = .ok (.if_icmp .eq 5, 3) := by decide +kernel
theorem dX11_spread_24 : decode cX11_spread 24 = .ok (.iconst (-1), 1) := by decide +kernel
theorem dX11_spread_25 : decode cX11_spread 25 = .ok (.ireturn, 1) := by decide +kernel
theorem dX11_spread_26 : decode cX11_spread 26 = .ok (.aload_n 0, 1) := by decide +kernel
theorem dX11_spread_27 : decode cX11_spread 27 = .ok (.getfield 10, 3) := by decide +kernel
theorem dX11_spread_30 : decode cX11_spread 30 = .ok (.invokevirtual 267, 3) := by decide +kernel
theorem dX11_spread_33 : decode cX11_spread 33 = .ok (.aload_n 0, 1) := by decide +kernel
theorem dX11_spread_34 : decode cX11_spread 34 = .ok (.getfield 10, 3) := by decide +kernel
theorem dX11_spread_37 : decode cX11_spread 37 = .ok (.invokevirtual 156, 3) := by decide +kernel
theorem dX11_spread_40 : decode cX11_spread 40 = .ok (.if_icmp .ne 6, 3) := by decide +kernel
theorem dX11_spread_43 : decode cX11_spread 43 = .ok (.bipush (-2), 2) := by decide +kernel
theorem dX11_spread_45 : decode cX11_spread 45 = .ok (.ireturn, 1) := by decide +kernel
theorem dX11_spread_46 : decode cX11_spread 46 = .ok (.aload_n 0, 1) := by decide +kernel
theorem dX11_spread_47 : decode cX11_spread 47 = .ok (.iload_n 1, 1) := by decide +kernel
theorem dX11_spread_48 : decode cX11_spread 48 = .ok (.invokevirtual 270, 3) := by decide +kernel
theorem dX11_spread_51 : decode cX11_spread 51 = .ok (.aload_n 0, 1) := by decide +kernel
theorem dX11_spread_52 : decode cX11_spread 52 = .ok (.iload_n 1, 1) := by decide +kernel
theorem dX11_spread_53 : decode cX11_spread 53 = .ok (.invokevirtual 273, 3) := by decide +kernel
theorem dX11_spread_56 : decode cX11_spread 56 = .ok (.istore_n 3, 1) := by decide +kernel
theorem dX11_spread_57 : decode cX11_spread 57 = .ok (.iload_n 2, 1) := by decide +kernel
theorem dX11_spread_58 : decode cX11_spread 58 = .ok (.bipush 10, 2) := by decide +kernel
theorem dX11_spread_60 : decode cX11_spread 60 = .ok (.if_icmp .ne 7, 3) := by decide +kernel
theorem dX11_spread_63 : decode cX11_spread 63 = .ok (.iload_n 3, 1) := by decide +kernel
theorem dX11_spread_64 : decode cX11_spread 64 = .ok (.goto 9, 3) := by decide +kernel
theorem dX11_spread_67 : decode cX11_spread 67 = .ok (.aload_n 0, 1) := by decide +kernel
theorem dX11_spread_68 : decode cX11_spread 68 = .ok (.getfield 63, 3) := by decide +kernel
theorem dX11_spread_71 : decode cX11_spread 71 = .ok (.iload_n 2, 1) := by decide +kernel
theorem dX11_spread_72 : decode cX11_spread 72 = .ok (.iaload, 1) := by decide +kernel
theorem dX11_spread_73 : decode cX11_spread 73 = .ok (.ireturn, 1) := by decide +kernel
set_option maxRecDepth 100000 in
def f_s_spread (x1 : Int) (x2 : Int) (V : Nat → Nat → Int) (J : Nat → Nat → Int) (Rr : Nat → Nat → Nat) : (Int × (Nat → Nat → Int)) → Prop :=
  calR (f_s_isWithin x1 0 24) fun z1 => fct (0 ≤ z1 ∧ z1 ≤ 1) <| (if z1 = 0 then rtn ((-1), V) else calR (f_s_isPlace x2 4) fun z4 => fct (0 ≤ z4 ∧ z4 ≤ 1) <| (if ¬ z4 = 0 then calR (f_s_toldPlants 1 V J Rr) fun z7 => calR (f_s_deadBits 1 V J Rr) fun z8 => (if ¬ z7 = z8 then calUX (fun i k : Nat => (39 ≤ i ∧ i ≤ 57) ∨ (69 ≤ i ∧ i ≤ 71) ∨ (126 ≤ i ∧ i ≤ 126)) V (f_s_fillLasting x1 V J Rr) fun V10 => calVX (fun i k : Nat => (127 ≤ i ∧ i ≤ 127)) V10 (f_s_spreadBest x1 V10 J Rr) fun z11 V11 => rdb (V11 127 x2.toNat) fun z12 => rtn (z12, V11) else rtn ((-2), V)) else (if x2 = 10 then calR (f_s_toldPlants 1 V J Rr) fun z14 => calR (f_s_deadBits 1 V J Rr) fun z15 => (if ¬ z14 = z15 then calUX (fun i k : Nat => (39 ≤ i ∧ i ≤ 57) ∨ (69 ≤ i ∧ i ≤ 71) ∨ (126 ≤ i ∧ i ≤ 126)) V (f_s_fillLasting x1 V J Rr) fun V17 => calVX (fun i k : Nat => (127 ≤ i ∧ i ≤ 127)) V17 (f_s_spreadBest x1 V17 J Rr) fun z18 V18 => rtn (z18, V18) else rtn ((-2), V)) else rtn ((-1), V))))
set_option maxHeartbeats 8000000 in
set_option maxRecDepth 100000 in
theorem s_spread (l : Launch) (D : va_G) (cy : Nat → ClassId) (ad : Nat → Nat) (G : Nat → Nat → Int) (V J : Nat → Nat → Int) (Rr : Nat → Nat → Nat) (hI : XI G V) (hJ : VJ J) (hR : XR Rr) (x1 : Int) (bx1 : -2147483648 ≤ x1 ∧ x1 ≤ 2147483647) (x2 : Int) (bx2 : -2147483648 ≤ x2 ∧ x2 ≤ 2147483647) : xMi l D (xTY cy) yX11_spread cX11_spread 4 (some .int) 7 170 0 0 [.ref (ad 0), vI x1, vI x2] (XW cy ad V J Rr) (fun u : Nat → Nat → Int => XW cy ad u J Rr) (fun a (u : Nat → Nat → Int) => XI G u ∧ FB (fun i k : Nat => (39 ≤ i ∧ i ≤ 57) ∨ (69 ≤ i ∧ i ≤ 71) ∨ (126 ≤ i ∧ i ≤ 126) ∨ (127 ≤ i ∧ i ≤ 127)) V u ∧ (f_s_spread x1 x2 V J Rr) (a, u)) := by
  refine xMi.mk (lv0 := [(0, .ref (ad 0)), (1, vI x1), (2, vI x2)]) (by decide) rfl (Nat.le_of_ble_eq_true rfl) (fun p e s m below meth c A C hr hnm hAe => ?_)
  have C : xC2 p s m _ meth c D A s.heap 4 cX11_spread RX11 (xTY cy) := C
  have hB : FB (fun i k : Nat => (39 ≤ i ∧ i ≤ 57) ∨ (69 ≤ i ∧ i ≤ 71) ∨ (126 ≤ i ∧ i ≤ 126) ∨ (127 ≤ i ∧ i ≤ 127)) V V := FB.rf _ _
  have hF := Imp.of_eq (f_s_spread.eq_def x1 x2 V J Rr)
  refine x_iload_n C.1 dX11_spread_0 1 rfl ?_
  refine x_iconst C.1 (n := 0) dX11_spread_1 ?_
  refine x_bipush C.1 (n := 24) dX11_spread_2 ?_
  refine x_callSi C (As := [vI x1, vI 0, vI 24]) (rest := []) (s_isWithin l D cy x1 ⟨by omega, by omega⟩ 0 ⟨by decide, by decide⟩ 24 ⟨by decide, by decide⟩) (l1 := []) (l2 := _) rfl (w2 := fun _ => _) (fun _ => rfl) rfl wm_yX11_isWithin wn_X11 wl_X11_74 wi_yX11_isWithin hd_yX11_isWithin rfl ⟨Nat.le_of_ble_eq_true rfl, Nat.le_of_ble_eq_true rfl⟩ (Nat.le_of_ble_eq_true rfl) ⟨Nat.le_of_ble_eq_true rfl, Nat.le_of_ble_eq_true rfl⟩ dX11_spread_4 (fun z1 u1 bz1 h1 => ?_)
  obtain ⟨bq1, hx1_0, hFc1⟩ := h1
  replace hF := calR_i hF hFc1
  replace hF := hF.fc bq1
  refine x_if_eq C.1 (tgt := 24) dX11_spread_7 (by decide) (by omega) (fun hc2 => ?_) (fun hc2 => ?_)
  · replace hF := hF.to (if_pos hc2)
    refine x_iconst C.1 (n := -1) dX11_spread_24 ?_
    exact x_iret (S := (Nat → Nat → Int)) (post := (fun a (u : Nat → Nat → Int) => XI G u ∧ FB (fun i k : Nat => (39 ≤ i ∧ i ≤ 57) ∨ (69 ≤ i ∧ i ≤ 71) ∨ (126 ≤ i ∧ i ≤ 126) ∨ (127 ≤ i ∧ i ≤ 127)) V u ∧ (f_s_spread x1 x2 V J Rr) (a, u))) (w1 := (fun u : Nat → Nat → Int => XW cy ad u J Rr)) (a := (-1)) C hr rfl dX11_spread_25 (by decide) V rfl ⟨hI, hB, hF _ rfl⟩
  · replace hF := hF.to (if_neg hc2)
    have hon3 := Sq.on hx1_0 (by omega)
    refine x_iload_n C.1 dX11_spread_10 2 rfl ?_
    refine x_iconst C.1 (n := 4) dX11_spread_11 ?_
    refine x_callSi C (As := [vI x2, vI 4]) (rest := []) (s_isPlace l D cy x2 ⟨by omega, by omega⟩ 4 ⟨by decide, by decide⟩) (l1 := []) (l2 := _) rfl (w2 := fun _ => _) (fun _ => rfl) rfl wm_yX11_isPlace wn_X11 wl_X11_70 wi_yX11_isPlace hd_yX11_isPlace rfl ⟨Nat.le_of_ble_eq_true rfl, Nat.le_of_ble_eq_true rfl⟩ (Nat.le_of_ble_eq_true rfl) ⟨Nat.le_of_ble_eq_true rfl, Nat.le_of_ble_eq_true rfl⟩ dX11_spread_12 (fun z4 u4 bz4 h4 => ?_)
    obtain ⟨bq4, hx4_0, hFc4⟩ := h4
    replace hF := calR_i hF hFc4
    replace hF := hF.fc bq4
    refine x_if_ne C.1 (tgt := 26) dX11_spread_15 (by decide) (by omega) (fun hc5 => ?_) (fun hc5 => ?_)
    · replace hF := hF.to (if_pos hc5)
      have hon6 := Sq.on hx4_0 (by omega)
      refine x_aload_n C.1 dX11_spread_26 0 rfl ?_
      refine x_getA C (N := 129) (i := 0) (by decide) rfl vc_X11 wx_X11 0 (by decide) wf_X11_10 (a := 1) rfl dX11_spread_27 ?_
      refine x_callVi C (As := []) (rest := []) 1 (xw_at (N := 129) (i := 1) (by omega) (xd_L (Or.inl rfl))) vc_X3 (s_toldPlants l D cy ad G V J Rr hI hJ hR 1 (Or.inl rfl)) (l1 := []) (l2 := []) (List.append_nil _).symm (w2 := fun _ => XW cy ad V J Rr) (fun _ => List.append_nil _) rfl wm_yX3_toldPlants wn_X3 wl_X11_267 wi_yX3_toldPlants we_yX3_toldPlants hd_yX3_toldPlants rfl ⟨Nat.le_of_ble_eq_true rfl, Nat.le_of_ble_eq_true rfl⟩ (Nat.le_of_ble_eq_true rfl) ⟨Nat.le_of_ble_eq_true rfl, Nat.le_of_ble_eq_true rfl⟩ dX11_spread_30 (fun z7 u7 bz7 h7 => ?_)
      have hFc7 := h7
      replace hF := calR_i hF hFc7
      refine x_aload_n C.1 dX11_spread_33 0 rfl ?_
      refine x_getA C (N := 129) (i := 0) (by decide) rfl vc_X11 wx_X11 0 (by decide) wf_X11_10 (a := 1) rfl dX11_spread_34 ?_
      refine x_callVi C (As := []) (rest := [vI z7]) 1 (xw_at (N := 129) (i := 1) (by omega) (xd_L (Or.inl rfl))) vc_X3 (s_deadBits l D cy ad G V J Rr hI hJ hR 1 (Or.inl rfl)) (l1 := []) (l2 := []) (List.append_nil _).symm (w2 := fun _ => XW cy ad V J Rr) (fun _ => List.append_nil _) rfl wm_yX3_deadBits wn_X3 wl_X11_156 wi_yX3_deadBits we_yX3_deadBits hd_yX3_deadBits rfl ⟨Nat.le_of_ble_eq_true rfl, Nat.le_of_ble_eq_true rfl⟩ (Nat.le_of_ble_eq_true rfl) ⟨Nat.le_of_ble_eq_true rfl, Nat.le_of_ble_eq_true rfl⟩ dX11_spread_37 (fun z8 u8 bz8 h8 => ?_)
      have hFc8 := h8
      replace hF := calR_i hF hFc8
      refine x_icmp_ne C.1 (tgt := 46) dX11_spread_40 (by decide) (by omega) (by omega) (fun hc9 => ?_) (fun hc9 => ?_)
      · replace hF := hF.to (if_pos hc9)
        refine x_aload_n C.1 dX11_spread_46 0 rfl ?_
        refine x_iload_n C.1 dX11_spread_47 1 rfl ?_
        refine x_callVv C (As := [vI x1]) (rest := []) 0 (xw_at (N := 129) (i := 0) (by decide) rfl) vc_X11 (s_fillLasting l D cy ad G V J Rr hI hJ hR x1 ⟨by omega, by omega⟩) (l1 := []) (l2 := []) (List.append_nil _).symm (w2 := fun u : Nat → Nat → Int => XW cy ad u J Rr) (fun _ => List.append_nil _) rfl wm_yX11_fillLasting wn_X11 wl_X11_270 wi_yX11_fillLasting we_yX11_fillLasting hd_yX11_fillLasting rfl ⟨Nat.le_of_ble_eq_true rfl, Nat.le_of_ble_eq_true rfl⟩ (Nat.le_of_ble_eq_true rfl) ⟨Nat.le_of_ble_eq_true rfl, Nat.le_of_ble_eq_true rfl⟩ dX11_spread_48 (fun V10 h10 => ?_)
        obtain ⟨hI10, hBc10, hFc10⟩ := h10
        replace hF := calUX_i hF hFc10 hBc10
        have hB10 := hB.tr hBc10 (fun i k h => (h.elim (fun h => (Or.inl h)) (fun h => (h.elim (fun h => (Or.inr (Or.inl h))) (fun h => (Or.inr (Or.inr (Or.inl h))))))))
        refine x_aload_n C.1 dX11_spread_51 0 rfl ?_
        refine x_iload_n C.1 dX11_spread_52 1 rfl ?_
        refine x_callVi C (As := [vI x1]) (rest := []) 0 (xw_at (N := 129) (i := 0) (by decide) rfl) vc_X11 (s_spreadBest l D cy ad G V10 J Rr hI10 hJ hR x1 ⟨by omega, by omega⟩) (l1 := []) (l2 := []) (List.append_nil _).symm (w2 := fun u : Nat → Nat → Int => XW cy ad u J Rr) (fun _ => List.append_nil _) rfl wm_yX11_spreadBest wn_X11 wl_X11_273 wi_yX11_spreadBest we_yX11_spreadBest hd_yX11_spreadBest rfl ⟨Nat.le_of_ble_eq_true rfl, Nat.le_of_ble_eq_true rfl⟩ (Nat.le_of_ble_eq_true rfl) ⟨Nat.le_of_ble_eq_true rfl, Nat.le_of_ble_eq_true rfl⟩ dX11_spread_53 (fun z11 V11 bz11 h11 => ?_)
        obtain ⟨hI11, hBc11, hFc11⟩ := h11
        replace hF := calVX_i hF hFc11 hBc11
        have hB11 := hB10.tr hBc11 (fun i k h => (Or.inr (Or.inr (Or.inr (h)))))
        refine x_istore_n C.1 (lv' := [(3, vI z11), (0, .ref (ad 0)), (1, vI x1), (2, vI x2)]) dX11_spread_56 (by decide) rfl ?_
        refine x_iload_n C.1 dX11_spread_57 3 rfl ?_
        refine x_bipush C.1 (n := 10) dX11_spread_58 ?_
        refine x_icmp_ne_t C.1 (tgt := 67) dX11_spread_60 (by decide) (by omega) (by decide) (by omega) ?_
        refine x_aload_n C.1 dX11_spread_67 1 rfl ?_
        refine x_getA C (N := 129) (i := 0) (by decide) rfl vc_X11 wx_X11 10 (by decide) wf_X11_63 (a := 127) rfl dX11_spread_68 ?_
        refine x_iload_n C.1 dX11_spread_71 3 rfl ?_
        obtain ⟨z12, ez12, bz12⟩ := hI11.rd 127 x2.toNat (x := -2147483648) (y := 2147483647) rfl
        replace hF := hF.to (rdb_e (z := z12) ez12)
        refine x_iald C (N := 129) (i := 127) (q := x2) (by decide) rfl (by omega) (by decide) dX11_spread_72 (a := z12) ez12 ?_
        exact x_iret (S := (Nat → Nat → Int)) (post := (fun a (u : Nat → Nat → Int) => XI G u ∧ FB (fun i k : Nat => (39 ≤ i ∧ i ≤ 57) ∨ (69 ≤ i ∧ i ≤ 71) ∨ (126 ≤ i ∧ i ≤ 126) ∨ (127 ≤ i ∧ i ≤ 127)) V u ∧ (f_s_spread x1 x2 V J Rr) (a, u))) (w1 := (fun u : Nat → Nat → Int => XW cy ad u J Rr)) (a := z12) C hr rfl dX11_spread_73 (by omega) V11 rfl ⟨hI11, hB11, hF _ rfl⟩
      · replace hF := hF.to (if_neg (fun hh => hh hc9))
        refine x_bipush C.1 (n := -2) dX11_spread_43 ?_
        exact x_iret (S := (Nat → Nat → Int)) (post := (fun a (u : Nat → Nat → Int) => XI G u ∧ FB (fun i k : Nat => (39 ≤ i ∧ i ≤ 57) ∨ (69 ≤ i ∧ i ≤ 71) ∨ (126 ≤ i ∧ i ≤ 126) ∨ (127 ≤ i ∧ i ≤ 127)) V u ∧ (f_s_spread x1 x2 V J Rr) (a, u))) (w1 := (fun u : Nat → Nat → Int => XW cy ad u J Rr)) (a := (-2)) C hr rfl dX11_spread_45 (by decide) V rfl ⟨hI, hB, hF _ rfl⟩
    · replace hF := hF.to (if_neg (fun hh => hh hc5))
      refine x_iload_n C.1 dX11_spread_18 2 rfl ?_
      refine x_bipush C.1 (n := 10) dX11_spread_19 ?_
      refine x_icmp_eq C.1 (tgt := 26) dX11_spread_21 (by decide) (by omega) (by decide) (fun hc13 => ?_) (fun hc13 => ?_)
      · replace hF := hF.to (if_pos hc13)
        refine x_aload_n C.1 dX11_spread_26 0 rfl ?_
        refine x_getA C (N := 129) (i := 0) (by decide) rfl vc_X11 wx_X11 0 (by decide) wf_X11_10 (a := 1) rfl dX11_spread_27 ?_
        refine x_callVi C (As := []) (rest := []) 1 (xw_at (N := 129) (i := 1) (by omega) (xd_L (Or.inl rfl))) vc_X3 (s_toldPlants l D cy ad G V J Rr hI hJ hR 1 (Or.inl rfl)) (l1 := []) (l2 := []) (List.append_nil _).symm (w2 := fun _ => XW cy ad V J Rr) (fun _ => List.append_nil _) rfl wm_yX3_toldPlants wn_X3 wl_X11_267 wi_yX3_toldPlants we_yX3_toldPlants hd_yX3_toldPlants rfl ⟨Nat.le_of_ble_eq_true rfl, Nat.le_of_ble_eq_true rfl⟩ (Nat.le_of_ble_eq_true rfl) ⟨Nat.le_of_ble_eq_true rfl, Nat.le_of_ble_eq_true rfl⟩ dX11_spread_30 (fun z14 u14 bz14 h14 => ?_)
        have hFc14 := h14
        replace hF := calR_i hF hFc14
        refine x_aload_n C.1 dX11_spread_33 0 rfl ?_
        refine x_getA C (N := 129) (i := 0) (by decide) rfl vc_X11 wx_X11 0 (by decide) wf_X11_10 (a := 1) rfl dX11_spread_34 ?_
        refine x_callVi C (As := []) (rest := [vI z14]) 1 (xw_at (N := 129) (i := 1) (by omega) (xd_L (Or.inl rfl))) vc_X3 (s_deadBits l D cy ad G V J Rr hI hJ hR 1 (Or.inl rfl)) (l1 := []) (l2 := []) (List.append_nil _).symm (w2 := fun _ => XW cy ad V J Rr) (fun _ => List.append_nil _) rfl wm_yX3_deadBits wn_X3 wl_X11_156 wi_yX3_deadBits we_yX3_deadBits hd_yX3_deadBits rfl ⟨Nat.le_of_ble_eq_true rfl, Nat.le_of_ble_eq_true rfl⟩ (Nat.le_of_ble_eq_true rfl) ⟨Nat.le_of_ble_eq_true rfl, Nat.le_of_ble_eq_true rfl⟩ dX11_spread_37 (fun z15 u15 bz15 h15 => ?_)
        have hFc15 := h15
        replace hF := calR_i hF hFc15
        refine x_icmp_ne C.1 (tgt := 46) dX11_spread_40 (by decide) (by omega) (by omega) (fun hc16 => ?_) (fun hc16 => ?_)
        · replace hF := hF.to (if_pos hc16)
          refine x_aload_n C.1 dX11_spread_46 0 rfl ?_
          refine x_iload_n C.1 dX11_spread_47 1 rfl ?_
          refine x_callVv C (As := [vI x1]) (rest := []) 0 (xw_at (N := 129) (i := 0) (by decide) rfl) vc_X11 (s_fillLasting l D cy ad G V J Rr hI hJ hR x1 ⟨by omega, by omega⟩) (l1 := []) (l2 := []) (List.append_nil _).symm (w2 := fun u : Nat → Nat → Int => XW cy ad u J Rr) (fun _ => List.append_nil _) rfl wm_yX11_fillLasting wn_X11 wl_X11_270 wi_yX11_fillLasting we_yX11_fillLasting hd_yX11_fillLasting rfl ⟨Nat.le_of_ble_eq_true rfl, Nat.le_of_ble_eq_true rfl⟩ (Nat.le_of_ble_eq_true rfl) ⟨Nat.le_of_ble_eq_true rfl, Nat.le_of_ble_eq_true rfl⟩ dX11_spread_48 (fun V17 h17 => ?_)
          obtain ⟨hI17, hBc17, hFc17⟩ := h17
          replace hF := calUX_i hF hFc17 hBc17
          have hB17 := hB.tr hBc17 (fun i k h => (h.elim (fun h => (Or.inl h)) (fun h => (h.elim (fun h => (Or.inr (Or.inl h))) (fun h => (Or.inr (Or.inr (Or.inl h))))))))
          refine x_aload_n C.1 dX11_spread_51 0 rfl ?_
          refine x_iload_n C.1 dX11_spread_52 1 rfl ?_
          refine x_callVi C (As := [vI x1]) (rest := []) 0 (xw_at (N := 129) (i := 0) (by decide) rfl) vc_X11 (s_spreadBest l D cy ad G V17 J Rr hI17 hJ hR x1 ⟨by omega, by omega⟩) (l1 := []) (l2 := []) (List.append_nil _).symm (w2 := fun u : Nat → Nat → Int => XW cy ad u J Rr) (fun _ => List.append_nil _) rfl wm_yX11_spreadBest wn_X11 wl_X11_273 wi_yX11_spreadBest we_yX11_spreadBest hd_yX11_spreadBest rfl ⟨Nat.le_of_ble_eq_true rfl, Nat.le_of_ble_eq_true rfl⟩ (Nat.le_of_ble_eq_true rfl) ⟨Nat.le_of_ble_eq_true rfl, Nat.le_of_ble_eq_true rfl⟩ dX11_spread_53 (fun z18 V18 bz18 h18 => ?_)
          obtain ⟨hI18, hBc18, hFc18⟩ := h18
          replace hF := calVX_i hF hFc18 hBc18
          have hB18 := hB17.tr hBc18 (fun i k h => (Or.inr (Or.inr (Or.inr (h)))))
          refine x_istore_n C.1 (lv' := [(3, vI z18), (0, .ref (ad 0)), (1, vI x1), (2, vI x2)]) dX11_spread_56 (by decide) rfl ?_
          refine x_iload_n C.1 dX11_spread_57 3 rfl ?_
          refine x_bipush C.1 (n := 10) dX11_spread_58 ?_
          refine x_icmp_ne_f C.1 (tgt := 67) dX11_spread_60 (by decide) (by omega) (by decide) (by omega) ?_
          refine x_iload_n C.1 dX11_spread_63 0 rfl ?_
          refine x_goto C.1 (tgt := 73) dX11_spread_64 (by decide) ?_
          exact x_iret (S := (Nat → Nat → Int)) (post := (fun a (u : Nat → Nat → Int) => XI G u ∧ FB (fun i k : Nat => (39 ≤ i ∧ i ≤ 57) ∨ (69 ≤ i ∧ i ≤ 71) ∨ (126 ≤ i ∧ i ≤ 126) ∨ (127 ≤ i ∧ i ≤ 127)) V u ∧ (f_s_spread x1 x2 V J Rr) (a, u))) (w1 := (fun u : Nat → Nat → Int => XW cy ad u J Rr)) (a := z18) C hr rfl dX11_spread_73 (by omega) V18 rfl ⟨hI18, hB18, hF _ rfl⟩
        · replace hF := hF.to (if_neg (fun hh => hh hc16))
          refine x_bipush C.1 (n := -2) dX11_spread_43 ?_
          exact x_iret (S := (Nat → Nat → Int)) (post := (fun a (u : Nat → Nat → Int) => XI G u ∧ FB (fun i k : Nat => (39 ≤ i ∧ i ≤ 57) ∨ (69 ≤ i ∧ i ≤ 71) ∨ (126 ≤ i ∧ i ≤ 126) ∨ (127 ≤ i ∧ i ≤ 127)) V u ∧ (f_s_spread x1 x2 V J Rr) (a, u))) (w1 := (fun u : Nat → Nat → Int => XW cy ad u J Rr)) (a := (-2)) C hr rfl dX11_spread_45 (by decide) V rfl ⟨hI, hB, hF _ rfl⟩
      · replace hF := hF.to (if_neg hc13)
        refine x_iconst C.1 (n := -1) dX11_spread_24 ?_
        exact x_iret (S := (Nat → Nat → Int)) (post := (fun a (u : Nat → Nat → Int) => XI G u ∧ FB (fun i k : Nat => (39 ≤ i ∧ i ≤ 57) ∨ (69 ≤ i ∧ i ≤ 71) ∨ (126 ≤ i ∧ i ≤ 126) ∨ (127 ≤ i ∧ i ≤ 127)) V u ∧ (f_s_spread x1 x2 V J Rr) (a, u))) (w1 := (fun u : Nat → Nat → Int => XW cy ad u J Rr)) (a := (-1)) C hr rfl dX11_spread_25 (by decide) V rfl ⟨hI, hB, hF _ rfl⟩
theorem hd_yX11_fillOdds : yX11_fillOdds.cls ≠ "java/lang/invoke/MethodHandle" ∧ yX11_fillOdds.cls ≠ "java/lang/invoke/VarHandle" ∧ (parseMethodDescriptor yX11_fillOdds.desc).map (fun d => d.parameters.length) = some 1 := by decide +kernel
theorem hd_yX11_part : yX11_part.cls ≠ "java/lang/invoke/MethodHandle" ∧ yX11_part.cls ≠ "java/lang/invoke/VarHandle" ∧ (parseMethodDescriptor yX11_part.desc).map (fun d => d.parameters.length) = some 3 := by decide +kernel
theorem dX11_comes_0 : decode cX11_comes 0 = .ok (.iload_n 1, 1) := by decide +kernel
theorem dX11_comes_1 : decode cX11_comes 1 = .ok (.iconst 1, 1) := by decide +kernel
theorem dX11_comes_2 : decode cX11_comes 2 = .ok (.bipush 12, 2) := by decide +kernel
theorem dX11_comes_4 : decode cX11_comes 4 = .ok (.invokestatic 74, 3) := by decide +kernel
theorem dX11_comes_7 : decode cX11_comes 7 = .ok (.ifCond .eq 22, 3) := by decide +kernel
theorem dX11_comes_10 : decode cX11_comes 10 = .ok (.iload_n 2, 1) := by decide +kernel
theorem dX11_comes_11 : decode cX11_comes 11 = .ok (.iconst 0, 1) := by decide +kernel
theorem dX11_comes_12 : decode cX11_comes 12 = .ok (.bipush 12, 2) := by decide +kernel
theorem dX11_comes_14 : decode cX11_comes 14 = .ok (.invokestatic 74, 3) := by decide +kernel
theorem dX11_comes_17 : decode cX11_comes 17 = .ok (.ifCond .eq 12, 3) := by decide +kernel
theorem dX11_comes_20 : decode cX11_comes 20 = .ok (.iload_n 3, 1) := by decide +kernel
theorem dX11_comes_21 : decode cX11_comes 21 = .ok (.iconst 0, 1) := by decide +kernel
theorem dX11_comes_22 : decode cX11_comes 22 = .ok (.iconst 1, 1) := by decide +kernel
theorem dX11_comes_23 : decode cX11_comes 23 = .ok (.invokestatic 74, 3) := by decide +kernel
theorem dX11_comes_26 : decode cX11_comes 26 = .ok (.ifCond .ne 7, 3) := by decide +kernel
theorem dX11_comes_29 : decode cX11_comes 29 = .ok (.ldc2_w 201, 3) := by decide +kernel
theorem dX11_comes_32 : decode cX11_comes 32 = .ok (.lreturn, 1) := by decide +kernel
theorem dX11_comes_33 : decode cX11_comes 33 = .ok (.iload_n 1, 1) := by decide +kernel
theorem dX11_comes_34 : decode cX11_comes 34 = .ok (.aload_n 0, 1) := by decide +kernel
theorem dX11_comes_35 : decode cX11_comes 35 = .ok (.getfield 25, 3) := by decide +kernel
theorem dX11_comes_38 : decode cX11_comes 38 = .ok (.getfield 120, 3) := by decide +kernel
theorem dX11_comes_41 : decode cX11_comes 41 = .ok (.if_icmp .le 7, 3) := by decide +kernel
theorem dX11_comes_44 : decode cX11_comes 44 = .ok (.ldc2_w 201, 3) := by decide +kernel
theorem dX11_comes_47 : decode cX11_comes 47 = .ok (.lreturn, 1) := by decide +kernel
theorem dX11_comes_48 : decode cX11_comes 48 = .ok (.aload_n 0, 1) := by decide +kernel
theorem dX11_comes_49 : decode cX11_comes 49 = .ok (.iload_n 1, 1) := by decide +kernel
theorem dX11_comes_50 : decode cX11_comes 50 = .ok (.invokevirtual 276, 3) := by decide +kernel
theorem dX11_comes_53 : decode cX11_comes 53 = .ok (.istore 4, 2) := by decide +kernel
theorem dX11_comes_55 : decode cX11_comes 55 = .ok (.aload_n 0, 1) := by decide +kernel
theorem dX11_comes_56 : decode cX11_comes 56 = .ok (.getfield 25, 3) := by decide +kernel
theorem dX11_comes_59 : decode cX11_comes 59 = .ok (.iconst 0, 1) := by decide +kernel
theorem dX11_comes_60 : decode cX11_comes 60 = .ok (.putfield 120, 3) := by decide +kernel
theorem dX11_comes_63 : decode cX11_comes 63 = .ok (.iload 4, 2) := by decide +kernel
theorem dX11_comes_65 : decode cX11_comes 65 = .ok (.ifCond .eq 20, 3) := by decide +kernel
theorem dX11_comes_68 : decode cX11_comes 68 = .ok (.aload_n 0, 1) := by decide +kernel
theorem dX11_comes_69 : decode cX11_comes 69 = .ok (.getfield 66, 3) := by decide +kernel
theorem dX11_comes_72 : decode cX11_comes 72 = .ok (.iload_n 2, 1) := by decide +kernel
theorem dX11_comes_73 : decode cX11_comes 73 = .ok (.laload, 1) := by decide +kernel
theorem dX11_comes_74 : decode cX11_comes 74 = .ok (.iload_n 1, 1) := by decide +kernel
theorem dX11_comes_75 : decode cX11_comes 75 = .ok (.invokestatic 279, 3) := by decide +kernel
theorem dX11_comes_78 : decode cX11_comes 78 = .ok (.iload_n 3, 1) := by decide +kernel
theorem dX11_comes_79 : decode cX11_comes 79 = .ok (.invokestatic 282, 3) := by decide +kernel
theorem dX11_comes_82 : decode cX11_comes 82 = .ok (.goto 6, 3) := by decide +kernel
theorem dX11_comes_85 : decode cX11_comes 85 = .ok (.ldc2_w 286, 3) := by decide +kernel
theorem dX11_comes_88 : decode cX11_comes 88 = .ok (.lreturn, 1) := by decide +kernel
set_option maxRecDepth 100000 in
def f_s_comes (x1 : Int) (x2 : Int) (x3 : Int) (V : Nat → Nat → Int) (J : Nat → Nat → Int) (Rr : Nat → Nat → Nat) : (Int × xS) → Prop :=
  calR (f_s_isWithin x1 1 12) fun z1 => fct (0 ≤ z1 ∧ z1 ≤ 1) <| (if z1 = 0 then rtn ((-1), (V, J, Rr)) else calR (f_s_isWithin x2 0 12) fun z4 => fct (0 ≤ z4 ∧ z4 ≤ 1) <| (if z4 = 0 then rtn ((-1), (V, J, Rr)) else calR (f_s_isWithin x3 0 1) fun z7 => fct (0 ≤ z7 ∧ z7 ≤ 1) <| (if ¬ z7 = 0 then rdb (V 58 1) fun z10 => fct (0 ≤ z10 ∧ z10 ≤ 220) <| (if x1 ≤ z10 then calSX (fun _ _ => False) V (f_s_fillOdds x1 V J Rr) fun z12 V12 J12 R12 => fct (0 ≤ z12 ∧ z12 ≤ 1) <| rdb (up2 V12 58 1 0) fun V13 => (if z12 = 0 then rtn ((-2), (V13, J12, R12)) else rdb (J12 128 x2.toNat) fun z15 => calR (f_s_power x1) fun z16 => calR (f_s_part z15 z16 x3) fun z17 => rtn (z17, (V13, J12, R12))) else rtn ((-1), (V, J, Rr))) else rtn ((-1), (V, J, Rr)))))
set_option maxHeartbeats 8000000 in
set_option maxRecDepth 100000 in
theorem s_comes (l : Launch) (D : va_G) (cy : Nat → ClassId) (ad : Nat → Nat) (G : Nat → Nat → Int) (V J : Nat → Nat → Int) (Rr : Nat → Nat → Nat) (hI : XI G V) (hJ : VJ J) (hR : XR Rr) (x1 : Int) (bx1 : -2147483648 ≤ x1 ∧ x1 ≤ 2147483647) (x2 : Int) (bx2 : -2147483648 ≤ x2 ∧ x2 ≤ 2147483647) (x3 : Int) (bx3 : -2147483648 ≤ x3 ∧ x3 ≤ 2147483647) : xMl l D (xTY cy) yX11_comes cX11_comes 5 (some .long) 2 50 0 0 [.ref (ad 0), vI x1, vI x2, vI x3] (XW cy ad V J Rr) (fun u : xS => XW cy ad u.1 u.2.1 u.2.2) (fun a (u : xS) => XS G u ∧ FB (fun i k : Nat => (58 ≤ i ∧ i ≤ 59)) V u.1 ∧ RK u.2.2 Rr ∧ (f_s_comes x1 x2 x3 V J Rr) (a, u)) := by
  refine xMl.mk (lv0 := [(0, .ref (ad 0)), (1, vI x1), (2, vI x2), (3, vI x3)]) (by decide) rfl (Nat.le_of_ble_eq_true rfl) (fun p e s m below meth c A C hr hnm hAe => ?_)
  have C : xC2 p s m _ meth c D A s.heap 5 cX11_comes RX11 (xTY cy) := C
  have hB : FB (fun i k : Nat => (58 ≤ i ∧ i ≤ 59)) V V := FB.rf _ _
  have hF := Imp.of_eq (f_s_comes.eq_def x1 x2 x3 V J Rr)
  refine x_iload_n C.1 dX11_comes_0 1 rfl ?_
  refine x_iconst C.1 (n := 1) dX11_comes_1 ?_
  refine x_bipush C.1 (n := 12) dX11_comes_2 ?_
  refine x_callSi C (As := [vI x1, vI 1, vI 12]) (rest := []) (s_isWithin l D cy x1 ⟨by omega, by omega⟩ 1 ⟨by decide, by decide⟩ 12 ⟨by decide, by decide⟩) (l1 := []) (l2 := _) rfl (w2 := fun _ => _) (fun _ => rfl) rfl wm_yX11_isWithin wn_X11 wl_X11_74 wi_yX11_isWithin hd_yX11_isWithin rfl ⟨Nat.le_of_ble_eq_true rfl, Nat.le_of_ble_eq_true rfl⟩ (Nat.le_of_ble_eq_true rfl) ⟨Nat.le_of_ble_eq_true rfl, Nat.le_of_ble_eq_true rfl⟩ dX11_comes_4 (fun z1 u1 bz1 h1 => ?_)
  obtain ⟨bq1, hx1_0, hFc1⟩ := h1
  replace hF := calR_i hF hFc1
  replace hF := hF.fc bq1
  refine x_if_eq C.1 (tgt := 29) dX11_comes_7 (by decide) (by omega) (fun hc2 => ?_) (fun hc2 => ?_)
  · replace hF := hF.to (if_pos hc2)
    refine x_ldc2 C.1 (n := -1) wq_X11_201 dX11_comes_29 ?_
    exact x_lret (S := xS) (post := (fun a (u : xS) => XS G u ∧ FB (fun i k : Nat => (58 ≤ i ∧ i ≤ 59)) V u.1 ∧ RK u.2.2 Rr ∧ (f_s_comes x1 x2 x3 V J Rr) (a, u))) (w1 := (fun u : xS => XW cy ad u.1 u.2.1 u.2.2)) (a := (-1)) C hr rfl dX11_comes_32 (by decide) (V, J, Rr) rfl ⟨⟨hI, hJ, hR⟩, hB, (RK.rf _), hF _ rfl⟩
  · replace hF := hF.to (if_neg hc2)
    have hon3 := Sq.on hx1_0 (by omega)
    refine x_iload_n C.1 dX11_comes_10 2 rfl ?_
    refine x_iconst C.1 (n := 0) dX11_comes_11 ?_
    refine x_bipush C.1 (n := 12) dX11_comes_12 ?_
    refine x_callSi C (As := [vI x2, vI 0, vI 12]) (rest := []) (s_isWithin l D cy x2 ⟨by omega, by omega⟩ 0 ⟨by decide, by decide⟩ 12 ⟨by decide, by decide⟩) (l1 := []) (l2 := _) rfl (w2 := fun _ => _) (fun _ => rfl) rfl wm_yX11_isWithin wn_X11 wl_X11_74 wi_yX11_isWithin hd_yX11_isWithin rfl ⟨Nat.le_of_ble_eq_true rfl, Nat.le_of_ble_eq_true rfl⟩ (Nat.le_of_ble_eq_true rfl) ⟨Nat.le_of_ble_eq_true rfl, Nat.le_of_ble_eq_true rfl⟩ dX11_comes_14 (fun z4 u4 bz4 h4 => ?_)
    obtain ⟨bq4, hx4_0, hFc4⟩ := h4
    replace hF := calR_i hF hFc4
    replace hF := hF.fc bq4
    refine x_if_eq C.1 (tgt := 29) dX11_comes_17 (by decide) (by omega) (fun hc5 => ?_) (fun hc5 => ?_)
    · replace hF := hF.to (if_pos hc5)
      refine x_ldc2 C.1 (n := -1) wq_X11_201 dX11_comes_29 ?_
      exact x_lret (S := xS) (post := (fun a (u : xS) => XS G u ∧ FB (fun i k : Nat => (58 ≤ i ∧ i ≤ 59)) V u.1 ∧ RK u.2.2 Rr ∧ (f_s_comes x1 x2 x3 V J Rr) (a, u))) (w1 := (fun u : xS => XW cy ad u.1 u.2.1 u.2.2)) (a := (-1)) C hr rfl dX11_comes_32 (by decide) (V, J, Rr) rfl ⟨⟨hI, hJ, hR⟩, hB, (RK.rf _), hF _ rfl⟩
    · replace hF := hF.to (if_neg hc5)
      have hon6 := Sq.on hx4_0 (by omega)
      refine x_iload_n C.1 dX11_comes_20 3 rfl ?_
      refine x_iconst C.1 (n := 0) dX11_comes_21 ?_
      refine x_iconst C.1 (n := 1) dX11_comes_22 ?_
      refine x_callSi C (As := [vI x3, vI 0, vI 1]) (rest := []) (s_isWithin l D cy x3 ⟨by omega, by omega⟩ 0 ⟨by decide, by decide⟩ 1 ⟨by decide, by decide⟩) (l1 := []) (l2 := _) rfl (w2 := fun _ => _) (fun _ => rfl) rfl wm_yX11_isWithin wn_X11 wl_X11_74 wi_yX11_isWithin hd_yX11_isWithin rfl ⟨Nat.le_of_ble_eq_true rfl, Nat.le_of_ble_eq_true rfl⟩ (Nat.le_of_ble_eq_true rfl) ⟨Nat.le_of_ble_eq_true rfl, Nat.le_of_ble_eq_true rfl⟩ dX11_comes_23 (fun z7 u7 bz7 h7 => ?_)
      obtain ⟨bq7, hx7_0, hFc7⟩ := h7
      replace hF := calR_i hF hFc7
      replace hF := hF.fc bq7
      refine x_if_ne C.1 (tgt := 33) dX11_comes_26 (by decide) (by omega) (fun hc8 => ?_) (fun hc8 => ?_)
      · replace hF := hF.to (if_pos hc8)
        have hon9 := Sq.on hx7_0 (by omega)
        refine x_iload_n C.1 dX11_comes_33 1 rfl ?_
        refine x_aload_n C.1 dX11_comes_34 0 rfl ?_
        refine x_getA C (N := 129) (i := 0) (by decide) rfl vc_X11 wx_X11 4 (by decide) wf_X11_25 (a := 58) rfl dX11_comes_35 ?_
        obtain ⟨z10, ez10, bz10⟩ := hI.rd 58 1 (x := 0) (y := 220) rfl
        replace hF := hF.to (rdb_e (z := z10) ez10)
        replace hF := hF.fc bz10
        refine x_getI C (N := 129) (i := 58) (by decide) rfl vc_X8 wx_X8 1 (by decide) wf_X11_120 rfl dX11_comes_38 (a := z10) ez10 ?_
        refine x_icmp_le C.1 (tgt := 48) dX11_comes_41 (by decide) (by omega) (by omega) (fun hc11 => ?_) (fun hc11 => ?_)
        · replace hF := hF.to (if_pos hc11)
          refine x_aload_n C.1 dX11_comes_48 0 rfl ?_
          refine x_iload_n C.1 dX11_comes_49 1 rfl ?_
          refine x_callVi C (As := [vI x1]) (rest := []) 0 (xw_at (N := 129) (i := 0) (by decide) rfl) vc_X11 (s_fillOdds l D cy ad G V J Rr hI hJ hR x1 ⟨by omega, by omega⟩) (l1 := []) (l2 := []) (List.append_nil _).symm (w2 := fun u : xS => XW cy ad u.1 u.2.1 u.2.2) (fun _ => List.append_nil _) rfl wm_yX11_fillOdds wn_X11 wl_X11_276 wi_yX11_fillOdds we_yX11_fillOdds hd_yX11_fillOdds rfl ⟨Nat.le_of_ble_eq_true rfl, Nat.le_of_ble_eq_true rfl⟩ (Nat.le_of_ble_eq_true rfl) ⟨Nat.le_of_ble_eq_true rfl, Nat.le_of_ble_eq_true rfl⟩ dX11_comes_50 (fun z12 u12 bz12 h12 => ?_)
          obtain ⟨V12, J12, R12⟩ := u12
          obtain ⟨hS12, bq12, hBc12, hEc12, hFc12⟩ := h12
          replace hF := calSX_i hF hFc12 hBc12
          replace hF := hF.fc bq12
          have hB12 := hB.tr hBc12 (fun _ _ h => h.elim)
          have hE12 : RK R12 Rr := RK.tr (RK.rf _) hEc12
          obtain ⟨hI12, hJ12, hR12⟩ := hS12
          dsimp only at hI12 hJ12 hR12 ⊢
          refine x_istore C.1 (lv' := [(4, vI z12), (0, .ref (ad 0)), (1, vI x1), (2, vI x2), (3, vI x3)]) dX11_comes_53 (by decide) rfl ?_
          refine x_aload_n C.1 dX11_comes_55 1 rfl ?_
          refine x_getA C (N := 129) (i := 0) (by decide) rfl vc_X11 wx_X11 4 (by decide) wf_X11_25 (a := 58) rfl dX11_comes_56 ?_
          refine x_iconst C.1 (n := 0) dX11_comes_59 ?_
          refine x_putI C (N := 129) (i := 58) (by decide) rfl vc_X8 wx_X8 1 (by decide) wf_X11_120 tyX8 tyX8_ok nmX8 rfl (tyX8_ok 1 (by decide)) rfl dX11_comes_60 rfl rfl ?_
          refine x_gV ?_
          intro V13 hV13
          have hI13 : XI G V13 := hI12.up hV13 rfl (by decide) rfl
          have hB13 := hB12.up hV13 (⟨by decide, by decide⟩)
          replace hF := hF.to (rdb_e (z := V13) hV13.symm)
          refine x_iload C.1 dX11_comes_63 0 rfl ?_
          refine x_if_eq C.1 (tgt := 85) dX11_comes_65 (by decide) (by omega) (fun hc14 => ?_) (fun hc14 => ?_)
          · replace hF := hF.to (if_pos hc14)
            refine x_ldc2 C.1 (n := -2) wq_X11_286 dX11_comes_85 ?_
            exact x_lret (S := xS) (post := (fun a (u : xS) => XS G u ∧ FB (fun i k : Nat => (58 ≤ i ∧ i ≤ 59)) V u.1 ∧ RK u.2.2 Rr ∧ (f_s_comes x1 x2 x3 V J Rr) (a, u))) (w1 := (fun u : xS => XW cy ad u.1 u.2.1 u.2.2)) (a := (-2)) C hr rfl dX11_comes_88 (by decide) (V13, J12, R12) rfl ⟨⟨hI13, hJ12, hR12⟩, hB13, hE12, hF _ rfl⟩
          · replace hF := hF.to (if_neg hc14)
            refine x_aload_n C.1 dX11_comes_68 1 rfl ?_
            refine x_getA C (N := 129) (i := 0) (by decide) rfl vc_X11 wx_X11 11 (by decide) wf_X11_66 (a := 128) rfl dX11_comes_69 ?_
            refine x_iload_n C.1 dX11_comes_72 3 rfl ?_
            obtain ⟨z15, ez15, bz15⟩ := hJ12.rd 128 x2.toNat
            replace hF := hF.to (rdb_e (z := z15) ez15)
            refine x_lald C (N := 129) (i := 128) (q := x2) (by decide) rfl (by omega) (by decide) dX11_comes_73 (a := z15) ez15 ?_
            refine x_iload_n C.1 dX11_comes_74 2 rfl ?_
            refine x_callSl C (As := [vI x1]) (rest := [vJ z15]) (s_power l D cy x1 ⟨by omega, by omega⟩) (l1 := []) (l2 := _) rfl (w2 := fun _ => _) (fun _ => rfl) rfl wm_yX11_power wn_X11 wl_X11_279 wi_yX11_power hd_yX11_power rfl ⟨Nat.le_of_ble_eq_true rfl, Nat.le_of_ble_eq_true rfl⟩ (Nat.le_of_ble_eq_true rfl) ⟨Nat.le_of_ble_eq_true rfl, Nat.le_of_ble_eq_true rfl⟩ dX11_comes_75 (fun z16 u16 bz16 h16 => ?_)
            have hFc16 := h16
            replace hF := calR_i hF hFc16
            refine x_iload_n C.1 dX11_comes_78 4 rfl ?_
            refine x_callSl C (As := [vJ z15, vJ z16, vI x3]) (rest := []) (s_part l D cy z15 ⟨by omega, by omega⟩ z16 ⟨by omega, by omega⟩ x3 ⟨by omega, by omega⟩) (l1 := []) (l2 := _) rfl (w2 := fun _ => _) (fun _ => rfl) rfl wm_yX11_part wn_X11 wl_X11_282 wi_yX11_part hd_yX11_part rfl ⟨Nat.le_of_ble_eq_true rfl, Nat.le_of_ble_eq_true rfl⟩ (Nat.le_of_ble_eq_true rfl) ⟨Nat.le_of_ble_eq_true rfl, Nat.le_of_ble_eq_true rfl⟩ dX11_comes_79 (fun z17 u17 bz17 h17 => ?_)
            have hFc17 := h17
            replace hF := calR_i hF hFc17
            refine x_goto C.1 (tgt := 88) dX11_comes_82 (by decide) ?_
            exact x_lret (S := xS) (post := (fun a (u : xS) => XS G u ∧ FB (fun i k : Nat => (58 ≤ i ∧ i ≤ 59)) V u.1 ∧ RK u.2.2 Rr ∧ (f_s_comes x1 x2 x3 V J Rr) (a, u))) (w1 := (fun u : xS => XW cy ad u.1 u.2.1 u.2.2)) (a := z17) C hr rfl dX11_comes_88 (by omega) (V13, J12, R12) rfl ⟨⟨hI13, hJ12, hR12⟩, hB13, hE12, hF _ rfl⟩
        · replace hF := hF.to (if_neg hc11)
          refine x_ldc2 C.1 (n := -1) wq_X11_201 dX11_comes_44 ?_
          exact x_lret (S := xS) (post := (fun a (u : xS) => XS G u ∧ FB (fun i k : Nat => (58 ≤ i ∧ i ≤ 59)) V u.1 ∧ RK u.2.2 Rr ∧ (f_s_comes x1 x2 x3 V J Rr) (a, u))) (w1 := (fun u : xS => XW cy ad u.1 u.2.1 u.2.2)) (a := (-1)) C hr rfl dX11_comes_47 (by decide) (V, J, Rr) rfl ⟨⟨hI, hJ, hR⟩, hB, (RK.rf _), hF _ rfl⟩
      · replace hF := hF.to (if_neg (fun hh => hh hc8))
        refine x_ldc2 C.1 (n := -1) wq_X11_201 dX11_comes_29 ?_
        exact x_lret (S := xS) (post := (fun a (u : xS) => XS G u ∧ FB (fun i k : Nat => (58 ≤ i ∧ i ≤ 59)) V u.1 ∧ RK u.2.2 Rr ∧ (f_s_comes x1 x2 x3 V J Rr) (a, u))) (w1 := (fun u : xS => XW cy ad u.1 u.2.1 u.2.2)) (a := (-1)) C hr rfl dX11_comes_32 (by decide) (V, J, Rr) rfl ⟨⟨hI, hJ, hR⟩, hB, (RK.rf _), hF _ rfl⟩
theorem hd_yX11_theOne : yX11_theOne.cls ≠ "java/lang/invoke/MethodHandle" ∧ yX11_theOne.cls ≠ "java/lang/invoke/VarHandle" ∧ (parseMethodDescriptor yX11_theOne.desc).map (fun d => d.parameters.length) = some 0 := by decide +kernel
theorem dX11_share_0 : decode cX11_share 0 = .ok (.iload_n 1, 1) := by decide +kernel
theorem dX11_share_1 : decode cX11_share 1 = .ok (.iconst (-1), 1) := by decide +kernel
theorem dX11_share_2 : decode cX11_share 2 = .ok (.if_icmp .ne 12, 3) := by decide +kernel
theorem dX11_share_5 : decode cX11_share 5 = .ok (.iload_n 2, 1) := by decide +kernel
theorem dX11_share_6 : decode cX11_share 6 = .ok (.ifCond .ne 8, 3) := by decide +kernel
theorem dX11_share_9 : decode cX11_share 9 = .ok (.aload_n 0, 1) := by decide +kernel
theorem dX11_share_10 : decode cX11_share 10 = .ok (.invokevirtual 288, 3) := by decide +kernel
theorem dX11_share_13 : decode cX11_share 13 = .ok (.ireturn, 1) := by decide +kernel
theorem dX11_share_14 : decode cX11_share 14 = .ok (.aload_n 0, 1) := by decide +kernel
theorem dX11_share_15 : decode cX11_share 15 = .ok (.getfield 10, 3) := by decide +kernel
theorem dX11_share_18 : decode cX11_share 18 = .ok (.iload_n 1, 1) := by decide +kernel
theorem dX11_share_19 : decode cX11_share 19 = .ok (.invokevirtual 168, 3) := by decide +kernel
theorem dX11_share_22 : decode cX11_share 22 = .ok (.ifCond .eq 12, 3) := by decide +kernel
theorem dX11_share_25 : decode cX11_share 25 = .ok (.iload_n 2, 1) := by decide +kernel
theorem dX11_share_26 : decode cX11_share 26 = .ok (.iconst 0, 1) := by decide +kernel
theorem dX11_share_27 : decode cX11_share 27 = .ok (.iconst 1, 1) := by decide +kernel
theorem dX11_share_28 : decode cX11_share 28 = .ok (.invokestatic 74, 3) := by decide +kernel
theorem dX11_share_31 : decode cX11_share 31 = .ok (.ifCond .ne 5, 3) := by decide +kernel
theorem dX11_share_34 : decode cX11_share 34 = .ok (.iconst (-1), 1) := by decide +kernel
theorem dX11_share_35 : decode cX11_share 35 = .ok (.ireturn, 1) := by decide +kernel
theorem dX11_share_36 : decode cX11_share 36 = .ok (.iconst 0, 1) := by decide +kernel
theorem dX11_share_37 : decode cX11_share 37 = .ok (.istore_n 3, 1) := by decide +kernel
theorem dX11_share_38 : decode cX11_share 38 = .ok (.iconst 0, 1) := by decide +kernel
theorem dX11_share_39 : decode cX11_share 39 = .ok (.istore 4, 2) := by decide +kernel
theorem dX11_share_41 : decode cX11_share 41 = .ok (.iload 4, 2) := by decide +kernel
theorem dX11_share_43 : decode cX11_share 43 = .ok (.bipush 8, 2) := by decide +kernel
theorem dX11_share_45 : decode cX11_share 45 = .ok (.if_icmp .ge 25, 3) := by decide +kernel
theorem dX11_share_48 : decode cX11_share 48 = .ok (.iload_n 3, 1) := by decide +kernel
theorem dX11_share_49 : decode cX11_share 49 = .ok (.aload_n 0, 1) := by decide +kernel
theorem dX11_share_50 : decode cX11_share 50 = .ok (.getfield 10, 3) := by decide +kernel
theorem dX11_share_53 : decode cX11_share 53 = .ok (.getfield 146, 3) := by decide +kernel
theorem dX11_share_56 : decode cX11_share 56 = .ok (.iload 4, 2) := by decide +kernel
theorem dX11_share_58 : decode cX11_share 58 = .ok (.aaload, 1) := by decide +kernel
theorem dX11_share_59 : decode cX11_share 59 = .ok (.getfield 150, 3) := by decide +kernel
theorem dX11_share_62 : decode cX11_share 62 = .ok (.iadd, 1) := by decide +kernel
theorem dX11_share_63 : decode cX11_share 63 = .ok (.istore_n 3, 1) := by decide +kernel
theorem dX11_share_64 : decode cX11_share 64 = .ok (.iinc 4 1, 3) := by decide +kernel
theorem dX11_share_67 : decode cX11_share 67 = .ok (.goto (-26), 3) := by decide +kernel
theorem dX11_share_70 : decode cX11_share 70 = .ok (.aload_n 0, 1) := by decide +kernel
theorem dX11_share_71 : decode cX11_share 71 = .ok (.getfield 10, 3) := by decide +kernel
theorem dX11_share_74 : decode cX11_share 74 = .ok (.getfield 146, 3) := by decide +kernel
theorem dX11_share_77 : decode cX11_share 77 = .ok (.iload_n 1, 1) := by decide +kernel
theorem dX11_share_78 : decode cX11_share 78 = .ok (.aaload, 1) := by decide +kernel
theorem dX11_share_79 : decode cX11_share 79 = .ok (.getfield 150, 3) := by decide +kernel
theorem dX11_share_82 : decode cX11_share 82 = .ok (.i2l, 1) := by decide +kernel
theorem dX11_share_83 : decode cX11_share 83 = .ok (.iload_n 3, 1) := by decide +kernel
theorem dX11_share_84 : decode cX11_share 84 = .ok (.iconst 1, 1) := by decide +kernel
theorem dX11_share_85 : decode cX11_share 85 = .ok (.invokestatic 291, 3) := by decide +kernel
theorem dX11_share_88 : decode cX11_share 88 = .ok (.i2l, 1) := by decide +kernel
theorem dX11_share_89 : decode cX11_share 89 = .ok (.iload_n 2, 1) := by decide +kernel
theorem dX11_share_90 : decode cX11_share 90 = .ok (.invokestatic 282, 3) := by decide +kernel
theorem dX11_share_93 : decode cX11_share 93 = .ok (.l2i, 1) := by decide +kernel
theorem dX11_share_94 : decode cX11_share 94 = .ok (.ireturn, 1) := by decide +kernel
set_option maxRecDepth 100000 in
def f_s_share (x1 : Int) (x2 : Int) (V : Nat → Nat → Int) (J : Nat → Nat → Int) (Rr : Nat → Nat → Nat) : (Int) → Prop :=
  (if ¬ x1 = (-1) then calR (f_s_isPerson 1 x1 V J Rr) fun z2 => fct (0 ≤ z2 ∧ z2 ≤ 1) <| (if z2 = 0 then rtn ((-1)) else calR (f_s_isWithin x2 0 1) fun z5 => fct (0 ≤ z5 ∧ z5 ≤ 1) <| (if ¬ z5 = 0 then lop2 (10) (fun rc55 (z53 : Int) (z54 : Int) => (if 8 ≤ z53 then rdb (1 + 11 + 1 * x1.toNat) fun c72 => rdb (V c72 3) fun z73 => rdb (max z54 1) fun z74 => fct (1 ≤ z74 ∧ z74 ≤ 2147483647) <| calR (f_s_part z73 z74 x2) fun z75 => rdb (iL z75) fun z76 => rtn z76 else rdb (1 + 11 + 1 * z53.toNat) fun c77 => rdb (V c77 3) fun z78 => rdb (wr (z54 + z78)) fun z79 => rc55 (z53 + 1) z79)) 0 0 else rtn ((-1)))) else (if ¬ x2 = 0 then calR (f_s_isPerson 1 x1 V J Rr) fun z81 => fct (0 ≤ z81 ∧ z81 ≤ 1) <| (if z81 = 0 then rtn ((-1)) else calR (f_s_isWithin x2 0 1) fun z84 => fct (0 ≤ z84 ∧ z84 ≤ 1) <| (if ¬ z84 = 0 then lop2 (10) (fun rc134 (z132 : Int) (z133 : Int) => (if 8 ≤ z132 then rdb (1 + 11 + 1 * x1.toNat) fun c151 => rdb (V c151 3) fun z152 => rdb (max z133 1) fun z153 => fct (1 ≤ z153 ∧ z153 ≤ 2147483647) <| calR (f_s_part z152 z153 x2) fun z154 => rdb (iL z154) fun z155 => rtn z155 else rdb (1 + 11 + 1 * z132.toNat) fun c156 => rdb (V c156 3) fun z157 => rdb (wr (z133 + z157)) fun z158 => rc134 (z132 + 1) z158)) 0 0 else rtn ((-1)))) else calR (f_s_theOne V J Rr) fun z159 => rtn z159))
set_option maxHeartbeats 8000000 in
set_option maxRecDepth 100000 in
theorem s_share (l : Launch) (D : va_G) (cy : Nat → ClassId) (ad : Nat → Nat) (G : Nat → Nat → Int) (V J : Nat → Nat → Int) (Rr : Nat → Nat → Nat) (hI : XI G V) (hJ : VJ J) (hR : XR Rr) (x1 : Int) (bx1 : -2147483648 ≤ x1 ∧ x1 ≤ 2147483647) (x2 : Int) (bx2 : -2147483648 ≤ x2 ∧ x2 ≤ 2147483647) : xMi l D (xTY cy) yX11_share cX11_share 5 (some .int) 2 42 0 0 [.ref (ad 0), vI x1, vI x2] (XW cy ad V J Rr) (fun _ : Unit => XW cy ad V J Rr) (fun a (u : Unit) => (f_s_share x1 x2 V J Rr) a) := by
  refine xMi.mk (lv0 := [(0, .ref (ad 0)), (1, vI x1), (2, vI x2)]) (by decide) rfl (Nat.le_of_ble_eq_true rfl) (fun p e s m below meth c A C hr hnm hAe => ?_)
  have C : xC2 p s m _ meth c D A s.heap 5 cX11_share RX11 (xTY cy) := C
  have hF := Imp.of_eq (f_s_share.eq_def x1 x2 V J Rr)
  refine x_iload_n C.1 dX11_share_0 1 rfl ?_
  refine x_iconst C.1 (n := -1) dX11_share_1 ?_
  refine x_icmp_ne C.1 (tgt := 14) dX11_share_2 (by decide) (by omega) (by decide) (fun hc1 => ?_) (fun hc1 => ?_)
  · replace hF := hF.to (if_pos hc1)
    refine x_aload_n C.1 dX11_share_14 0 rfl ?_
    refine x_getA C (N := 129) (i := 0) (by decide) rfl vc_X11 wx_X11 0 (by decide) wf_X11_10 (a := 1) rfl dX11_share_15 ?_
    refine x_iload_n C.1 dX11_share_18 1 rfl ?_
    refine x_callVi C (As := [vI x1]) (rest := []) 1 (xw_at (N := 129) (i := 1) (by omega) (xd_L (Or.inl rfl))) vc_X3 (s_isPerson l D cy ad G V J Rr hI hJ hR 1 (Or.inl rfl) x1 ⟨by omega, by omega⟩) (l1 := []) (l2 := []) (List.append_nil _).symm (w2 := fun _ => XW cy ad V J Rr) (fun _ => List.append_nil _) rfl wm_yX3_isPerson wn_X3 wl_X11_168 wi_yX3_isPerson we_yX3_isPerson hd_yX3_isPerson rfl ⟨Nat.le_of_ble_eq_true rfl, Nat.le_of_ble_eq_true rfl⟩ (Nat.le_of_ble_eq_true rfl) ⟨Nat.le_of_ble_eq_true rfl, Nat.le_of_ble_eq_true rfl⟩ dX11_share_19 (fun z2 u2 bz2 h2 => ?_)
    obtain ⟨hon2, hFc2⟩ := h2
    replace hF := calR_i hF hFc2
    replace hF := hF.fc hon2.r
    have bq2 := Sp.r hon2
    refine x_if_eq C.1 (tgt := 34) dX11_share_22 (by decide) (by omega) (fun hc3 => ?_) (fun hc3 => ?_)
    · replace hF := hF.to (if_pos hc3)
      refine x_iconst C.1 (n := -1) dX11_share_34 ?_
      exact x_iret (S := Unit) (post := (fun a (u : Unit) => (f_s_share x1 x2 V J Rr) a)) (w1 := (fun _ : Unit => XW cy ad V J Rr)) (a := (-1)) C hr rfl dX11_share_35 (by decide) () rfl (hF _ rfl)
    · replace hF := hF.to (if_neg hc3)
      have hon4 := Sp.on hon2 (by omega)
      refine x_iload_n C.1 dX11_share_25 2 rfl ?_
      refine x_iconst C.1 (n := 0) dX11_share_26 ?_
      refine x_iconst C.1 (n := 1) dX11_share_27 ?_
      refine x_callSi C (As := [vI x2, vI 0, vI 1]) (rest := []) (s_isWithin l D cy x2 ⟨by omega, by omega⟩ 0 ⟨by decide, by decide⟩ 1 ⟨by decide, by decide⟩) (l1 := []) (l2 := _) rfl (w2 := fun _ => _) (fun _ => rfl) rfl wm_yX11_isWithin wn_X11 wl_X11_74 wi_yX11_isWithin hd_yX11_isWithin rfl ⟨Nat.le_of_ble_eq_true rfl, Nat.le_of_ble_eq_true rfl⟩ (Nat.le_of_ble_eq_true rfl) ⟨Nat.le_of_ble_eq_true rfl, Nat.le_of_ble_eq_true rfl⟩ dX11_share_28 (fun z5 u5 bz5 h5 => ?_)
      obtain ⟨bq5, hx5_0, hFc5⟩ := h5
      replace hF := calR_i hF hFc5
      replace hF := hF.fc bq5
      refine x_if_ne C.1 (tgt := 36) dX11_share_31 (by decide) (by omega) (fun hc6 => ?_) (fun hc6 => ?_)
      · replace hF := hF.to (if_pos hc6)
        have hon7 := Sq.on hx5_0 (by omega)
        refine x_iconst C.1 (n := 0) dX11_share_36 ?_
        refine x_istore_n C.1 (lv' := [(3, vI 0), (0, .ref (ad 0)), (1, vI x1), (2, vI x2)]) dX11_share_37 (by decide) rfl ?_
        refine x_iconst C.1 (n := 0) dX11_share_38 ?_
        refine x_istore C.1 (lv' := [(4, vI 0), (3, vI 0), (0, .ref (ad 0)), (1, vI x1), (2, vI x2)]) dX11_share_39 (by decide) rfl ?_
        obtain ⟨bd55, hbd55, hF⟩ := lop2_ex hF
        refine x_loop (I := fun x : Int × Int => match x with | (z53, z54) => (0 ≤ z53 ∧ z53 ≤ 8) ∧ (-2147483648 ≤ z54 ∧ z54 ≤ 2147483647) ∧ (∃ nf : Nat, (9 - z53).toNat < nf ∧ Imp (lop2 nf bd55 z53 z54) (f_s_share x1 x2 V J Rr))) (μ := fun x : Int × Int => match x with | (z53, z54) => (9 - z53).toNat) (wsf := fun x : Int × Int => match x with | (z53, z54) => XW cy ad V J Rr) (lvf := fun x : Int × Int => match x with | (z53, z54) => [(4, vI z53), (3, vI z54), (0, .ref (ad 0)), (1, vI x1), (2, vI x2)]) (fun x hI55x ih55 => ?_) (0, 0) ⟨⟨by decide, by decide⟩, ⟨by decide, by decide⟩, ⟨_, (by omega), hF⟩⟩ rfl rfl
        obtain ⟨z53, z54⟩ := x
        obtain ⟨bz53, bz54, nf55, hn55, hF⟩ := hI55x
        try dsimp only
        obtain ⟨nf55, rfl⟩ : ∃ mm, nf55 = mm + 1 := ⟨nf55 - 1, (Nat.succ_pred_eq_of_pos (Nat.lt_of_le_of_lt (Nat.zero_le _) hn55)).symm⟩
        replace hF := hF.to (lop2_s hbd55)
        refine x_iload C.1 dX11_share_41 0 rfl ?_
        refine x_bipush C.1 (n := 8) dX11_share_43 ?_
        refine x_icmp_ge C.1 (tgt := 70) dX11_share_45 (by decide) (by omega) (by decide) (fun hc71 => ?_) (fun hc71 => ?_)
        · replace hF := hF.to (if_pos hc71)
          refine x_aload_n C.1 dX11_share_70 2 rfl ?_
          refine x_getA C (N := 129) (i := 0) (by decide) rfl vc_X11 wx_X11 0 (by decide) wf_X11_10 (a := 1) rfl dX11_share_71 ?_
          refine x_getA C (N := 129) (i := 1) (by omega) (xd_L (Or.inl rfl)) vc_X3 wx_X3 1 (by decide) wf_X11_146 (a := 3) rfl dX11_share_74 ?_
          refine x_iload_n C.1 dX11_share_77 3 rfl ?_
          obtain ⟨c72, ec72, hc72⟩ : ∃ cx : Nat, 1 + 11 + 1 * x1.toNat = cx ∧ isPe cx := ⟨_, rfl, isPe_L (Or.inl rfl) (by omega)⟩
          replace hF := hF.to (rdb_e (z := c72) ec72)
          refine x_aldS C (N := 129) (i := 3) (q := x1) (t := 5) rfl (by omega) (xd_Lb (Or.inl rfl)) (by omega) (by decide) dX11_share_78 (a := c72) ec72 ?_
          obtain ⟨z73, ez73, bz73⟩ := hI.rd c72 3 (x := -2147483648) (y := 2147483647) (rg_E hc72 3)
          replace hF := hF.to (rdb_e (z := z73) ez73)
          refine x_getI C (N := 129) (i := c72) hc72.1 hc72.2 vc_X4 wx_X4 3 (by decide) wf_X11_150 rfl dX11_share_79 (a := z73) ez73 ?_
          refine x_i2l C.1 dX11_share_82 (by omega) ?_
          refine x_iload_n C.1 dX11_share_83 1 rfl ?_
          refine x_iconst C.1 (n := 1) dX11_share_84 ?_
          refine x_mmax C wl_X11_291 (by omega) (by decide) dX11_share_85 ⟨Nat.le_of_ble_eq_true rfl, Nat.le_of_ble_eq_true rfl⟩ (Nat.le_of_ble_eq_true rfl) ⟨Nat.le_of_ble_eq_true rfl, Nat.le_of_ble_eq_true rfl⟩ (fun z74 hx74 => ?_)
          have bz74 : 1 ≤ z74 ∧ z74 ≤ 2147483647 := by omega
          replace hF := hF.to (rdb_e (z := z74) (by omega))
          replace hF := hF.fc bz74
          clear hx74
          refine x_i2l C.1 dX11_share_88 (by omega) ?_
          refine x_iload_n C.1 dX11_share_89 4 rfl ?_
          refine x_callSl C (As := [vJ z73, vJ z74, vI x2]) (rest := []) (s_part l D cy z73 ⟨by omega, by omega⟩ z74 ⟨by omega, by omega⟩ x2 ⟨by omega, by omega⟩) (l1 := []) (l2 := _) rfl (w2 := fun _ => _) (fun _ => rfl) rfl wm_yX11_part wn_X11 wl_X11_282 wi_yX11_part hd_yX11_part rfl ⟨Nat.le_of_ble_eq_true rfl, Nat.le_of_ble_eq_true rfl⟩ (Nat.le_of_ble_eq_true rfl) ⟨Nat.le_of_ble_eq_true rfl, Nat.le_of_ble_eq_true rfl⟩ dX11_share_90 (fun z75 u75 bz75 h75 => ?_)
          have hFc75 := h75
          replace hF := calR_i hF hFc75
          refine x_l2i C.1 dX11_share_93 ?_
          obtain ⟨z76, hz76, bz76⟩ : ∃ z : Int, iL z75 = z ∧ (-2147483648 ≤ z ∧ z ≤ 2147483647) := ⟨_, rfl, xi_r _⟩
          rw [hz76]
          replace hF := hF.to (rdb_e (z := z76) hz76)
          exact x_iret (S := Unit) (post := (fun a (u : Unit) => (f_s_share x1 x2 V J Rr) a)) (w1 := (fun _ : Unit => XW cy ad V J Rr)) (a := z76) C hr rfl dX11_share_94 (by omega) () rfl (hF _ rfl)
        · replace hF := hF.to (if_neg hc71)
          refine x_iload_n C.1 dX11_share_48 1 rfl ?_
          refine x_aload_n C.1 dX11_share_49 2 rfl ?_
          refine x_getA C (N := 129) (i := 0) (by decide) rfl vc_X11 wx_X11 0 (by decide) wf_X11_10 (a := 1) rfl dX11_share_50 ?_
          refine x_getA C (N := 129) (i := 1) (by omega) (xd_L (Or.inl rfl)) vc_X3 wx_X3 1 (by decide) wf_X11_146 (a := 3) rfl dX11_share_53 ?_
          refine x_iload C.1 dX11_share_56 0 rfl ?_
          obtain ⟨c77, ec77, hc77⟩ : ∃ cx : Nat, 1 + 11 + 1 * z53.toNat = cx ∧ isPe cx := ⟨_, rfl, isPe_L (Or.inl rfl) (by omega)⟩
          replace hF := hF.to (rdb_e (z := c77) ec77)
          refine x_aldS C (N := 129) (i := 3) (q := z53) (t := 5) rfl (by omega) (xd_Lb (Or.inl rfl)) (by omega) (by decide) dX11_share_58 (a := c77) ec77 ?_
          obtain ⟨z78, ez78, bz78⟩ := hI.rd c77 3 (x := -2147483648) (y := 2147483647) (rg_E hc77 3)
          replace hF := hF.to (rdb_e (z := z78) ez78)
          refine x_getI C (N := 129) (i := c77) hc77.1 hc77.2 vc_X4 wx_X4 3 (by decide) wf_X11_150 rfl dX11_share_59 (a := z78) ez78 ?_
          refine x_iadd C.1 (v := z54 + z78) (by omega) dX11_share_62 ?_
          refine x_wrapg ?_
          intro z79 bz79 ew79
          replace hF := hF.to (rdb_e (z := z79) ew79.symm)
          refine x_istore_n C.1 (lv' := [(3, vI z79), (4, vI z53), (0, .ref (ad 0)), (1, vI x1), (2, vI x2)]) dX11_share_63 (by decide) rfl ?_
          refine x_iinc C.1 (v := z53 + 1) (lv' := [(4, vI (z53 + 1)), (3, vI z79), (0, .ref (ad 0)), (1, vI x1), (2, vI x2)]) (by omega) dX11_share_64 1 rfl (by decide) rfl ?_
          refine x_goto C.1 (tgt := 41) dX11_share_67 (by decide) ?_
          have hmu55 : (9 - (z53 + 1)).toNat < (9 - z53).toNat := (by omega)
          exact ih55 (z53 + 1, z79) ⟨⟨by omega, by omega⟩, ⟨by omega, by omega⟩, ⟨nf55, Nat.lt_of_lt_of_le hmu55 (Nat.le_of_lt_succ hn55), hF⟩⟩ hmu55
      · replace hF := hF.to (if_neg (fun hh => hh hc6))
        refine x_iconst C.1 (n := -1) dX11_share_34 ?_
        exact x_iret (S := Unit) (post := (fun a (u : Unit) => (f_s_share x1 x2 V J Rr) a)) (w1 := (fun _ : Unit => XW cy ad V J Rr)) (a := (-1)) C hr rfl dX11_share_35 (by decide) () rfl (hF _ rfl)
  · replace hF := hF.to (if_neg (fun hh => hh hc1))
    refine x_iload_n C.1 dX11_share_5 2 rfl ?_
    refine x_if_ne C.1 (tgt := 14) dX11_share_6 (by decide) (by omega) (fun hc80 => ?_) (fun hc80 => ?_)
    · replace hF := hF.to (if_pos hc80)
      refine x_aload_n C.1 dX11_share_14 0 rfl ?_
      refine x_getA C (N := 129) (i := 0) (by decide) rfl vc_X11 wx_X11 0 (by decide) wf_X11_10 (a := 1) rfl dX11_share_15 ?_
      refine x_iload_n C.1 dX11_share_18 1 rfl ?_
      refine x_callVi C (As := [vI x1]) (rest := []) 1 (xw_at (N := 129) (i := 1) (by omega) (xd_L (Or.inl rfl))) vc_X3 (s_isPerson l D cy ad G V J Rr hI hJ hR 1 (Or.inl rfl) x1 ⟨by omega, by omega⟩) (l1 := []) (l2 := []) (List.append_nil _).symm (w2 := fun _ => XW cy ad V J Rr) (fun _ => List.append_nil _) rfl wm_yX3_isPerson wn_X3 wl_X11_168 wi_yX3_isPerson we_yX3_isPerson hd_yX3_isPerson rfl ⟨Nat.le_of_ble_eq_true rfl, Nat.le_of_ble_eq_true rfl⟩ (Nat.le_of_ble_eq_true rfl) ⟨Nat.le_of_ble_eq_true rfl, Nat.le_of_ble_eq_true rfl⟩ dX11_share_19 (fun z81 u81 bz81 h81 => ?_)
      obtain ⟨hon81, hFc81⟩ := h81
      replace hF := calR_i hF hFc81
      replace hF := hF.fc hon81.r
      have bq81 := Sp.r hon81
      refine x_if_eq C.1 (tgt := 34) dX11_share_22 (by decide) (by omega) (fun hc82 => ?_) (fun hc82 => ?_)
      · replace hF := hF.to (if_pos hc82)
        refine x_iconst C.1 (n := -1) dX11_share_34 ?_
        exact x_iret (S := Unit) (post := (fun a (u : Unit) => (f_s_share x1 x2 V J Rr) a)) (w1 := (fun _ : Unit => XW cy ad V J Rr)) (a := (-1)) C hr rfl dX11_share_35 (by decide) () rfl (hF _ rfl)
      · replace hF := hF.to (if_neg hc82)
        have hon83 := Sp.on hon81 (by omega)
        refine x_iload_n C.1 dX11_share_25 2 rfl ?_
        refine x_iconst C.1 (n := 0) dX11_share_26 ?_
        refine x_iconst C.1 (n := 1) dX11_share_27 ?_
        refine x_callSi C (As := [vI x2, vI 0, vI 1]) (rest := []) (s_isWithin l D cy x2 ⟨by omega, by omega⟩ 0 ⟨by decide, by decide⟩ 1 ⟨by decide, by decide⟩) (l1 := []) (l2 := _) rfl (w2 := fun _ => _) (fun _ => rfl) rfl wm_yX11_isWithin wn_X11 wl_X11_74 wi_yX11_isWithin hd_yX11_isWithin rfl ⟨Nat.le_of_ble_eq_true rfl, Nat.le_of_ble_eq_true rfl⟩ (Nat.le_of_ble_eq_true rfl) ⟨Nat.le_of_ble_eq_true rfl, Nat.le_of_ble_eq_true rfl⟩ dX11_share_28 (fun z84 u84 bz84 h84 => ?_)
        obtain ⟨bq84, hx84_0, hFc84⟩ := h84
        replace hF := calR_i hF hFc84
        replace hF := hF.fc bq84
        refine x_if_ne C.1 (tgt := 36) dX11_share_31 (by decide) (by omega) (fun hc85 => ?_) (fun hc85 => ?_)
        · replace hF := hF.to (if_pos hc85)
          have hon86 := Sq.on hx84_0 (by omega)
          refine x_iconst C.1 (n := 0) dX11_share_36 ?_
          refine x_istore_n C.1 (lv' := [(3, vI 0), (0, .ref (ad 0)), (1, vI x1), (2, vI x2)]) dX11_share_37 (by decide) rfl ?_
          refine x_iconst C.1 (n := 0) dX11_share_38 ?_
          refine x_istore C.1 (lv' := [(4, vI 0), (3, vI 0), (0, .ref (ad 0)), (1, vI x1), (2, vI x2)]) dX11_share_39 (by decide) rfl ?_
          obtain ⟨bd134, hbd134, hF⟩ := lop2_ex hF
          refine x_loop (I := fun x : Int × Int => match x with | (z132, z133) => (0 ≤ z132 ∧ z132 ≤ 8) ∧ (-2147483648 ≤ z133 ∧ z133 ≤ 2147483647) ∧ (∃ nf : Nat, (9 - z132).toNat < nf ∧ Imp (lop2 nf bd134 z132 z133) (f_s_share x1 x2 V J Rr))) (μ := fun x : Int × Int => match x with | (z132, z133) => (9 - z132).toNat) (wsf := fun x : Int × Int => match x with | (z132, z133) => XW cy ad V J Rr) (lvf := fun x : Int × Int => match x with | (z132, z133) => [(4, vI z132), (3, vI z133), (0, .ref (ad 0)), (1, vI x1), (2, vI x2)]) (fun x hI134x ih134 => ?_) (0, 0) ⟨⟨by decide, by decide⟩, ⟨by decide, by decide⟩, ⟨_, (by omega), hF⟩⟩ rfl rfl
          obtain ⟨z132, z133⟩ := x
          obtain ⟨bz132, bz133, nf134, hn134, hF⟩ := hI134x
          try dsimp only
          obtain ⟨nf134, rfl⟩ : ∃ mm, nf134 = mm + 1 := ⟨nf134 - 1, (Nat.succ_pred_eq_of_pos (Nat.lt_of_le_of_lt (Nat.zero_le _) hn134)).symm⟩
          replace hF := hF.to (lop2_s hbd134)
          refine x_iload C.1 dX11_share_41 0 rfl ?_
          refine x_bipush C.1 (n := 8) dX11_share_43 ?_
          refine x_icmp_ge C.1 (tgt := 70) dX11_share_45 (by decide) (by omega) (by decide) (fun hc150 => ?_) (fun hc150 => ?_)
          · replace hF := hF.to (if_pos hc150)
            refine x_aload_n C.1 dX11_share_70 2 rfl ?_
            refine x_getA C (N := 129) (i := 0) (by decide) rfl vc_X11 wx_X11 0 (by decide) wf_X11_10 (a := 1) rfl dX11_share_71 ?_
            refine x_getA C (N := 129) (i := 1) (by omega) (xd_L (Or.inl rfl)) vc_X3 wx_X3 1 (by decide) wf_X11_146 (a := 3) rfl dX11_share_74 ?_
            refine x_iload_n C.1 dX11_share_77 3 rfl ?_
            obtain ⟨c151, ec151, hc151⟩ : ∃ cx : Nat, 1 + 11 + 1 * x1.toNat = cx ∧ isPe cx := ⟨_, rfl, isPe_L (Or.inl rfl) (by omega)⟩
            replace hF := hF.to (rdb_e (z := c151) ec151)
            refine x_aldS C (N := 129) (i := 3) (q := x1) (t := 5) rfl (by omega) (xd_Lb (Or.inl rfl)) (by omega) (by decide) dX11_share_78 (a := c151) ec151 ?_
            obtain ⟨z152, ez152, bz152⟩ := hI.rd c151 3 (x := -2147483648) (y := 2147483647) (rg_E hc151 3)
            replace hF := hF.to (rdb_e (z := z152) ez152)
            refine x_getI C (N := 129) (i := c151) hc151.1 hc151.2 vc_X4 wx_X4 3 (by decide) wf_X11_150 rfl dX11_share_79 (a := z152) ez152 ?_
            refine x_i2l C.1 dX11_share_82 (by omega) ?_
            refine x_iload_n C.1 dX11_share_83 1 rfl ?_
            refine x_iconst C.1 (n := 1) dX11_share_84 ?_
            refine x_mmax C wl_X11_291 (by omega) (by decide) dX11_share_85 ⟨Nat.le_of_ble_eq_true rfl, Nat.le_of_ble_eq_true rfl⟩ (Nat.le_of_ble_eq_true rfl) ⟨Nat.le_of_ble_eq_true rfl, Nat.le_of_ble_eq_true rfl⟩ (fun z153 hx153 => ?_)
            have bz153 : 1 ≤ z153 ∧ z153 ≤ 2147483647 := by omega
            replace hF := hF.to (rdb_e (z := z153) (by omega))
            replace hF := hF.fc bz153
            clear hx153
            refine x_i2l C.1 dX11_share_88 (by omega) ?_
            refine x_iload_n C.1 dX11_share_89 4 rfl ?_
            refine x_callSl C (As := [vJ z152, vJ z153, vI x2]) (rest := []) (s_part l D cy z152 ⟨by omega, by omega⟩ z153 ⟨by omega, by omega⟩ x2 ⟨by omega, by omega⟩) (l1 := []) (l2 := _) rfl (w2 := fun _ => _) (fun _ => rfl) rfl wm_yX11_part wn_X11 wl_X11_282 wi_yX11_part hd_yX11_part rfl ⟨Nat.le_of_ble_eq_true rfl, Nat.le_of_ble_eq_true rfl⟩ (Nat.le_of_ble_eq_true rfl) ⟨Nat.le_of_ble_eq_true rfl, Nat.le_of_ble_eq_true rfl⟩ dX11_share_90 (fun z154 u154 bz154 h154 => ?_)
            have hFc154 := h154
            replace hF := calR_i hF hFc154
            refine x_l2i C.1 dX11_share_93 ?_
            obtain ⟨z155, hz155, bz155⟩ : ∃ z : Int, iL z154 = z ∧ (-2147483648 ≤ z ∧ z ≤ 2147483647) := ⟨_, rfl, xi_r _⟩
            rw [hz155]
            replace hF := hF.to (rdb_e (z := z155) hz155)
            exact x_iret (S := Unit) (post := (fun a (u : Unit) => (f_s_share x1 x2 V J Rr) a)) (w1 := (fun _ : Unit => XW cy ad V J Rr)) (a := z155) C hr rfl dX11_share_94 (by omega) () rfl (hF _ rfl)
          · replace hF := hF.to (if_neg hc150)
            refine x_iload_n C.1 dX11_share_48 1 rfl ?_
            refine x_aload_n C.1 dX11_share_49 2 rfl ?_
            refine x_getA C (N := 129) (i := 0) (by decide) rfl vc_X11 wx_X11 0 (by decide) wf_X11_10 (a := 1) rfl dX11_share_50 ?_
            refine x_getA C (N := 129) (i := 1) (by omega) (xd_L (Or.inl rfl)) vc_X3 wx_X3 1 (by decide) wf_X11_146 (a := 3) rfl dX11_share_53 ?_
            refine x_iload C.1 dX11_share_56 0 rfl ?_
            obtain ⟨c156, ec156, hc156⟩ : ∃ cx : Nat, 1 + 11 + 1 * z132.toNat = cx ∧ isPe cx := ⟨_, rfl, isPe_L (Or.inl rfl) (by omega)⟩
            replace hF := hF.to (rdb_e (z := c156) ec156)
            refine x_aldS C (N := 129) (i := 3) (q := z132) (t := 5) rfl (by omega) (xd_Lb (Or.inl rfl)) (by omega) (by decide) dX11_share_58 (a := c156) ec156 ?_
            obtain ⟨z157, ez157, bz157⟩ := hI.rd c156 3 (x := -2147483648) (y := 2147483647) (rg_E hc156 3)
            replace hF := hF.to (rdb_e (z := z157) ez157)
            refine x_getI C (N := 129) (i := c156) hc156.1 hc156.2 vc_X4 wx_X4 3 (by decide) wf_X11_150 rfl dX11_share_59 (a := z157) ez157 ?_
            refine x_iadd C.1 (v := z133 + z157) (by omega) dX11_share_62 ?_
            refine x_wrapg ?_
            intro z158 bz158 ew158
            replace hF := hF.to (rdb_e (z := z158) ew158.symm)
            refine x_istore_n C.1 (lv' := [(3, vI z158), (4, vI z132), (0, .ref (ad 0)), (1, vI x1), (2, vI x2)]) dX11_share_63 (by decide) rfl ?_
            refine x_iinc C.1 (v := z132 + 1) (lv' := [(4, vI (z132 + 1)), (3, vI z158), (0, .ref (ad 0)), (1, vI x1), (2, vI x2)]) (by omega) dX11_share_64 1 rfl (by decide) rfl ?_
            refine x_goto C.1 (tgt := 41) dX11_share_67 (by decide) ?_
            have hmu134 : (9 - (z132 + 1)).toNat < (9 - z132).toNat := (by omega)
            exact ih134 (z132 + 1, z158) ⟨⟨by omega, by omega⟩, ⟨by omega, by omega⟩, ⟨nf134, Nat.lt_of_lt_of_le hmu134 (Nat.le_of_lt_succ hn134), hF⟩⟩ hmu134
        · replace hF := hF.to (if_neg (fun hh => hh hc85))
          refine x_iconst C.1 (n := -1) dX11_share_34 ?_
          exact x_iret (S := Unit) (post := (fun a (u : Unit) => (f_s_share x1 x2 V J Rr) a)) (w1 := (fun _ : Unit => XW cy ad V J Rr)) (a := (-1)) C hr rfl dX11_share_35 (by decide) () rfl (hF _ rfl)
    · replace hF := hF.to (if_neg (fun hh => hh hc80))
      refine x_aload_n C.1 dX11_share_9 0 rfl ?_
      refine x_callVi C (As := []) (rest := []) 0 (xw_at (N := 129) (i := 0) (by decide) rfl) vc_X11 (s_theOne l D cy ad G V J Rr hI hJ hR ) (l1 := []) (l2 := []) (List.append_nil _).symm (w2 := fun _ => XW cy ad V J Rr) (fun _ => List.append_nil _) rfl wm_yX11_theOne wn_X11 wl_X11_288 wi_yX11_theOne we_yX11_theOne hd_yX11_theOne rfl ⟨Nat.le_of_ble_eq_true rfl, Nat.le_of_ble_eq_true rfl⟩ (Nat.le_of_ble_eq_true rfl) ⟨Nat.le_of_ble_eq_true rfl, Nat.le_of_ble_eq_true rfl⟩ dX11_share_10 (fun z159 u159 bz159 h159 => ?_)
      have hFc159 := h159
      replace hF := calR_i hF hFc159
      exact x_iret (S := Unit) (post := (fun a (u : Unit) => (f_s_share x1 x2 V J Rr) a)) (w1 := (fun _ : Unit => XW cy ad V J Rr)) (a := z159) C hr rfl dX11_share_13 (by omega) () rfl (hF _ rfl)
theorem hd_yX7_walk : yX7_walk.cls ≠ "java/lang/invoke/MethodHandle" ∧ yX7_walk.cls ≠ "java/lang/invoke/VarHandle" ∧ (parseMethodDescriptor yX7_walk.desc).map (fun d => d.parameters.length) = some 3 := by decide +kernel
theorem dX11_rotaOn_0 : decode cX11_rotaOn 0 = .ok (.aload_n 0, 1) := by decide +kernel
theorem dX11_rotaOn_1 : decode cX11_rotaOn 1 = .ok (.getfield 19, 3) := by decide +kernel
theorem dX11_rotaOn_4 : decode cX11_rotaOn 4 = .ok (.aload_n 0, 1) := by decide +kernel
theorem dX11_rotaOn_5 : decode cX11_rotaOn 5 = .ok (.getfield 10, 3) := by decide +kernel
theorem dX11_rotaOn_8 : decode cX11_rotaOn 8 = .ok (.invokevirtual 142, 3) := by decide +kernel
theorem dX11_rotaOn_11 : decode cX11_rotaOn 11 = .ok (.aload_n 0, 1) := by decide +kernel
theorem dX11_rotaOn_12 : decode cX11_rotaOn 12 = .ok (.getfield 55, 3) := by decide +kernel
theorem dX11_rotaOn_15 : decode cX11_rotaOn 15 = .ok (.aload_n 0, 1) := by decide +kernel
theorem dX11_rotaOn_16 : decode cX11_rotaOn 16 = .ok (.getfield 19, 3) := by decide +kernel
theorem dX11_rotaOn_19 : decode cX11_rotaOn 19 = .ok (.aload_n 0, 1) := by decide +kernel
theorem dX11_rotaOn_20 : decode cX11_rotaOn 20 = .ok (.getfield 34, 3) := by decide +kernel
theorem dX11_rotaOn_23 : decode cX11_rotaOn 23 = .ok (.iload_n 1, 1) := by decide +kernel
theorem dX11_rotaOn_24 : decode cX11_rotaOn 24 = .ok (.invokevirtual 372, 3) := by decide +kernel
theorem dX11_rotaOn_27 : decode cX11_rotaOn 27 = .ok (.istore_n 3, 1) := by decide +kernel
theorem dX11_rotaOn_28 : decode cX11_rotaOn 28 = .ok (.iload_n 2, 1) := by decide +kernel
theorem dX11_rotaOn_29 : decode cX11_rotaOn 29 = .ok (.iconst 1, 1) := by decide +kernel
theorem dX11_rotaOn_30 : decode cX11_rotaOn 30 = .ok (.if_icmp .ne 7, 3) := by decide +kernel
theorem dX11_rotaOn_33 : decode cX11_rotaOn 33 = .ok (.iload_n 3, 1) := by decide +kernel
theorem dX11_rotaOn_34 : decode cX11_rotaOn 34 = .ok (.goto 15, 3) := by decide +kernel
theorem dX11_rotaOn_37 : decode cX11_rotaOn 37 = .ok (.aload_n 0, 1) := by decide +kernel
theorem dX11_rotaOn_38 : decode cX11_rotaOn 38 = .ok (.getfield 19, 3) := by decide +kernel
theorem dX11_rotaOn_41 : decode cX11_rotaOn 41 = .ok (.getfield 78, 3) := by decide +kernel
theorem dX11_rotaOn_44 : decode cX11_rotaOn 44 = .ok (.iload_n 1, 1) := by decide +kernel
theorem dX11_rotaOn_45 : decode cX11_rotaOn 45 = .ok (.aaload, 1) := by decide +kernel
theorem dX11_rotaOn_46 : decode cX11_rotaOn 46 = .ok (.getfield 110, 3) := by decide +kernel
theorem dX11_rotaOn_49 : decode cX11_rotaOn 49 = .ok (.ireturn, 1) := by decide +kernel
set_option maxRecDepth 100000 in
def f_s_rotaOn (x1 : Int) (x2 : Int) (V : Nat → Nat → Int) (J : Nat → Nat → Int) (Rr : Nat → Nat → Nat) : (Int × (Nat → Nat → Int)) → Prop :=
  calUX (fun i k : Nat => (39 ≤ i ∧ i ≤ 57)) V (f_s_copyT V J Rr) fun V1 => calVX (fun i k : Nat => (69 ≤ i ∧ i ≤ 71) ∨ (39 ≤ i ∧ i ≤ 39 + 18)) V1 (f_s_walk 39 x1 V1 J Rr) fun z2 V2 => (if ¬ x2 = 1 then rdb (39 + 3 + 2 * x1.toNat) fun c4 => rdb (V2 c4 2) fun z5 => rtn (z5, V2) else rtn (z2, V2))
set_option maxHeartbeats 8000000 in
set_option maxRecDepth 100000 in
theorem s_rotaOn (l : Launch) (D : va_G) (cy : Nat → ClassId) (ad : Nat → Nat) (G : Nat → Nat → Int) (V J : Nat → Nat → Int) (Rr : Nat → Nat → Nat) (hI : XI G V) (hJ : VJ J) (hR : XR Rr) (x1 : Int) (bx1 : 0 ≤ x1 ∧ x1 ≤ 3) (x2 : Int) (bx2 : -2147483648 ≤ x2 ∧ x2 ≤ 2147483647) : xMi l D (xTY cy) yX11_rotaOn cX11_rotaOn 4 (some .int) 6 149 0 0 [.ref (ad 0), vI x1, vI x2] (XW cy ad V J Rr) (fun u : Nat → Nat → Int => XW cy ad u J Rr) (fun a (u : Nat → Nat → Int) => XI G u ∧ FB (fun i k : Nat => (39 ≤ i ∧ i ≤ 57) ∨ (69 ≤ i ∧ i ≤ 71)) V u ∧ (f_s_rotaOn x1 x2 V J Rr) (a, u)) := by
  refine xMi.mk (lv0 := [(0, .ref (ad 0)), (1, vI x1), (2, vI x2)]) (by decide) rfl (Nat.le_of_ble_eq_true rfl) (fun p e s m below meth c A C hr hnm hAe => ?_)
  have C : xC2 p s m _ meth c D A s.heap 4 cX11_rotaOn RX11 (xTY cy) := C
  have hB : FB (fun i k : Nat => (39 ≤ i ∧ i ≤ 57) ∨ (69 ≤ i ∧ i ≤ 71)) V V := FB.rf _ _
  have hF := Imp.of_eq (f_s_rotaOn.eq_def x1 x2 V J Rr)
  refine x_aload_n C.1 dX11_rotaOn_0 0 rfl ?_
  refine x_getA C (N := 129) (i := 0) (by decide) rfl vc_X11 wx_X11 2 (by decide) wf_X11_19 (a := 39) rfl dX11_rotaOn_1 ?_
  refine x_aload_n C.1 dX11_rotaOn_4 0 rfl ?_
  refine x_getA C (N := 129) (i := 0) (by decide) rfl vc_X11 wx_X11 0 (by decide) wf_X11_10 (a := 1) rfl dX11_rotaOn_5 ?_
  refine x_callVv C (As := [.ref (ad 1)]) (rest := []) 39 (xw_at (N := 129) (i := 39) (by omega) (xd_L (Or.inr (Or.inr rfl)))) vc_X3 (s_copyT l D cy ad G V J Rr hI hJ hR ) (l1 := []) (l2 := []) (List.append_nil _).symm (w2 := fun u : Nat → Nat → Int => XW cy ad u J Rr) (fun _ => List.append_nil _) rfl wm_yX3_copy wn_X3 wl_X11_142 wi_yX3_copy we_yX3_copy hd_yX3_copy rfl ⟨Nat.le_of_ble_eq_true rfl, Nat.le_of_ble_eq_true rfl⟩ (Nat.le_of_ble_eq_true rfl) ⟨Nat.le_of_ble_eq_true rfl, Nat.le_of_ble_eq_true rfl⟩ dX11_rotaOn_8 (fun V1 h1 => ?_)
  obtain ⟨hI1, hBc1, hFc1⟩ := h1
  replace hF := calUX_i hF hFc1 hBc1
  have hB1 := hB.tr hBc1 (fun i k h => (Or.inl h))
  refine x_aload_n C.1 dX11_rotaOn_11 0 rfl ?_
  refine x_getA C (N := 129) (i := 0) (by decide) rfl vc_X11 wx_X11 8 (by decide) wf_X11_55 (a := 124) rfl dX11_rotaOn_12 ?_
  refine x_aload_n C.1 dX11_rotaOn_15 0 rfl ?_
  refine x_getA C (N := 129) (i := 0) (by decide) rfl vc_X11 wx_X11 2 (by decide) wf_X11_19 (a := 39) rfl dX11_rotaOn_16 ?_
  refine x_aload_n C.1 dX11_rotaOn_19 0 rfl ?_
  refine x_getA C (N := 129) (i := 0) (by decide) rfl vc_X11 wx_X11 5 (by decide) wf_X11_34 (a := 60) rfl dX11_rotaOn_20 ?_
  refine x_iload_n C.1 dX11_rotaOn_23 1 rfl ?_
  refine x_callVi C (As := [.ref (ad 39), .ref (ad 60), vI x1]) (rest := []) 124 (xw_at (N := 129) (i := 124) (by decide) rfl) vc_X7 (s_walk l D cy ad G V1 J Rr hI1 hJ hR 39 (Or.inr (Or.inr rfl)) x1 ⟨by omega, by omega⟩) (l1 := []) (l2 := []) (List.append_nil _).symm (w2 := fun u : Nat → Nat → Int => XW cy ad u J Rr) (fun _ => List.append_nil _) rfl wm_yX7_walk wn_X7 wl_X11_372 wi_yX7_walk we_yX7_walk hd_yX7_walk rfl ⟨Nat.le_of_ble_eq_true rfl, Nat.le_of_ble_eq_true rfl⟩ (Nat.le_of_ble_eq_true rfl) ⟨Nat.le_of_ble_eq_true rfl, Nat.le_of_ble_eq_true rfl⟩ dX11_rotaOn_24 (fun z2 V2 bz2 h2 => ?_)
  obtain ⟨hI2, hBc2, hFc2⟩ := h2
  replace hF := calVX_i hF hFc2 hBc2
  have hB2 := hB1.tr hBc2 (fun i k h => (h.elim (fun h => (Or.inr (h))) (fun h => (Or.inl (⟨by omega, by omega⟩)))))
  refine x_istore_n C.1 (lv' := [(3, vI z2), (0, .ref (ad 0)), (1, vI x1), (2, vI x2)]) dX11_rotaOn_27 (by decide) rfl ?_
  refine x_iload_n C.1 dX11_rotaOn_28 3 rfl ?_
  refine x_iconst C.1 (n := 1) dX11_rotaOn_29 ?_
  refine x_icmp_ne C.1 (tgt := 37) dX11_rotaOn_30 (by decide) (by omega) (by decide) (fun hc3 => ?_) (fun hc3 => ?_)
  · replace hF := hF.to (if_pos hc3)
    refine x_aload_n C.1 dX11_rotaOn_37 1 rfl ?_
    refine x_getA C (N := 129) (i := 0) (by decide) rfl vc_X11 wx_X11 2 (by decide) wf_X11_19 (a := 39) rfl dX11_rotaOn_38 ?_
    refine x_getA C (N := 129) (i := 39) (by omega) (xd_L (Or.inr (Or.inr rfl))) vc_X3 wx_X3 0 (by decide) wf_X11_78 (a := 40) rfl dX11_rotaOn_41 ?_
    refine x_iload_n C.1 dX11_rotaOn_44 2 rfl ?_
    obtain ⟨c4, ec4, hc4⟩ : ∃ cx : Nat, 39 + 3 + 2 * x1.toNat = cx ∧ isPl cx := ⟨_, rfl, isPl_L (Or.inr (Or.inr rfl)) (by omega)⟩
    replace hF := hF.to (rdb_e (z := c4) ec4)
    refine x_aldS C (N := 129) (i := 40) (q := x1) (t := 4) rfl (by omega) (xd_La (Or.inr (Or.inr rfl))) (by omega) (by decide) dX11_rotaOn_45 (a := c4) ec4 ?_
    obtain ⟨z5, ez5, bz5⟩ := hI2.rd c4 2 (x := -2147483648) (y := 2147483647) (rg_P hc4 2)
    replace hF := hF.to (rdb_e (z := z5) ez5)
    refine x_getI C (N := 129) (i := c4) (Nat.lt_of_succ_lt hc4.1) hc4.2.1 vc_X5 wx_X5 2 (by decide) wf_X11_110 rfl dX11_rotaOn_46 (a := z5) ez5 ?_
    exact x_iret (S := (Nat → Nat → Int)) (post := (fun a (u : Nat → Nat → Int) => XI G u ∧ FB (fun i k : Nat => (39 ≤ i ∧ i ≤ 57) ∨ (69 ≤ i ∧ i ≤ 71)) V u ∧ (f_s_rotaOn x1 x2 V J Rr) (a, u))) (w1 := (fun u : Nat → Nat → Int => XW cy ad u J Rr)) (a := z5) C hr rfl dX11_rotaOn_49 (by omega) V2 rfl ⟨hI2, hB2, hF _ rfl⟩
  · replace hF := hF.to (if_neg (fun hh => hh hc3))
    refine x_iload_n C.1 dX11_rotaOn_33 0 rfl ?_
    refine x_goto C.1 (tgt := 49) dX11_rotaOn_34 (by decide) ?_
    exact x_iret (S := (Nat → Nat → Int)) (post := (fun a (u : Nat → Nat → Int) => XI G u ∧ FB (fun i k : Nat => (39 ≤ i ∧ i ≤ 57) ∨ (69 ≤ i ∧ i ≤ 71)) V u ∧ (f_s_rotaOn x1 x2 V J Rr) (a, u))) (w1 := (fun u : Nat → Nat → Int => XW cy ad u J Rr)) (a := z2) C hr rfl dX11_rotaOn_49 (by omega) V2 rfl ⟨hI2, hB2, hF _ rfl⟩
theorem hd_yX11_rotaOn : yX11_rotaOn.cls ≠ "java/lang/invoke/MethodHandle" ∧ yX11_rotaOn.cls ≠ "java/lang/invoke/VarHandle" ∧ (parseMethodDescriptor yX11_rotaOn.desc).map (fun d => d.parameters.length) = some 2 := by decide +kernel
theorem hd_yX7_daysOf : yX7_daysOf.cls ≠ "java/lang/invoke/MethodHandle" ∧ yX7_daysOf.cls ≠ "java/lang/invoke/VarHandle" ∧ (parseMethodDescriptor yX7_daysOf.desc).map (fun d => d.parameters.length) = some 1 := by decide +kernel
theorem hd_yX7_read : yX7_read.cls ≠ "java/lang/invoke/MethodHandle" ∧ yX7_read.cls ≠ "java/lang/invoke/VarHandle" ∧ (parseMethodDescriptor yX7_read.desc).map (fun d => d.parameters.length) = some 3 := by decide +kernel
theorem dX11_rota_0 : decode cX11_rota 0 = .ok (.aload_n 0, 1) := by decide +kernel
theorem dX11_rota_1 : decode cX11_rota 1 = .ok (.getfield 10, 3) := by decide +kernel
theorem dX11_rota_4 : decode cX11_rota 4 = .ok (.iload_n 1, 1) := by decide +kernel
theorem dX11_rota_5 : decode cX11_rota 5 = .ok (.invokevirtual 103, 3) := by decide +kernel
theorem dX11_rota_8 : decode cX11_rota 8 = .ok (.ifCond .eq 24, 3) := by decide +kernel
theorem dX11_rota_11 : decode cX11_rota 11 = .ok (.iload_n 2, 1) := by decide +kernel
theorem dX11_rota_12 : decode cX11_rota 12 = .ok (.iconst 1, 1) := by decide +kernel
theorem dX11_rota_13 : decode cX11_rota 13 = .ok (.bipush 90, 2) := by decide +kernel
theorem dX11_rota_15 : decode cX11_rota 15 = .ok (.invokestatic 74, 3) := by decide +kernel
theorem dX11_rota_18 : decode cX11_rota 18 = .ok (.ifCond .eq 14, 3) := by decide +kernel
theorem dX11_rota_21 : decode cX11_rota 21 = .ok (.iload_n 2, 1) := by decide +kernel
theorem dX11_rota_22 : decode cX11_rota 22 = .ok (.aload_n 0, 1) := by decide +kernel
theorem dX11_rota_23 : decode cX11_rota 23 = .ok (.getfield 25, 3) := by decide +kernel
theorem dX11_rota_26 : decode cX11_rota 26 = .ok (.getfield 120, 3) := by decide +kernel
theorem dX11_rota_29 : decode cX11_rota 29 = .ok (.if_icmp .le 5, 3) := by decide +kernel
theorem dX11_rota_32 : decode cX11_rota 32 = .ok (.iconst (-1), 1) := by decide +kernel
theorem dX11_rota_33 : decode cX11_rota 33 = .ok (.ireturn, 1) := by decide +kernel
theorem dX11_rota_34 : decode cX11_rota 34 = .ok (.aload_n 0, 1) := by decide +kernel
theorem dX11_rota_35 : decode cX11_rota 35 = .ok (.getfield 10, 3) := by decide +kernel
theorem dX11_rota_38 : decode cX11_rota 38 = .ok (.getfield 296, 3) := by decide +kernel
theorem dX11_rota_41 : decode cX11_rota 41 = .ok (.sipush 9915, 3) := by decide +kernel
theorem dX11_rota_44 : decode cX11_rota 44 = .ok (.if_icmp .le 5, 3) := by decide +kernel
theorem dX11_rota_47 : decode cX11_rota 47 = .ok (.iconst (-1), 1) := by decide +kernel
theorem dX11_rota_48 : decode cX11_rota 48 = .ok (.ireturn, 1) := by decide +kernel
theorem dX11_rota_49 : decode cX11_rota 49 = .ok (.iload_n 3, 1) := by decide +kernel
theorem dX11_rota_50 : decode cX11_rota 50 = .ok (.iconst 0, 1) := by decide +kernel
theorem dX11_rota_51 : decode cX11_rota 51 = .ok (.iconst 2, 1) := by decide +kernel
theorem dX11_rota_52 : decode cX11_rota 52 = .ok (.invokestatic 74, 3) := by decide +kernel
theorem dX11_rota_55 : decode cX11_rota 55 = .ok (.ifCond .ne 17, 3) := by decide +kernel
theorem dX11_rota_58 : decode cX11_rota 58 = .ok (.iload_n 3, 1) := by decide +kernel
theorem dX11_rota_59 : decode cX11_rota 59 = .ok (.bipush 10, 2) := by decide +kernel
theorem dX11_rota_61 : decode cX11_rota 61 = .ok (.isub, 1) := by decide +kernel
theorem dX11_rota_62 : decode cX11_rota 62 = .ok (.bipush 8, 2) := by decide +kernel
theorem dX11_rota_64 : decode cX11_rota 64 = .ok (.invokestatic 70, 3) := by decide +kernel
theorem dX11_rota_67 : decode cX11_rota 67 = .ok (.ifCond .ne 5, 3) := by decide +kernel
theorem dX11_rota_70 : decode cX11_rota 70 = .ok (.iconst (-1), 1) := by decide +kernel
theorem dX11_rota_71 : decode cX11_rota 71 = .ok (.ireturn, 1) := by decide +kernel
theorem dX11_rota_72 : decode cX11_rota 72 = .ok (.aload_n 0, 1) := by decide +kernel
theorem dX11_rota_73 : decode cX11_rota 73 = .ok (.getfield 55, 3) := by decide +kernel
theorem dX11_rota_76 : decode cX11_rota 76 = .ok (.aload_n 0, 1) := by decide +kernel
theorem dX11_rota_77 : decode cX11_rota 77 = .ok (.getfield 25, 3) := by decide +kernel
theorem dX11_rota_80 : decode cX11_rota 80 = .ok (.iload_n 2, 1) := by decide +kernel
theorem dX11_rota_81 : decode cX11_rota 81 = .ok (.aload_n 0, 1) := by decide +kernel
theorem dX11_rota_82 : decode cX11_rota 82 = .ok (.getfield 10, 3) := by decide +kernel
theorem dX11_rota_85 : decode cX11_rota 85 = .ok (.invokevirtual 299, 3) := by decide +kernel
theorem dX11_rota_88 : decode cX11_rota 88 = .ok (.istore 4, 2) := by decide +kernel
theorem dX11_rota_90 : decode cX11_rota 90 = .ok (.aload_n 0, 1) := by decide +kernel
theorem dX11_rota_91 : decode cX11_rota 91 = .ok (.getfield 25, 3) := by decide +kernel
theorem dX11_rota_94 : decode cX11_rota 94 = .ok (.iconst 0, 1) := by decide +kernel
theorem dX11_rota_95 : decode cX11_rota 95 = .ok (.putfield 120, 3) := by decide +kernel
theorem dX11_rota_98 : decode cX11_rota 98 = .ok (.iload 4, 2) := by decide +kernel
theorem dX11_rota_100 : decode cX11_rota 100 = .ok (.ifCond .eq 6, 3) := by decide +kernel
theorem dX11_rota_103 : decode cX11_rota 103 = .ok (.iload 4, 2) := by decide +kernel
theorem dX11_rota_105 : decode cX11_rota 105 = .ok (.ireturn, 1) := by decide +kernel
theorem dX11_rota_106 : decode cX11_rota 106 = .ok (.iload_n 3, 1) := by decide +kernel
theorem dX11_rota_107 : decode cX11_rota 107 = .ok (.ifCond .ne 11, 3) := by decide +kernel
theorem dX11_rota_110 : decode cX11_rota 110 = .ok (.aload_n 0, 1) := by decide +kernel
theorem dX11_rota_111 : decode cX11_rota 111 = .ok (.getfield 55, 3) := by decide +kernel
theorem dX11_rota_114 : decode cX11_rota 114 = .ok (.getfield 303, 3) := by decide +kernel
theorem dX11_rota_117 : decode cX11_rota 117 = .ok (.ireturn, 1) := by decide +kernel
theorem dX11_rota_118 : decode cX11_rota 118 = .ok (.iload_n 3, 1) := by decide +kernel
theorem dX11_rota_119 : decode cX11_rota 119 = .ok (.bipush 10, 2) := by decide +kernel
theorem dX11_rota_121 : decode cX11_rota 121 = .ok (.if_icmp .lt 17, 3) := by decide +kernel
theorem dX11_rota_124 : decode cX11_rota 124 = .ok (.aload_n 0, 1) := by decide +kernel
theorem dX11_rota_125 : decode cX11_rota 125 = .ok (.getfield 55, 3) := by decide +kernel
theorem dX11_rota_128 : decode cX11_rota 128 = .ok (.iload_n 3, 1) := by decide +kernel
theorem dX11_rota_129 : decode cX11_rota 129 = .ok (.bipush 10, 2) := by decide +kernel
theorem dX11_rota_131 : decode cX11_rota 131 = .ok (.isub, 1) := by decide +kernel
theorem dX11_rota_132 : decode cX11_rota 132 = .ok (.invokevirtual 304, 3) := by decide +kernel
theorem dX11_rota_135 : decode cX11_rota 135 = .ok (.goto 9, 3) := by decide +kernel
theorem dX11_rota_138 : decode cX11_rota 138 = .ok (.aload_n 0, 1) := by decide +kernel
theorem dX11_rota_139 : decode cX11_rota 139 = .ok (.iload_n 1, 1) := by decide +kernel
theorem dX11_rota_140 : decode cX11_rota 140 = .ok (.iload_n 3, 1) := by decide +kernel
theorem dX11_rota_141 : decode cX11_rota 141 = .ok (.invokevirtual 307, 3) := by decide +kernel
theorem dX11_rota_144 : decode cX11_rota 144 = .ok (.ireturn, 1) := by decide +kernel
set_option maxRecDepth 100000 in
def f_s_rota (x1 : Int) (x2 : Int) (x3 : Int) (V : Nat → Nat → Int) (J : Nat → Nat → Int) (Rr : Nat → Nat → Nat) : (Int × (Nat → Nat → Int)) → Prop :=
  calR (f_s_isAlive 1 x1 V J Rr) fun z1 => fct (0 ≤ z1 ∧ z1 ≤ 1) <| (if z1 = 0 then rtn ((-1), V) else calR (f_s_isWithin x2 1 90) fun z4 => fct (0 ≤ z4 ∧ z4 ≤ 1) <| (if z4 = 0 then rtn ((-1), V) else rdb (V 58 1) fun z7 => fct (0 ≤ z7 ∧ z7 ≤ 220) <| (if x2 ≤ z7 then rdb (V 1 3) fun z9 => (if z9 ≤ 9915 then calR (f_s_isWithin x3 0 2) fun z11 => fct (0 ≤ z11 ∧ z11 ≤ 1) <| (if ¬ z11 = 0 then calVX (fun i k : Nat => (124 ≤ i ∧ i ≤ 125)) V (f_s_readR x2 1 V J Rr) fun z14 V14 => rdb (up2 V14 58 1 0) fun V15 => (if z14 = 0 then (if ¬ x3 = 0 then calVX (fun i k : Nat => (39 ≤ i ∧ i ≤ 57) ∨ (69 ≤ i ∧ i ≤ 71)) V15 (f_s_rotaOn x1 x3 V15 J Rr) fun z18 V18 => rtn (z18, V18) else rdb (V15 124 1) fun z19 => fct (0 ≤ z19 ∧ z19 ≤ 84) <| rtn (z19, V15)) else rtn (z14, V15)) else rdb (wr (x3 - 10)) fun z20 => calR (f_s_isPlace z20 8) fun z21 => fct (0 ≤ z21 ∧ z21 ≤ 1) <| (if ¬ z21 = 0 then calVX (fun i k : Nat => (124 ≤ i ∧ i ≤ 125)) V (f_s_readR x2 1 V J Rr) fun z24 V24 => rdb (up2 V24 58 1 0) fun V25 => (if z24 = 0 then (if ¬ x3 = 0 then (if x3 < 10 then calVX (fun i k : Nat => (39 ≤ i ∧ i ≤ 57) ∨ (69 ≤ i ∧ i ≤ 71)) V25 (f_s_rotaOn x1 x3 V25 J Rr) fun z29 V29 => rtn (z29, V29) else calR (f_s_daysOf (x3 - 10) V25 J Rr) fun z30 => rtn (z30, V25)) else rdb (V25 124 1) fun z31 => fct (0 ≤ z31 ∧ z31 ≤ 84) <| rtn (z31, V25)) else rtn (z24, V25)) else rtn ((-1), V))) else rtn ((-1), V)) else rtn ((-1), V))))
set_option maxHeartbeats 8000000 in
set_option maxRecDepth 100000 in
theorem s_rota (l : Launch) (D : va_G) (cy : Nat → ClassId) (ad : Nat → Nat) (G : Nat → Nat → Int) (V J : Nat → Nat → Int) (Rr : Nat → Nat → Nat) (hI : XI G V) (hJ : VJ J) (hR : XR Rr) (x1 : Int) (bx1 : -2147483648 ≤ x1 ∧ x1 ≤ 2147483647) (x2 : Int) (bx2 : -2147483648 ≤ x2 ∧ x2 ≤ 2147483647) (x3 : Int) (bx3 : -2147483648 ≤ x3 ∧ x3 ≤ 2147483647) : xMi l D (xTY cy) yX11_rota cX11_rota 5 (some .int) 7 172 0 0 [.ref (ad 0), vI x1, vI x2, vI x3] (XW cy ad V J Rr) (fun u : Nat → Nat → Int => XW cy ad u J Rr) (fun a (u : Nat → Nat → Int) => XI G u ∧ FB (fun i k : Nat => (124 ≤ i ∧ i ≤ 125) ∨ (58 ≤ i ∧ i ≤ 59) ∨ (39 ≤ i ∧ i ≤ 57) ∨ (69 ≤ i ∧ i ≤ 71)) V u ∧ (f_s_rota x1 x2 x3 V J Rr) (a, u)) := by
  refine xMi.mk (lv0 := [(0, .ref (ad 0)), (1, vI x1), (2, vI x2), (3, vI x3)]) (by decide) rfl (Nat.le_of_ble_eq_true rfl) (fun p e s m below meth c A C hr hnm hAe => ?_)
  have C : xC2 p s m _ meth c D A s.heap 5 cX11_rota RX11 (xTY cy) := C
  have hB : FB (fun i k : Nat => (124 ≤ i ∧ i ≤ 125) ∨ (58 ≤ i ∧ i ≤ 59) ∨ (39 ≤ i ∧ i ≤ 57) ∨ (69 ≤ i ∧ i ≤ 71)) V V := FB.rf _ _
  have hF := Imp.of_eq (f_s_rota.eq_def x1 x2 x3 V J Rr)
  refine x_aload_n C.1 dX11_rota_0 0 rfl ?_
  refine x_getA C (N := 129) (i := 0) (by decide) rfl vc_X11 wx_X11 0 (by decide) wf_X11_10 (a := 1) rfl dX11_rota_1 ?_
  refine x_iload_n C.1 dX11_rota_4 1 rfl ?_
  refine x_callVi C (As := [vI x1]) (rest := []) 1 (xw_at (N := 129) (i := 1) (by omega) (xd_L (Or.inl rfl))) vc_X3 (s_isAlive l D cy ad G V J Rr hI hJ hR 1 (Or.inl rfl) x1 ⟨by omega, by omega⟩) (l1 := []) (l2 := []) (List.append_nil _).symm (w2 := fun _ => XW cy ad V J Rr) (fun _ => List.append_nil _) rfl wm_yX3_isAlive wn_X3 wl_X11_103 wi_yX3_isAlive we_yX3_isAlive hd_yX3_isAlive rfl ⟨Nat.le_of_ble_eq_true rfl, Nat.le_of_ble_eq_true rfl⟩ (Nat.le_of_ble_eq_true rfl) ⟨Nat.le_of_ble_eq_true rfl, Nat.le_of_ble_eq_true rfl⟩ dX11_rota_5 (fun z1 u1 bz1 h1 => ?_)
  obtain ⟨hon1, hFc1⟩ := h1
  replace hF := calR_i hF hFc1
  replace hF := hF.fc hon1.r
  have bq1 := Sp.r hon1
  refine x_if_eq C.1 (tgt := 32) dX11_rota_8 (by decide) (by omega) (fun hc2 => ?_) (fun hc2 => ?_)
  · replace hF := hF.to (if_pos hc2)
    refine x_iconst C.1 (n := -1) dX11_rota_32 ?_
    exact x_iret (S := (Nat → Nat → Int)) (post := (fun a (u : Nat → Nat → Int) => XI G u ∧ FB (fun i k : Nat => (124 ≤ i ∧ i ≤ 125) ∨ (58 ≤ i ∧ i ≤ 59) ∨ (39 ≤ i ∧ i ≤ 57) ∨ (69 ≤ i ∧ i ≤ 71)) V u ∧ (f_s_rota x1 x2 x3 V J Rr) (a, u))) (w1 := (fun u : Nat → Nat → Int => XW cy ad u J Rr)) (a := (-1)) C hr rfl dX11_rota_33 (by decide) V rfl ⟨hI, hB, hF _ rfl⟩
  · replace hF := hF.to (if_neg hc2)
    have hon3 := Sp.on hon1 (by omega)
    refine x_iload_n C.1 dX11_rota_11 2 rfl ?_
    refine x_iconst C.1 (n := 1) dX11_rota_12 ?_
    refine x_bipush C.1 (n := 90) dX11_rota_13 ?_
    refine x_callSi C (As := [vI x2, vI 1, vI 90]) (rest := []) (s_isWithin l D cy x2 ⟨by omega, by omega⟩ 1 ⟨by decide, by decide⟩ 90 ⟨by decide, by decide⟩) (l1 := []) (l2 := _) rfl (w2 := fun _ => _) (fun _ => rfl) rfl wm_yX11_isWithin wn_X11 wl_X11_74 wi_yX11_isWithin hd_yX11_isWithin rfl ⟨Nat.le_of_ble_eq_true rfl, Nat.le_of_ble_eq_true rfl⟩ (Nat.le_of_ble_eq_true rfl) ⟨Nat.le_of_ble_eq_true rfl, Nat.le_of_ble_eq_true rfl⟩ dX11_rota_15 (fun z4 u4 bz4 h4 => ?_)
    obtain ⟨bq4, hx4_0, hFc4⟩ := h4
    replace hF := calR_i hF hFc4
    replace hF := hF.fc bq4
    refine x_if_eq C.1 (tgt := 32) dX11_rota_18 (by decide) (by omega) (fun hc5 => ?_) (fun hc5 => ?_)
    · replace hF := hF.to (if_pos hc5)
      refine x_iconst C.1 (n := -1) dX11_rota_32 ?_
      exact x_iret (S := (Nat → Nat → Int)) (post := (fun a (u : Nat → Nat → Int) => XI G u ∧ FB (fun i k : Nat => (124 ≤ i ∧ i ≤ 125) ∨ (58 ≤ i ∧ i ≤ 59) ∨ (39 ≤ i ∧ i ≤ 57) ∨ (69 ≤ i ∧ i ≤ 71)) V u ∧ (f_s_rota x1 x2 x3 V J Rr) (a, u))) (w1 := (fun u : Nat → Nat → Int => XW cy ad u J Rr)) (a := (-1)) C hr rfl dX11_rota_33 (by decide) V rfl ⟨hI, hB, hF _ rfl⟩
    · replace hF := hF.to (if_neg hc5)
      have hon6 := Sq.on hx4_0 (by omega)
      refine x_iload_n C.1 dX11_rota_21 2 rfl ?_
      refine x_aload_n C.1 dX11_rota_22 0 rfl ?_
      refine x_getA C (N := 129) (i := 0) (by decide) rfl vc_X11 wx_X11 4 (by decide) wf_X11_25 (a := 58) rfl dX11_rota_23 ?_
      obtain ⟨z7, ez7, bz7⟩ := hI.rd 58 1 (x := 0) (y := 220) rfl
      replace hF := hF.to (rdb_e (z := z7) ez7)
      replace hF := hF.fc bz7
      refine x_getI C (N := 129) (i := 58) (by decide) rfl vc_X8 wx_X8 1 (by decide) wf_X11_120 rfl dX11_rota_26 (a := z7) ez7 ?_
      refine x_icmp_le C.1 (tgt := 34) dX11_rota_29 (by decide) (by omega) (by omega) (fun hc8 => ?_) (fun hc8 => ?_)
      · replace hF := hF.to (if_pos hc8)
        refine x_aload_n C.1 dX11_rota_34 0 rfl ?_
        refine x_getA C (N := 129) (i := 0) (by decide) rfl vc_X11 wx_X11 0 (by decide) wf_X11_10 (a := 1) rfl dX11_rota_35 ?_
        obtain ⟨z9, ez9, bz9⟩ := hI.rd 1 3 (x := -2147483648) (y := 2147483647) (rg_L (Or.inl rfl) _)
        replace hF := hF.to (rdb_e (z := z9) ez9)
        refine x_getI C (N := 129) (i := 1) (by omega) (xd_L (Or.inl rfl)) vc_X3 wx_X3 3 (by decide) wf_X11_296 rfl dX11_rota_38 (a := z9) ez9 ?_
        refine x_sipush C.1 (n := 9915) dX11_rota_41 ?_
        refine x_icmp_le C.1 (tgt := 49) dX11_rota_44 (by decide) (by omega) (by decide) (fun hc10 => ?_) (fun hc10 => ?_)
        · replace hF := hF.to (if_pos hc10)
          refine x_iload_n C.1 dX11_rota_49 3 rfl ?_
          refine x_iconst C.1 (n := 0) dX11_rota_50 ?_
          refine x_iconst C.1 (n := 2) dX11_rota_51 ?_
          refine x_callSi C (As := [vI x3, vI 0, vI 2]) (rest := []) (s_isWithin l D cy x3 ⟨by omega, by omega⟩ 0 ⟨by decide, by decide⟩ 2 ⟨by decide, by decide⟩) (l1 := []) (l2 := _) rfl (w2 := fun _ => _) (fun _ => rfl) rfl wm_yX11_isWithin wn_X11 wl_X11_74 wi_yX11_isWithin hd_yX11_isWithin rfl ⟨Nat.le_of_ble_eq_true rfl, Nat.le_of_ble_eq_true rfl⟩ (Nat.le_of_ble_eq_true rfl) ⟨Nat.le_of_ble_eq_true rfl, Nat.le_of_ble_eq_true rfl⟩ dX11_rota_52 (fun z11 u11 bz11 h11 => ?_)
          obtain ⟨bq11, hx11_0, hFc11⟩ := h11
          replace hF := calR_i hF hFc11
          replace hF := hF.fc bq11
          refine x_if_ne C.1 (tgt := 72) dX11_rota_55 (by decide) (by omega) (fun hc12 => ?_) (fun hc12 => ?_)
          · replace hF := hF.to (if_pos hc12)
            have hon13 := Sq.on hx11_0 (by omega)
            refine x_aload_n C.1 dX11_rota_72 0 rfl ?_
            refine x_getA C (N := 129) (i := 0) (by decide) rfl vc_X11 wx_X11 8 (by decide) wf_X11_55 (a := 124) rfl dX11_rota_73 ?_
            refine x_aload_n C.1 dX11_rota_76 0 rfl ?_
            refine x_getA C (N := 129) (i := 0) (by decide) rfl vc_X11 wx_X11 4 (by decide) wf_X11_25 (a := 58) rfl dX11_rota_77 ?_
            refine x_iload_n C.1 dX11_rota_80 2 rfl ?_
            refine x_aload_n C.1 dX11_rota_81 0 rfl ?_
            refine x_getA C (N := 129) (i := 0) (by decide) rfl vc_X11 wx_X11 0 (by decide) wf_X11_10 (a := 1) rfl dX11_rota_82 ?_
            refine x_callVi C (As := [.ref (ad 58), vI x2, .ref (ad 1)]) (rest := []) 124 (xw_at (N := 129) (i := 124) (by decide) rfl) vc_X7 (s_readR l D cy ad G V J Rr hI hJ hR x2 ⟨by omega, by omega⟩ 1 (Or.inl rfl)) (l1 := []) (l2 := []) (List.append_nil _).symm (w2 := fun u : Nat → Nat → Int => XW cy ad u J Rr) (fun _ => List.append_nil _) rfl wm_yX7_read wn_X7 wl_X11_299 wi_yX7_read we_yX7_read hd_yX7_read rfl ⟨Nat.le_of_ble_eq_true rfl, Nat.le_of_ble_eq_true rfl⟩ (Nat.le_of_ble_eq_true rfl) ⟨Nat.le_of_ble_eq_true rfl, Nat.le_of_ble_eq_true rfl⟩ dX11_rota_85 (fun z14 V14 bz14 h14 => ?_)
            obtain ⟨hI14, hBc14, hFc14⟩ := h14
            replace hF := calVX_i hF hFc14 hBc14
            have hB14 := hB.tr hBc14 (fun i k h => (Or.inl h))
            refine x_istore C.1 (lv' := [(4, vI z14), (0, .ref (ad 0)), (1, vI x1), (2, vI x2), (3, vI x3)]) dX11_rota_88 (by decide) rfl ?_
            refine x_aload_n C.1 dX11_rota_90 1 rfl ?_
            refine x_getA C (N := 129) (i := 0) (by decide) rfl vc_X11 wx_X11 4 (by decide) wf_X11_25 (a := 58) rfl dX11_rota_91 ?_
            refine x_iconst C.1 (n := 0) dX11_rota_94 ?_
            refine x_putI C (N := 129) (i := 58) (by decide) rfl vc_X8 wx_X8 1 (by decide) wf_X11_120 tyX8 tyX8_ok nmX8 rfl (tyX8_ok 1 (by decide)) rfl dX11_rota_95 rfl rfl ?_
            refine x_gV ?_
            intro V15 hV15
            have hI15 : XI G V15 := hI14.up hV15 rfl (by decide) rfl
            have hB15 := hB14.up hV15 (Or.inr (Or.inl (⟨by decide, by decide⟩)))
            replace hF := hF.to (rdb_e (z := V15) hV15.symm)
            refine x_iload C.1 dX11_rota_98 0 rfl ?_
            refine x_if_eq C.1 (tgt := 106) dX11_rota_100 (by decide) (by omega) (fun hc16 => ?_) (fun hc16 => ?_)
            · replace hF := hF.to (if_pos hc16)
              refine x_iload_n C.1 dX11_rota_106 4 rfl ?_
              refine x_if_ne C.1 (tgt := 118) dX11_rota_107 (by decide) (by omega) (fun hc17 => ?_) (fun hc17 => ?_)
              · replace hF := hF.to (if_pos hc17)
                refine x_iload_n C.1 dX11_rota_118 4 rfl ?_
                refine x_bipush C.1 (n := 10) dX11_rota_119 ?_
                refine x_icmp_lt_t C.1 (tgt := 138) dX11_rota_121 (by decide) (by omega) (by decide) (by omega) ?_
                refine x_aload_n C.1 dX11_rota_138 1 rfl ?_
                refine x_iload_n C.1 dX11_rota_139 2 rfl ?_
                refine x_iload_n C.1 dX11_rota_140 4 rfl ?_
                refine x_callVi C (As := [vI x1, vI x3]) (rest := []) 0 (xw_at (N := 129) (i := 0) (by decide) rfl) vc_X11 (s_rotaOn l D cy ad G V15 J Rr hI15 hJ hR x1 ⟨by omega, by omega⟩ x3 ⟨by omega, by omega⟩) (l1 := []) (l2 := []) (List.append_nil _).symm (w2 := fun u : Nat → Nat → Int => XW cy ad u J Rr) (fun _ => List.append_nil _) rfl wm_yX11_rotaOn wn_X11 wl_X11_307 wi_yX11_rotaOn we_yX11_rotaOn hd_yX11_rotaOn rfl ⟨Nat.le_of_ble_eq_true rfl, Nat.le_of_ble_eq_true rfl⟩ (Nat.le_of_ble_eq_true rfl) ⟨Nat.le_of_ble_eq_true rfl, Nat.le_of_ble_eq_true rfl⟩ dX11_rota_141 (fun z18 V18 bz18 h18 => ?_)
                obtain ⟨hI18, hBc18, hFc18⟩ := h18
                replace hF := calVX_i hF hFc18 hBc18
                have hB18 := hB15.tr hBc18 (fun i k h => (h.elim (fun h => (Or.inr (Or.inr (Or.inl h)))) (fun h => (Or.inr (Or.inr (Or.inr (h)))))))
                exact x_iret (S := (Nat → Nat → Int)) (post := (fun a (u : Nat → Nat → Int) => XI G u ∧ FB (fun i k : Nat => (124 ≤ i ∧ i ≤ 125) ∨ (58 ≤ i ∧ i ≤ 59) ∨ (39 ≤ i ∧ i ≤ 57) ∨ (69 ≤ i ∧ i ≤ 71)) V u ∧ (f_s_rota x1 x2 x3 V J Rr) (a, u))) (w1 := (fun u : Nat → Nat → Int => XW cy ad u J Rr)) (a := z18) C hr rfl dX11_rota_144 (by omega) V18 rfl ⟨hI18, hB18, hF _ rfl⟩
              · replace hF := hF.to (if_neg (fun hh => hh hc17))
                refine x_aload_n C.1 dX11_rota_110 1 rfl ?_
                refine x_getA C (N := 129) (i := 0) (by decide) rfl vc_X11 wx_X11 8 (by decide) wf_X11_55 (a := 124) rfl dX11_rota_111 ?_
                obtain ⟨z19, ez19, bz19⟩ := hI15.rd 124 1 (x := 0) (y := 84) rfl
                replace hF := hF.to (rdb_e (z := z19) ez19)
                replace hF := hF.fc bz19
                refine x_getI C (N := 129) (i := 124) (by decide) rfl vc_X7 wx_X7 1 (by decide) wf_X11_303 rfl dX11_rota_114 (a := z19) ez19 ?_
                exact x_iret (S := (Nat → Nat → Int)) (post := (fun a (u : Nat → Nat → Int) => XI G u ∧ FB (fun i k : Nat => (124 ≤ i ∧ i ≤ 125) ∨ (58 ≤ i ∧ i ≤ 59) ∨ (39 ≤ i ∧ i ≤ 57) ∨ (69 ≤ i ∧ i ≤ 71)) V u ∧ (f_s_rota x1 x2 x3 V J Rr) (a, u))) (w1 := (fun u : Nat → Nat → Int => XW cy ad u J Rr)) (a := z19) C hr rfl dX11_rota_117 (by omega) V15 rfl ⟨hI15, hB15, hF _ rfl⟩
            · replace hF := hF.to (if_neg hc16)
              refine x_iload C.1 dX11_rota_103 0 rfl ?_
              exact x_iret (S := (Nat → Nat → Int)) (post := (fun a (u : Nat → Nat → Int) => XI G u ∧ FB (fun i k : Nat => (124 ≤ i ∧ i ≤ 125) ∨ (58 ≤ i ∧ i ≤ 59) ∨ (39 ≤ i ∧ i ≤ 57) ∨ (69 ≤ i ∧ i ≤ 71)) V u ∧ (f_s_rota x1 x2 x3 V J Rr) (a, u))) (w1 := (fun u : Nat → Nat → Int => XW cy ad u J Rr)) (a := z14) C hr rfl dX11_rota_105 (by omega) V15 rfl ⟨hI15, hB15, hF _ rfl⟩
          · replace hF := hF.to (if_neg (fun hh => hh hc12))
            refine x_iload_n C.1 dX11_rota_58 3 rfl ?_
            refine x_bipush C.1 (n := 10) dX11_rota_59 ?_
            refine x_isub C.1 (v := x3 - 10) (by omega) dX11_rota_61 ?_
            refine x_wrapg ?_
            intro z20 bz20 ew20
            replace hF := hF.to (rdb_e (z := z20) ew20.symm)
            refine x_bipush C.1 (n := 8) dX11_rota_62 ?_
            refine x_callSi C (As := [vI z20, vI 8]) (rest := []) (s_isPlace l D cy z20 ⟨by omega, by omega⟩ 8 ⟨by decide, by decide⟩) (l1 := []) (l2 := _) rfl (w2 := fun _ => _) (fun _ => rfl) rfl wm_yX11_isPlace wn_X11 wl_X11_70 wi_yX11_isPlace hd_yX11_isPlace rfl ⟨Nat.le_of_ble_eq_true rfl, Nat.le_of_ble_eq_true rfl⟩ (Nat.le_of_ble_eq_true rfl) ⟨Nat.le_of_ble_eq_true rfl, Nat.le_of_ble_eq_true rfl⟩ dX11_rota_64 (fun z21 u21 bz21 h21 => ?_)
            obtain ⟨bq21, hx21_0, hFc21⟩ := h21
            replace hF := calR_i hF hFc21
            replace hF := hF.fc bq21
            refine x_if_ne C.1 (tgt := 72) dX11_rota_67 (by decide) (by omega) (fun hc22 => ?_) (fun hc22 => ?_)
            · replace hF := hF.to (if_pos hc22)
              have hon23 := Sq.on hx21_0 (by omega)
              refine x_aload_n C.1 dX11_rota_72 0 rfl ?_
              refine x_getA C (N := 129) (i := 0) (by decide) rfl vc_X11 wx_X11 8 (by decide) wf_X11_55 (a := 124) rfl dX11_rota_73 ?_
              refine x_aload_n C.1 dX11_rota_76 0 rfl ?_
              refine x_getA C (N := 129) (i := 0) (by decide) rfl vc_X11 wx_X11 4 (by decide) wf_X11_25 (a := 58) rfl dX11_rota_77 ?_
              refine x_iload_n C.1 dX11_rota_80 2 rfl ?_
              refine x_aload_n C.1 dX11_rota_81 0 rfl ?_
              refine x_getA C (N := 129) (i := 0) (by decide) rfl vc_X11 wx_X11 0 (by decide) wf_X11_10 (a := 1) rfl dX11_rota_82 ?_
              refine x_callVi C (As := [.ref (ad 58), vI x2, .ref (ad 1)]) (rest := []) 124 (xw_at (N := 129) (i := 124) (by decide) rfl) vc_X7 (s_readR l D cy ad G V J Rr hI hJ hR x2 ⟨by omega, by omega⟩ 1 (Or.inl rfl)) (l1 := []) (l2 := []) (List.append_nil _).symm (w2 := fun u : Nat → Nat → Int => XW cy ad u J Rr) (fun _ => List.append_nil _) rfl wm_yX7_read wn_X7 wl_X11_299 wi_yX7_read we_yX7_read hd_yX7_read rfl ⟨Nat.le_of_ble_eq_true rfl, Nat.le_of_ble_eq_true rfl⟩ (Nat.le_of_ble_eq_true rfl) ⟨Nat.le_of_ble_eq_true rfl, Nat.le_of_ble_eq_true rfl⟩ dX11_rota_85 (fun z24 V24 bz24 h24 => ?_)
              obtain ⟨hI24, hBc24, hFc24⟩ := h24
              replace hF := calVX_i hF hFc24 hBc24
              have hB24 := hB.tr hBc24 (fun i k h => (Or.inl h))
              refine x_istore C.1 (lv' := [(4, vI z24), (0, .ref (ad 0)), (1, vI x1), (2, vI x2), (3, vI x3)]) dX11_rota_88 (by decide) rfl ?_
              refine x_aload_n C.1 dX11_rota_90 1 rfl ?_
              refine x_getA C (N := 129) (i := 0) (by decide) rfl vc_X11 wx_X11 4 (by decide) wf_X11_25 (a := 58) rfl dX11_rota_91 ?_
              refine x_iconst C.1 (n := 0) dX11_rota_94 ?_
              refine x_putI C (N := 129) (i := 58) (by decide) rfl vc_X8 wx_X8 1 (by decide) wf_X11_120 tyX8 tyX8_ok nmX8 rfl (tyX8_ok 1 (by decide)) rfl dX11_rota_95 rfl rfl ?_
              refine x_gV ?_
              intro V25 hV25
              have hI25 : XI G V25 := hI24.up hV25 rfl (by decide) rfl
              have hB25 := hB24.up hV25 (Or.inr (Or.inl (⟨by decide, by decide⟩)))
              replace hF := hF.to (rdb_e (z := V25) hV25.symm)
              refine x_iload C.1 dX11_rota_98 0 rfl ?_
              refine x_if_eq C.1 (tgt := 106) dX11_rota_100 (by decide) (by omega) (fun hc26 => ?_) (fun hc26 => ?_)
              · replace hF := hF.to (if_pos hc26)
                refine x_iload_n C.1 dX11_rota_106 4 rfl ?_
                refine x_if_ne C.1 (tgt := 118) dX11_rota_107 (by decide) (by omega) (fun hc27 => ?_) (fun hc27 => ?_)
                · replace hF := hF.to (if_pos hc27)
                  refine x_iload_n C.1 dX11_rota_118 4 rfl ?_
                  refine x_bipush C.1 (n := 10) dX11_rota_119 ?_
                  refine x_icmp_lt C.1 (tgt := 138) dX11_rota_121 (by decide) (by omega) (by decide) (fun hc28 => ?_) (fun hc28 => ?_)
                  · replace hF := hF.to (if_pos hc28)
                    refine x_aload_n C.1 dX11_rota_138 1 rfl ?_
                    refine x_iload_n C.1 dX11_rota_139 2 rfl ?_
                    refine x_iload_n C.1 dX11_rota_140 4 rfl ?_
                    refine x_callVi C (As := [vI x1, vI x3]) (rest := []) 0 (xw_at (N := 129) (i := 0) (by decide) rfl) vc_X11 (s_rotaOn l D cy ad G V25 J Rr hI25 hJ hR x1 ⟨by omega, by omega⟩ x3 ⟨by omega, by omega⟩) (l1 := []) (l2 := []) (List.append_nil _).symm (w2 := fun u : Nat → Nat → Int => XW cy ad u J Rr) (fun _ => List.append_nil _) rfl wm_yX11_rotaOn wn_X11 wl_X11_307 wi_yX11_rotaOn we_yX11_rotaOn hd_yX11_rotaOn rfl ⟨Nat.le_of_ble_eq_true rfl, Nat.le_of_ble_eq_true rfl⟩ (Nat.le_of_ble_eq_true rfl) ⟨Nat.le_of_ble_eq_true rfl, Nat.le_of_ble_eq_true rfl⟩ dX11_rota_141 (fun z29 V29 bz29 h29 => ?_)
                    obtain ⟨hI29, hBc29, hFc29⟩ := h29
                    replace hF := calVX_i hF hFc29 hBc29
                    have hB29 := hB25.tr hBc29 (fun i k h => (h.elim (fun h => (Or.inr (Or.inr (Or.inl h)))) (fun h => (Or.inr (Or.inr (Or.inr (h)))))))
                    exact x_iret (S := (Nat → Nat → Int)) (post := (fun a (u : Nat → Nat → Int) => XI G u ∧ FB (fun i k : Nat => (124 ≤ i ∧ i ≤ 125) ∨ (58 ≤ i ∧ i ≤ 59) ∨ (39 ≤ i ∧ i ≤ 57) ∨ (69 ≤ i ∧ i ≤ 71)) V u ∧ (f_s_rota x1 x2 x3 V J Rr) (a, u))) (w1 := (fun u : Nat → Nat → Int => XW cy ad u J Rr)) (a := z29) C hr rfl dX11_rota_144 (by omega) V29 rfl ⟨hI29, hB29, hF _ rfl⟩
                  · replace hF := hF.to (if_neg hc28)
                    refine x_aload_n C.1 dX11_rota_124 1 rfl ?_
                    refine x_getA C (N := 129) (i := 0) (by decide) rfl vc_X11 wx_X11 8 (by decide) wf_X11_55 (a := 124) rfl dX11_rota_125 ?_
                    refine x_iload_n C.1 dX11_rota_128 4 rfl ?_
                    refine x_bipush C.1 (n := 10) dX11_rota_129 ?_
                    refine x_isub C.1 (v := x3 - 10) (by omega) dX11_rota_131 ?_
                    refine x_callVi C (As := [vI (x3 - 10)]) (rest := []) 124 (xw_at (N := 129) (i := 124) (by decide) rfl) vc_X7 (s_daysOf l D cy ad G V25 J Rr hI25 hJ hR (x3 - 10) ⟨by omega, by omega⟩) (l1 := []) (l2 := []) (List.append_nil _).symm (w2 := fun _ => XW cy ad V25 J Rr) (fun _ => List.append_nil _) rfl wm_yX7_daysOf wn_X7 wl_X11_304 wi_yX7_daysOf we_yX7_daysOf hd_yX7_daysOf rfl ⟨Nat.le_of_ble_eq_true rfl, Nat.le_of_ble_eq_true rfl⟩ (Nat.le_of_ble_eq_true rfl) ⟨Nat.le_of_ble_eq_true rfl, Nat.le_of_ble_eq_true rfl⟩ dX11_rota_132 (fun z30 u30 bz30 h30 => ?_)
                    have hFc30 := h30
                    replace hF := calR_i hF hFc30
                    refine x_goto C.1 (tgt := 144) dX11_rota_135 (by decide) ?_
                    exact x_iret (S := (Nat → Nat → Int)) (post := (fun a (u : Nat → Nat → Int) => XI G u ∧ FB (fun i k : Nat => (124 ≤ i ∧ i ≤ 125) ∨ (58 ≤ i ∧ i ≤ 59) ∨ (39 ≤ i ∧ i ≤ 57) ∨ (69 ≤ i ∧ i ≤ 71)) V u ∧ (f_s_rota x1 x2 x3 V J Rr) (a, u))) (w1 := (fun u : Nat → Nat → Int => XW cy ad u J Rr)) (a := z30) C hr rfl dX11_rota_144 (by omega) V25 rfl ⟨hI25, hB25, hF _ rfl⟩
                · replace hF := hF.to (if_neg (fun hh => hh hc27))
                  refine x_aload_n C.1 dX11_rota_110 1 rfl ?_
                  refine x_getA C (N := 129) (i := 0) (by decide) rfl vc_X11 wx_X11 8 (by decide) wf_X11_55 (a := 124) rfl dX11_rota_111 ?_
                  obtain ⟨z31, ez31, bz31⟩ := hI25.rd 124 1 (x := 0) (y := 84) rfl
                  replace hF := hF.to (rdb_e (z := z31) ez31)
                  replace hF := hF.fc bz31
                  refine x_getI C (N := 129) (i := 124) (by decide) rfl vc_X7 wx_X7 1 (by decide) wf_X11_303 rfl dX11_rota_114 (a := z31) ez31 ?_
                  exact x_iret (S := (Nat → Nat → Int)) (post := (fun a (u : Nat → Nat → Int) => XI G u ∧ FB (fun i k : Nat => (124 ≤ i ∧ i ≤ 125) ∨ (58 ≤ i ∧ i ≤ 59) ∨ (39 ≤ i ∧ i ≤ 57) ∨ (69 ≤ i ∧ i ≤ 71)) V u ∧ (f_s_rota x1 x2 x3 V J Rr) (a, u))) (w1 := (fun u : Nat → Nat → Int => XW cy ad u J Rr)) (a := z31) C hr rfl dX11_rota_117 (by omega) V25 rfl ⟨hI25, hB25, hF _ rfl⟩
              · replace hF := hF.to (if_neg hc26)
                refine x_iload C.1 dX11_rota_103 0 rfl ?_
                exact x_iret (S := (Nat → Nat → Int)) (post := (fun a (u : Nat → Nat → Int) => XI G u ∧ FB (fun i k : Nat => (124 ≤ i ∧ i ≤ 125) ∨ (58 ≤ i ∧ i ≤ 59) ∨ (39 ≤ i ∧ i ≤ 57) ∨ (69 ≤ i ∧ i ≤ 71)) V u ∧ (f_s_rota x1 x2 x3 V J Rr) (a, u))) (w1 := (fun u : Nat → Nat → Int => XW cy ad u J Rr)) (a := z24) C hr rfl dX11_rota_105 (by omega) V25 rfl ⟨hI25, hB25, hF _ rfl⟩
            · replace hF := hF.to (if_neg (fun hh => hh hc22))
              refine x_iconst C.1 (n := -1) dX11_rota_70 ?_
              exact x_iret (S := (Nat → Nat → Int)) (post := (fun a (u : Nat → Nat → Int) => XI G u ∧ FB (fun i k : Nat => (124 ≤ i ∧ i ≤ 125) ∨ (58 ≤ i ∧ i ≤ 59) ∨ (39 ≤ i ∧ i ≤ 57) ∨ (69 ≤ i ∧ i ≤ 71)) V u ∧ (f_s_rota x1 x2 x3 V J Rr) (a, u))) (w1 := (fun u : Nat → Nat → Int => XW cy ad u J Rr)) (a := (-1)) C hr rfl dX11_rota_71 (by decide) V rfl ⟨hI, hB, hF _ rfl⟩
        · replace hF := hF.to (if_neg hc10)
          refine x_iconst C.1 (n := -1) dX11_rota_47 ?_
          exact x_iret (S := (Nat → Nat → Int)) (post := (fun a (u : Nat → Nat → Int) => XI G u ∧ FB (fun i k : Nat => (124 ≤ i ∧ i ≤ 125) ∨ (58 ≤ i ∧ i ≤ 59) ∨ (39 ≤ i ∧ i ≤ 57) ∨ (69 ≤ i ∧ i ≤ 71)) V u ∧ (f_s_rota x1 x2 x3 V J Rr) (a, u))) (w1 := (fun u : Nat → Nat → Int => XW cy ad u J Rr)) (a := (-1)) C hr rfl dX11_rota_48 (by decide) V rfl ⟨hI, hB, hF _ rfl⟩
      · replace hF := hF.to (if_neg hc8)
        refine x_iconst C.1 (n := -1) dX11_rota_32 ?_
        exact x_iret (S := (Nat → Nat → Int)) (post := (fun a (u : Nat → Nat → Int) => XI G u ∧ FB (fun i k : Nat => (124 ≤ i ∧ i ≤ 125) ∨ (58 ≤ i ∧ i ≤ 59) ∨ (39 ≤ i ∧ i ≤ 57) ∨ (69 ≤ i ∧ i ≤ 71)) V u ∧ (f_s_rota x1 x2 x3 V J Rr) (a, u))) (w1 := (fun u : Nat → Nat → Int => XW cy ad u J Rr)) (a := (-1)) C hr rfl dX11_rota_33 (by decide) V rfl ⟨hI, hB, hF _ rfl⟩
theorem hd_yX11_evenTenths : yX11_evenTenths.cls ≠ "java/lang/invoke/MethodHandle" ∧ yX11_evenTenths.cls ≠ "java/lang/invoke/VarHandle" ∧ (parseMethodDescriptor yX11_evenTenths.desc).map (fun d => d.parameters.length) = some 1 := by decide +kernel
theorem hd_yX11_nobodyGains : yX11_nobodyGains.cls ≠ "java/lang/invoke/MethodHandle" ∧ yX11_nobodyGains.cls ≠ "java/lang/invoke/VarHandle" ∧ (parseMethodDescriptor yX11_nobodyGains.desc).map (fun d => d.parameters.length) = some 2 := by decide +kernel
theorem hd_yX1_setPrices : yX1_setPrices.cls ≠ "java/lang/invoke/MethodHandle" ∧ yX1_setPrices.cls ≠ "java/lang/invoke/VarHandle" ∧ (parseMethodDescriptor yX1_setPrices.desc).map (fun d => d.parameters.length) = some 2 := by decide +kernel
theorem dX11_alone_0 : decode cX11_alone 0 = .ok (.iload_n 1, 1) := by decide +kernel
theorem dX11_alone_1 : decode cX11_alone 1 = .ok (.iconst 2, 1) := by decide +kernel
theorem dX11_alone_2 : decode cX11_alone 2 = .ok (.bipush 6, 2) := by decide +kernel
theorem dX11_alone_4 : decode cX11_alone 4 = .ok (.invokestatic 74, 3) := by decide +kernel
theorem dX11_alone_7 : decode cX11_alone 7 = .ok (.ifCond .eq 12, 3) := by decide +kernel
theorem dX11_alone_10 : decode cX11_alone 10 = .ok (.iload_n 2, 1) := by decide +kernel
theorem dX11_alone_11 : decode cX11_alone 11 = .ok (.iconst 0, 1) := by decide +kernel
theorem dX11_alone_12 : decode cX11_alone 12 = .ok (.iconst 2, 1) := by decide +kernel
theorem dX11_alone_13 : decode cX11_alone 13 = .ok (.invokestatic 74, 3) := by decide +kernel
theorem dX11_alone_16 : decode cX11_alone 16 = .ok (.ifCond .ne 5, 3) := by decide +kernel
theorem dX11_alone_19 : decode cX11_alone 19 = .ok (.iconst (-1), 1) := by decide +kernel
theorem dX11_alone_20 : decode cX11_alone 20 = .ok (.ireturn, 1) := by decide +kernel
theorem dX11_alone_21 : decode cX11_alone 21 = .ok (.aload_n 0, 1) := by decide +kernel
theorem dX11_alone_22 : decode cX11_alone 22 = .ok (.getfield 34, 3) := by decide +kernel
theorem dX11_alone_25 : decode cX11_alone 25 = .ok (.aload_n 0, 1) := by decide +kernel
theorem dX11_alone_26 : decode cX11_alone 26 = .ok (.getfield 10, 3) := by decide +kernel
theorem dX11_alone_29 : decode cX11_alone 29 = .ok (.iload_n 1, 1) := by decide +kernel
theorem dX11_alone_30 : decode cX11_alone 30 = .ok (.invokevirtual 310, 3) := by decide +kernel
theorem dX11_alone_33 : decode cX11_alone 33 = .ok (.iload_n 2, 1) := by decide +kernel
theorem dX11_alone_34 : decode cX11_alone 34 = .ok (.iconst 2, 1) := by decide +kernel
theorem dX11_alone_35 : decode cX11_alone 35 = .ok (.if_icmp .ne 9, 3) := by decide +kernel
theorem dX11_alone_38 : decode cX11_alone 38 = .ok (.aload_n 0, 1) := by decide +kernel
theorem dX11_alone_39 : decode cX11_alone 39 = .ok (.iload_n 1, 1) := by decide +kernel
theorem dX11_alone_40 : decode cX11_alone 40 = .ok (.invokevirtual 314, 3) := by decide +kernel
theorem dX11_alone_43 : decode cX11_alone 43 = .ok (.ireturn, 1) := by decide +kernel
theorem dX11_alone_44 : decode cX11_alone 44 = .ok (.iconst 0, 1) := by decide +kernel
theorem dX11_alone_45 : decode cX11_alone 45 = .ok (.istore_n 3, 1) := by decide +kernel
theorem dX11_alone_46 : decode cX11_alone 46 = .ok (.bipush (-2), 2) := by decide +kernel
theorem dX11_alone_48 : decode cX11_alone 48 = .ok (.istore 4, 2) := by decide +kernel
theorem dX11_alone_50 : decode cX11_alone 50 = .ok (.iconst 0, 1) := by decide +kernel
theorem dX11_alone_51 : decode cX11_alone 51 = .ok (.istore 5, 2) := by decide +kernel
theorem dX11_alone_53 : decode cX11_alone 53 = .ok (.iload 5, 2) := by decide +kernel
theorem dX11_alone_55 : decode cX11_alone 55 = .ok (.iconst 1, 1) := by decide +kernel
theorem dX11_alone_56 : decode cX11_alone 56 = .ok (.iload_n 1, 1) := by decide +kernel
theorem dX11_alone_57 : decode cX11_alone 57 = .ok (.ishl, 1) := by decide +kernel
theorem dX11_alone_58 : decode cX11_alone 58 = .ok (.if_icmp .ge 38, 3) := by decide +kernel
theorem dX11_alone_61 : decode cX11_alone 61 = .ok (.aload_n 0, 1) := by decide +kernel
theorem dX11_alone_62 : decode cX11_alone 62 = .ok (.iload 5, 2) := by decide +kernel
theorem dX11_alone_64 : decode cX11_alone 64 = .ok (.iload_n 1, 1) := by decide +kernel
theorem dX11_alone_65 : decode cX11_alone 65 = .ok (.invokevirtual 317, 3) := by decide +kernel
theorem dX11_alone_68 : decode cX11_alone 68 = .ok (.ifCond .eq 22, 3) := by decide +kernel
theorem dX11_alone_71 : decode cX11_alone 71 = .ok (.iinc 3 1, 3) := by decide +kernel
theorem dX11_alone_74 : decode cX11_alone 74 = .ok (.iload 4, 2) := by decide +kernel
theorem dX11_alone_76 : decode cX11_alone 76 = .ok (.bipush (-2), 2) := by decide +kernel
theorem dX11_alone_78 : decode cX11_alone 78 = .ok (.if_icmp .ne 8, 3) := by decide +kernel
theorem dX11_alone_81 : decode cX11_alone 81 = .ok (.iload 5, 2) := by decide +kernel
theorem dX11_alone_83 : decode cX11_alone 83 = .ok (.goto 5, 3) := by decide +kernel
theorem dX11_alone_86 : decode cX11_alone 86 = .ok (.iload 4, 2) := by decide +kernel
theorem dX11_alone_88 : decode cX11_alone 88 = .ok (.istore 4, 2) := by decide +kernel
theorem dX11_alone_90 : decode cX11_alone 90 = .ok (.iinc 5 1, 3) := by decide +kernel
theorem dX11_alone_93 : decode cX11_alone 93 = .ok (.goto (-40), 3) := by decide +kernel
theorem dX11_alone_96 : decode cX11_alone 96 = .ok (.iload_n 2, 1) := by decide +kernel
theorem dX11_alone_97 : decode cX11_alone 97 = .ok (.ifCond .ne 7, 3) := by decide +kernel
theorem dX11_alone_100 : decode cX11_alone 100 = .ok (.iload_n 3, 1) := by decide +kernel
theorem dX11_alone_101 : decode cX11_alone 101 = .ok (.goto 5, 3) := by decide +kernel
theorem dX11_alone_104 : decode cX11_alone 104 = .ok (.iload 4, 2) := by decide +kernel
theorem dX11_alone_106 : decode cX11_alone 106 = .ok (.ireturn, 1) := by decide +kernel
set_option maxRecDepth 100000 in
def f_s_alone (x1 : Int) (x2 : Int) (V : Nat → Nat → Int) (J : Nat → Nat → Int) (Rr : Nat → Nat → Nat) : (Int × (Nat → Nat → Int)) → Prop :=
  calR (f_s_isWithin x1 2 6) fun z1 => fct (0 ≤ z1 ∧ z1 ≤ 1) <| (if z1 = 0 then rtn ((-1), V) else calR (f_s_isWithin x2 0 2) fun z4 => fct (0 ≤ z4 ∧ z4 ≤ 1) <| (if ¬ z4 = 0 then calUX (fun i k : Nat => (70 ≤ i ∧ i ≤ 70) ∨ (69 ≤ i ∧ i ≤ 71) ∨ (67 ≤ i ∧ i ≤ 68)) V (f_s_setPrices 1 x1 V J Rr) fun V7 => (if ¬ x2 = 2 then lop3 (2147483649) (fun rc173 (z170 : Int) (z171 : Int) (z172 : Int) => rdb (iShl 1 x1) fun z203 => (if z203 ≤ z170 then (if ¬ x2 = 0 then rtn (z171, V7) else rtn (z172, V7)) else calR (f_s_nobodyGains z170 x1 V7 J Rr) fun z219 => fct (0 ≤ z219 ∧ z219 ≤ 1) <| jnk (fun (z224 : Int) (z225 : Int) => rc173 (z170 + 1) z224 z225) fun jf226 => (if z219 = 0 then jf226 z171 z172 else rdb (wr (z172 + 1)) fun z228 => jnk (fun (z229 : Int) => jf226 z229 z228) fun jf230 => (if ¬ z171 = (-2) then jf230 z171 else jf230 z170)))) 0 ((-2)) 0 else calR (f_s_evenTenths x1 V7 J Rr) fun z232 => rtn (z232, V7)) else rtn ((-1), V)))
set_option maxHeartbeats 8000000 in
set_option maxRecDepth 100000 in
theorem s_alone (l : Launch) (D : va_G) (cy : Nat → ClassId) (ad : Nat → Nat) (G : Nat → Nat → Int) (V J : Nat → Nat → Int) (Rr : Nat → Nat → Nat) (hI : XI G V) (hJ : VJ J) (hR : XR Rr) (x1 : Int) (bx1 : -2147483648 ≤ x1 ∧ x1 ≤ 2147483647) (x2 : Int) (bx2 : -2147483648 ≤ x2 ∧ x2 ≤ 2147483647) : xMi l D (xTY cy) yX11_alone cX11_alone 6 (some .int) 4 99 0 0 [.ref (ad 0), vI x1, vI x2] (XW cy ad V J Rr) (fun u : Nat → Nat → Int => XW cy ad u J Rr) (fun a (u : Nat → Nat → Int) => XI G u ∧ FB (fun i k : Nat => (70 ≤ i ∧ i ≤ 70) ∨ (69 ≤ i ∧ i ≤ 71) ∨ (67 ≤ i ∧ i ≤ 68)) V u ∧ (f_s_alone x1 x2 V J Rr) (a, u)) := by
  refine xMi.mk (lv0 := [(0, .ref (ad 0)), (1, vI x1), (2, vI x2)]) (by decide) rfl (Nat.le_of_ble_eq_true rfl) (fun p e s m below meth c A C hr hnm hAe => ?_)
  have C : xC2 p s m _ meth c D A s.heap 6 cX11_alone RX11 (xTY cy) := C
  have hB : FB (fun i k : Nat => (70 ≤ i ∧ i ≤ 70) ∨ (69 ≤ i ∧ i ≤ 71) ∨ (67 ≤ i ∧ i ≤ 68)) V V := FB.rf _ _
  have hF := Imp.of_eq (f_s_alone.eq_def x1 x2 V J Rr)
  refine x_iload_n C.1 dX11_alone_0 1 rfl ?_
  refine x_iconst C.1 (n := 2) dX11_alone_1 ?_
  refine x_bipush C.1 (n := 6) dX11_alone_2 ?_
  refine x_callSi C (As := [vI x1, vI 2, vI 6]) (rest := []) (s_isWithin l D cy x1 ⟨by omega, by omega⟩ 2 ⟨by decide, by decide⟩ 6 ⟨by decide, by decide⟩) (l1 := []) (l2 := _) rfl (w2 := fun _ => _) (fun _ => rfl) rfl wm_yX11_isWithin wn_X11 wl_X11_74 wi_yX11_isWithin hd_yX11_isWithin rfl ⟨Nat.le_of_ble_eq_true rfl, Nat.le_of_ble_eq_true rfl⟩ (Nat.le_of_ble_eq_true rfl) ⟨Nat.le_of_ble_eq_true rfl, Nat.le_of_ble_eq_true rfl⟩ dX11_alone_4 (fun z1 u1 bz1 h1 => ?_)
  obtain ⟨bq1, hx1_0, hFc1⟩ := h1
  replace hF := calR_i hF hFc1
  replace hF := hF.fc bq1
  refine x_if_eq C.1 (tgt := 19) dX11_alone_7 (by decide) (by omega) (fun hc2 => ?_) (fun hc2 => ?_)
  · replace hF := hF.to (if_pos hc2)
    refine x_iconst C.1 (n := -1) dX11_alone_19 ?_
    exact x_iret (S := (Nat → Nat → Int)) (post := (fun a (u : Nat → Nat → Int) => XI G u ∧ FB (fun i k : Nat => (70 ≤ i ∧ i ≤ 70) ∨ (69 ≤ i ∧ i ≤ 71) ∨ (67 ≤ i ∧ i ≤ 68)) V u ∧ (f_s_alone x1 x2 V J Rr) (a, u))) (w1 := (fun u : Nat → Nat → Int => XW cy ad u J Rr)) (a := (-1)) C hr rfl dX11_alone_20 (by decide) V rfl ⟨hI, hB, hF _ rfl⟩
  · replace hF := hF.to (if_neg hc2)
    have hon3 := Sq.on hx1_0 (by omega)
    refine x_iload_n C.1 dX11_alone_10 2 rfl ?_
    refine x_iconst C.1 (n := 0) dX11_alone_11 ?_
    refine x_iconst C.1 (n := 2) dX11_alone_12 ?_
    refine x_callSi C (As := [vI x2, vI 0, vI 2]) (rest := []) (s_isWithin l D cy x2 ⟨by omega, by omega⟩ 0 ⟨by decide, by decide⟩ 2 ⟨by decide, by decide⟩) (l1 := []) (l2 := _) rfl (w2 := fun _ => _) (fun _ => rfl) rfl wm_yX11_isWithin wn_X11 wl_X11_74 wi_yX11_isWithin hd_yX11_isWithin rfl ⟨Nat.le_of_ble_eq_true rfl, Nat.le_of_ble_eq_true rfl⟩ (Nat.le_of_ble_eq_true rfl) ⟨Nat.le_of_ble_eq_true rfl, Nat.le_of_ble_eq_true rfl⟩ dX11_alone_13 (fun z4 u4 bz4 h4 => ?_)
    obtain ⟨bq4, hx4_0, hFc4⟩ := h4
    replace hF := calR_i hF hFc4
    replace hF := hF.fc bq4
    refine x_if_ne C.1 (tgt := 21) dX11_alone_16 (by decide) (by omega) (fun hc5 => ?_) (fun hc5 => ?_)
    · replace hF := hF.to (if_pos hc5)
      have hon6 := Sq.on hx4_0 (by omega)
      refine x_aload_n C.1 dX11_alone_21 0 rfl ?_
      refine x_getA C (N := 129) (i := 0) (by decide) rfl vc_X11 wx_X11 5 (by decide) wf_X11_34 (a := 60) rfl dX11_alone_22 ?_
      refine x_aload_n C.1 dX11_alone_25 0 rfl ?_
      refine x_getA C (N := 129) (i := 0) (by decide) rfl vc_X11 wx_X11 0 (by decide) wf_X11_10 (a := 1) rfl dX11_alone_26 ?_
      refine x_iload_n C.1 dX11_alone_29 1 rfl ?_
      refine x_callVv C (As := [.ref (ad 1), vI x1]) (rest := []) 60 (xw_at (N := 129) (i := 60) (by decide) rfl) vc_X1 (s_setPrices l D cy ad G V J Rr hI hJ hR 1 (Or.inl rfl) x1 ⟨by omega, by omega⟩) (l1 := []) (l2 := []) (List.append_nil _).symm (w2 := fun u : Nat → Nat → Int => XW cy ad u J Rr) (fun _ => List.append_nil _) rfl wm_yX1_setPrices wn_X1 wl_X11_310 wi_yX1_setPrices we_yX1_setPrices hd_yX1_setPrices rfl ⟨Nat.le_of_ble_eq_true rfl, Nat.le_of_ble_eq_true rfl⟩ (Nat.le_of_ble_eq_true rfl) ⟨Nat.le_of_ble_eq_true rfl, Nat.le_of_ble_eq_true rfl⟩ dX11_alone_30 (fun V7 h7 => ?_)
      obtain ⟨hI7, hBc7, hFc7⟩ := h7
      replace hF := calUX_i hF hFc7 hBc7
      have hB7 := hB.tr hBc7 (fun i k h => (h.elim (fun h => (Or.inl h)) (fun h => (h.elim (fun h => (Or.inr (Or.inl h))) (fun h => (Or.inr (Or.inr (h))))))))
      refine x_iload_n C.1 dX11_alone_33 2 rfl ?_
      refine x_iconst C.1 (n := 2) dX11_alone_34 ?_
      refine x_icmp_ne C.1 (tgt := 44) dX11_alone_35 (by decide) (by omega) (by decide) (fun hc8 => ?_) (fun hc8 => ?_)
      · replace hF := hF.to (if_pos hc8)
        refine x_iconst C.1 (n := 0) dX11_alone_44 ?_
        refine x_istore_n C.1 (lv' := [(3, vI 0), (0, .ref (ad 0)), (1, vI x1), (2, vI x2)]) dX11_alone_45 (by decide) rfl ?_
        refine x_bipush C.1 (n := -2) dX11_alone_46 ?_
        refine x_istore C.1 (lv' := [(4, vI (-2)), (3, vI 0), (0, .ref (ad 0)), (1, vI x1), (2, vI x2)]) dX11_alone_48 (by decide) rfl ?_
        refine x_iconst C.1 (n := 0) dX11_alone_50 ?_
        refine x_istore C.1 (lv' := [(5, vI 0), (4, vI (-2)), (3, vI 0), (0, .ref (ad 0)), (1, vI x1), (2, vI x2)]) dX11_alone_51 (by decide) rfl ?_
        obtain ⟨bd173, hbd173, hF⟩ := lop3_ex hF
        refine x_loop (I := fun x : Int × Int × Int => match x with | (z170, z171, z172) => (0 ≤ z170 ∧ z170 ≤ 2147483647) ∧ (-2 ≤ z171 ∧ z171 ≤ 2147483647) ∧ (-2147483648 ≤ z172 ∧ z172 ≤ 2147483647) ∧ (∃ nf : Nat, (2147483648 - z170).toNat < nf ∧ Imp (lop3 nf bd173 z170 z171 z172) (f_s_alone x1 x2 V J Rr))) (μ := fun x : Int × Int × Int => match x with | (z170, z171, z172) => (2147483648 - z170).toNat) (wsf := fun x : Int × Int × Int => match x with | (z170, z171, z172) => XW cy ad V7 J Rr) (lvf := fun x : Int × Int × Int => match x with | (z170, z171, z172) => [(5, vI z170), (4, vI z171), (3, vI z172), (0, .ref (ad 0)), (1, vI x1), (2, vI x2)]) (fun x hI173x ih173 => ?_) (0, (-2), 0) ⟨⟨by decide, by decide⟩, ⟨by decide, by decide⟩, ⟨by decide, by decide⟩, ⟨_, (by omega), hF⟩⟩ rfl rfl
        obtain ⟨z170, z171, z172⟩ := x
        obtain ⟨bz170, bz171, bz172, nf173, hn173, hF⟩ := hI173x
        try dsimp only
        obtain ⟨nf173, rfl⟩ : ∃ mm, nf173 = mm + 1 := ⟨nf173 - 1, (Nat.succ_pred_eq_of_pos (Nat.lt_of_le_of_lt (Nat.zero_le _) hn173)).symm⟩
        replace hF := hF.to (lop3_s hbd173)
        refine x_iload C.1 dX11_alone_53 0 rfl ?_
        refine x_iconst C.1 (n := 1) dX11_alone_55 ?_
        refine x_iload_n C.1 dX11_alone_56 4 rfl ?_
        obtain ⟨z203, hz203, bz203⟩ : ∃ z : Int, iShl 1 x1 = z ∧ (-2147483648 ≤ z ∧ z ≤ 2147483647) := ⟨_, rfl, xi_r _⟩
        replace hF := hF.to (rdb_e (z := z203) hz203)
        refine x_ishl C.1 (v := z203) hz203 dX11_alone_57 ?_
        refine x_icmp_ge C.1 (tgt := 96) dX11_alone_58 (by decide) (by omega) (by omega) (fun hc217 => ?_) (fun hc217 => ?_)
        · replace hF := hF.to (if_pos hc217)
          refine x_iload_n C.1 dX11_alone_96 5 rfl ?_
          refine x_if_ne C.1 (tgt := 104) dX11_alone_97 (by decide) (by omega) (fun hc218 => ?_) (fun hc218 => ?_)
          · replace hF := hF.to (if_pos hc218)
            refine x_iload C.1 dX11_alone_104 1 rfl ?_
            exact x_iret (S := (Nat → Nat → Int)) (post := (fun a (u : Nat → Nat → Int) => XI G u ∧ FB (fun i k : Nat => (70 ≤ i ∧ i ≤ 70) ∨ (69 ≤ i ∧ i ≤ 71) ∨ (67 ≤ i ∧ i ≤ 68)) V u ∧ (f_s_alone x1 x2 V J Rr) (a, u))) (w1 := (fun u : Nat → Nat → Int => XW cy ad u J Rr)) (a := z171) C hr rfl dX11_alone_106 (by omega) V7 rfl ⟨hI7, hB7, hF _ rfl⟩
          · replace hF := hF.to (if_neg (fun hh => hh hc218))
            refine x_iload_n C.1 dX11_alone_100 2 rfl ?_
            refine x_goto C.1 (tgt := 106) dX11_alone_101 (by decide) ?_
            exact x_iret (S := (Nat → Nat → Int)) (post := (fun a (u : Nat → Nat → Int) => XI G u ∧ FB (fun i k : Nat => (70 ≤ i ∧ i ≤ 70) ∨ (69 ≤ i ∧ i ≤ 71) ∨ (67 ≤ i ∧ i ≤ 68)) V u ∧ (f_s_alone x1 x2 V J Rr) (a, u))) (w1 := (fun u : Nat → Nat → Int => XW cy ad u J Rr)) (a := z172) C hr rfl dX11_alone_106 (by omega) V7 rfl ⟨hI7, hB7, hF _ rfl⟩
        · replace hF := hF.to (if_neg hc217)
          refine x_aload_n C.1 dX11_alone_61 3 rfl ?_
          refine x_iload C.1 dX11_alone_62 0 rfl ?_
          refine x_iload_n C.1 dX11_alone_64 4 rfl ?_
          refine x_callVi C (As := [vI z170, vI x1]) (rest := []) 0 (xw_at (N := 129) (i := 0) (by decide) rfl) vc_X11 (s_nobodyGains l D cy ad G V7 J Rr hI7 hJ hR z170 ⟨by omega, by omega⟩ x1 ⟨by omega, by omega⟩) (l1 := []) (l2 := []) (List.append_nil _).symm (w2 := fun _ => XW cy ad V7 J Rr) (fun _ => List.append_nil _) rfl wm_yX11_nobodyGains wn_X11 wl_X11_317 wi_yX11_nobodyGains we_yX11_nobodyGains hd_yX11_nobodyGains rfl ⟨Nat.le_of_ble_eq_true rfl, Nat.le_of_ble_eq_true rfl⟩ (Nat.le_of_ble_eq_true rfl) ⟨Nat.le_of_ble_eq_true rfl, Nat.le_of_ble_eq_true rfl⟩ dX11_alone_65 (fun z219 u219 bz219 h219 => ?_)
          obtain ⟨bq219, hFc219⟩ := h219
          replace hF := calR_i hF hFc219
          replace hF := hF.fc bq219
          obtain ⟨jf226, hjf226, hF⟩ := jn_ex hF
          refine x_join (I := fun x : Int × Int => match x with | (z224, z225) => (-2 ≤ z224 ∧ z224 ≤ 2147483647) ∧ (-2147483648 ≤ z225 ∧ z225 ≤ 2147483647) ∧ Imp (jf226 z224 z225) (f_s_alone x1 x2 V J Rr)) (wsf := fun x : Int × Int => match x with | (z224, z225) => XW cy ad V7 J Rr) (lvf := fun x : Int × Int => match x with | (z224, z225) => [(5, vI z170), (4, vI z224), (3, vI z225), (0, .ref (ad 0)), (1, vI x1), (2, vI x2)]) (stf := fun x : Int × Int => match x with | (z224, z225) => []) 90 (fun x hI226x => ?_) (fun jn226 => ?_)
          · obtain ⟨z224, z225⟩ := x
            obtain ⟨bz224, bz225, hF⟩ := hI226x
            try dsimp only
            replace hF := hF.to (jn_s2 hjf226)
            refine x_iinc C.1 (v := z170 + 1) (lv' := [(5, vI (z170 + 1)), (4, vI z224), (3, vI z225), (0, .ref (ad 0)), (1, vI x1), (2, vI x2)]) (by omega) dX11_alone_90 0 rfl (by decide) rfl ?_
            refine x_goto C.1 (tgt := 53) dX11_alone_93 (by decide) ?_
            have hmu173 : (2147483648 - (z170 + 1)).toNat < (2147483648 - z170).toNat := (by omega)
            exact ih173 (z170 + 1, z224, z225) ⟨⟨by omega, by omega⟩, ⟨by omega, by omega⟩, ⟨by omega, by omega⟩, ⟨nf173, Nat.lt_of_lt_of_le hmu173 (Nat.le_of_lt_succ hn173), hF⟩⟩ hmu173
          · refine x_if_eq C.1 (tgt := 90) dX11_alone_68 (by decide) (by omega) (fun hc227 => ?_) (fun hc227 => ?_)
            · replace hF := hF.to (if_pos hc227)
              exact jn226 (z171, z172) ⟨⟨by omega, by omega⟩, ⟨by omega, by omega⟩, hF⟩
            · replace hF := hF.to (if_neg hc227)
              refine x_iinc C.1 (v := z172 + 1) (lv' := [(3, vI (z172 + 1)), (5, vI z170), (4, vI z171), (0, .ref (ad 0)), (1, vI x1), (2, vI x2)]) (by omega) dX11_alone_71 2 rfl (by decide) rfl ?_
              refine x_wrapl ?_
              intro z228 bz228 ew228
              replace hF := hF.to (rdb_e (z := z228) ew228.symm)
              refine x_iload C.1 dX11_alone_74 2 rfl ?_
              refine x_bipush C.1 (n := -2) dX11_alone_76 ?_
              obtain ⟨jf230, hjf230, hF⟩ := jn_ex hF
              refine x_join (I := fun z229 : Int => (-1 ≤ z229 ∧ z229 ≤ 2147483647) ∧ Imp (jf230 z229) (f_s_alone x1 x2 V J Rr)) (wsf := fun z229 : Int => XW cy ad V7 J Rr) (lvf := fun z229 : Int => [(3, vI z228), (5, vI z170), (4, vI z171), (0, .ref (ad 0)), (1, vI x1), (2, vI x2)]) (stf := fun z229 : Int => [vI z229]) 88 (fun z229 hI230x => ?_) (fun jn230 => ?_)
              · obtain ⟨bz229, hF⟩ := hI230x
                try dsimp only
                replace hF := hF.to (jn_s1 hjf230)
                refine x_istore C.1 (lv' := [(4, vI z229), (3, vI z228), (5, vI z170), (0, .ref (ad 0)), (1, vI x1), (2, vI x2)]) dX11_alone_88 (by decide) rfl ?_
                refine x_lv [(5, vI z170), (4, vI z229), (3, vI z228), (0, .ref (ad 0)), (1, vI x1), (2, vI x2)] [2, 0, 1, 3, 4, 5] rfl ?_
                exact jn226 (z229, z228) ⟨⟨by omega, by omega⟩, ⟨by omega, by omega⟩, hF⟩
              · refine x_icmp_ne C.1 (tgt := 86) dX11_alone_78 (by decide) (by omega) (by decide) (fun hc231 => ?_) (fun hc231 => ?_)
                · replace hF := hF.to (if_pos hc231)
                  refine x_iload C.1 dX11_alone_86 2 rfl ?_
                  exact jn230 z171 ⟨⟨by omega, by omega⟩, hF⟩
                · replace hF := hF.to (if_neg (fun hh => hh hc231))
                  refine x_iload C.1 dX11_alone_81 1 rfl ?_
                  refine x_goto C.1 (tgt := 88) dX11_alone_83 (by decide) ?_
                  exact jn230 z170 ⟨⟨by omega, by omega⟩, hF⟩
      · replace hF := hF.to (if_neg (fun hh => hh hc8))
        refine x_aload_n C.1 dX11_alone_38 0 rfl ?_
        refine x_iload_n C.1 dX11_alone_39 1 rfl ?_
        refine x_callVi C (As := [vI x1]) (rest := []) 0 (xw_at (N := 129) (i := 0) (by decide) rfl) vc_X11 (s_evenTenths l D cy ad G V7 J Rr hI7 hJ hR x1 ⟨by omega, by omega⟩) (l1 := []) (l2 := []) (List.append_nil _).symm (w2 := fun _ => XW cy ad V7 J Rr) (fun _ => List.append_nil _) rfl wm_yX11_evenTenths wn_X11 wl_X11_314 wi_yX11_evenTenths we_yX11_evenTenths hd_yX11_evenTenths rfl ⟨Nat.le_of_ble_eq_true rfl, Nat.le_of_ble_eq_true rfl⟩ (Nat.le_of_ble_eq_true rfl) ⟨Nat.le_of_ble_eq_true rfl, Nat.le_of_ble_eq_true rfl⟩ dX11_alone_40 (fun z232 u232 bz232 h232 => ?_)
        have hFc232 := h232
        replace hF := calR_i hF hFc232
        exact x_iret (S := (Nat → Nat → Int)) (post := (fun a (u : Nat → Nat → Int) => XI G u ∧ FB (fun i k : Nat => (70 ≤ i ∧ i ≤ 70) ∨ (69 ≤ i ∧ i ≤ 71) ∨ (67 ≤ i ∧ i ≤ 68)) V u ∧ (f_s_alone x1 x2 V J Rr) (a, u))) (w1 := (fun u : Nat → Nat → Int => XW cy ad u J Rr)) (a := z232) C hr rfl dX11_alone_43 (by omega) V7 rfl ⟨hI7, hB7, hF _ rfl⟩
    · replace hF := hF.to (if_neg (fun hh => hh hc5))
      refine x_iconst C.1 (n := -1) dX11_alone_19 ?_
      exact x_iret (S := (Nat → Nat → Int)) (post := (fun a (u : Nat → Nat → Int) => XI G u ∧ FB (fun i k : Nat => (70 ≤ i ∧ i ≤ 70) ∨ (69 ≤ i ∧ i ≤ 71) ∨ (67 ≤ i ∧ i ≤ 68)) V u ∧ (f_s_alone x1 x2 V J Rr) (a, u))) (w1 := (fun u : Nat → Nat → Int => XW cy ad u J Rr)) (a := (-1)) C hr rfl dX11_alone_20 (by decide) V rfl ⟨hI, hB, hF _ rfl⟩
theorem hd_yX11_fits : yX11_fits.cls ≠ "java/lang/invoke/MethodHandle" ∧ yX11_fits.cls ≠ "java/lang/invoke/VarHandle" ∧ (parseMethodDescriptor yX11_fits.desc).map (fun d => d.parameters.length) = some 2 := by decide +kernel
theorem dX11_whoDid_0 : decode cX11_whoDid 0 = .ok (.iload_n 1, 1) := by decide +kernel
theorem dX11_whoDid_1 : decode cX11_whoDid 1 = .ok (.iconst 1, 1) := by decide +kernel
theorem dX11_whoDid_2 : decode cX11_whoDid 2 = .ok (.bipush 6, 2) := by decide +kernel
theorem dX11_whoDid_4 : decode cX11_whoDid 4 = .ok (.invokestatic 74, 3) := by decide +kernel
theorem dX11_whoDid_7 : decode cX11_whoDid 7 = .ok (.ifCond .eq 22, 3) := by decide +kernel
theorem dX11_whoDid_10 : decode cX11_whoDid 10 = .ok (.iload_n 2, 1) := by decide +kernel
theorem dX11_whoDid_11 : decode cX11_whoDid 11 = .ok (.iconst 1, 1) := by decide +kernel
theorem dX11_whoDid_12 : decode cX11_whoDid 12 = .ok (.sipush 255, 3) := by decide +kernel
theorem dX11_whoDid_15 : decode cX11_whoDid 15 = .ok (.invokestatic 74, 3) := by decide +kernel
theorem dX11_whoDid_18 : decode cX11_whoDid 18 = .ok (.ifCond .eq 11, 3) := by decide +kernel
theorem dX11_whoDid_21 : decode cX11_whoDid 21 = .ok (.iload_n 2, 1) := by decide +kernel
theorem dX11_whoDid_22 : decode cX11_whoDid 22 = .ok (.invokestatic 160, 3) := by decide +kernel
theorem dX11_whoDid_25 : decode cX11_whoDid 25 = .ok (.iconst 5, 1) := by decide +kernel
theorem dX11_whoDid_26 : decode cX11_whoDid 26 = .ok (.if_icmp .le 7, 3) := by decide +kernel
theorem dX11_whoDid_29 : decode cX11_whoDid 29 = .ok (.ldc2_w 201, 3) := by decide +kernel
theorem dX11_whoDid_32 : decode cX11_whoDid 32 = .ok (.lreturn, 1) := by decide +kernel
theorem dX11_whoDid_33 : decode cX11_whoDid 33 = .ok (.iload_n 3, 1) := by decide +kernel
theorem dX11_whoDid_34 : decode cX11_whoDid 34 = .ok (.iconst 1, 1) := by decide +kernel
theorem dX11_whoDid_35 : decode cX11_whoDid 35 = .ok (.bipush 9, 2) := by decide +kernel
theorem dX11_whoDid_37 : decode cX11_whoDid 37 = .ok (.invokestatic 74, 3) := by decide +kernel
theorem dX11_whoDid_40 : decode cX11_whoDid 40 = .ok (.ifCond .eq 24, 3) := by decide +kernel
theorem dX11_whoDid_43 : decode cX11_whoDid 43 = .ok (.iload 4, 2) := by decide +kernel
theorem dX11_whoDid_45 : decode cX11_whoDid 45 = .ok (.iconst 0, 1) := by decide +kernel
theorem dX11_whoDid_46 : decode cX11_whoDid 46 = .ok (.bipush 9, 2) := by decide +kernel
theorem dX11_whoDid_48 : decode cX11_whoDid 48 = .ok (.invokestatic 74, 3) := by decide +kernel
theorem dX11_whoDid_51 : decode cX11_whoDid 51 = .ok (.ifCond .eq 13, 3) := by decide +kernel
theorem dX11_whoDid_54 : decode cX11_whoDid 54 = .ok (.iload 5, 2) := by decide +kernel
theorem dX11_whoDid_56 : decode cX11_whoDid 56 = .ok (.iconst 0, 1) := by decide +kernel
theorem dX11_whoDid_57 : decode cX11_whoDid 57 = .ok (.iconst 2, 1) := by decide +kernel
theorem dX11_whoDid_58 : decode cX11_whoDid 58 = .ok (.invokestatic 74, 3) := by decide +kernel
theorem dX11_whoDid_61 : decode cX11_whoDid 61 = .ok (.ifCond .ne 7, 3) := by decide +kernel
theorem dX11_whoDid_64 : decode cX11_whoDid 64 = .ok (.ldc2_w 201, 3) := by decide +kernel
theorem dX11_whoDid_67 : decode cX11_whoDid 67 = .ok (.lreturn, 1) := by decide +kernel
theorem dX11_whoDid_68 : decode cX11_whoDid 68 = .ok (.iload_n 1, 1) := by decide +kernel
theorem dX11_whoDid_69 : decode cX11_whoDid 69 = .ok (.iconst 1, 1) := by decide +kernel
theorem dX11_whoDid_70 : decode cX11_whoDid 70 = .ok (.iadd, 1) := by decide +kernel
theorem dX11_whoDid_71 : decode cX11_whoDid 71 = .ok (.aload_n 0, 1) := by decide +kernel
theorem dX11_whoDid_72 : decode cX11_whoDid 72 = .ok (.getfield 25, 3) := by decide +kernel
theorem dX11_whoDid_75 : decode cX11_whoDid 75 = .ok (.getfield 120, 3) := by decide +kernel
theorem dX11_whoDid_78 : decode cX11_whoDid 78 = .ok (.if_icmp .le 7, 3) := by decide +kernel
theorem dX11_whoDid_81 : decode cX11_whoDid 81 = .ok (.ldc2_w 201, 3) := by decide +kernel
theorem dX11_whoDid_84 : decode cX11_whoDid 84 = .ok (.lreturn, 1) := by decide +kernel
theorem dX11_whoDid_85 : decode cX11_whoDid 85 = .ok (.lconst 1, 1) := by decide +kernel
theorem dX11_whoDid_86 : decode cX11_whoDid 86 = .ok (.lstore 6, 2) := by decide +kernel
theorem dX11_whoDid_88 : decode cX11_whoDid 88 = .ok (.bipush (-2), 2) := by decide +kernel
theorem dX11_whoDid_90 : decode cX11_whoDid 90 = .ok (.istore 8, 2) := by decide +kernel
theorem dX11_whoDid_92 : decode cX11_whoDid 92 = .ok (.iconst 0, 1) := by decide +kernel
theorem dX11_whoDid_93 : decode cX11_whoDid 93 = .ok (.istore 9, 2) := by decide +kernel
theorem dX11_whoDid_95 : decode cX11_whoDid 95 = .ok (.iconst 0, 1) := by decide +kernel
theorem dX11_whoDid_96 : decode cX11_whoDid 96 = .ok (.istore 10, 2) := by decide +kernel
theorem dX11_whoDid_98 : decode cX11_whoDid 98 = .ok (.iload 10, 2) := by decide +kernel
theorem dX11_whoDid_100 : decode cX11_whoDid 100 = .ok (.iload_n 1, 1) := by decide +kernel
theorem dX11_whoDid_101 : decode cX11_whoDid 101 = .ok (.if_icmp .ge 104, 3) := by decide +kernel
theorem dX11_whoDid_104 : decode cX11_whoDid 104 = .ok (.iconst 0, 1) := by decide +kernel
theorem dX11_whoDid_105 : decode cX11_whoDid 105 = .ok (.istore 11, 2) := by decide +kernel
theorem dX11_whoDid_107 : decode cX11_whoDid 107 = .ok (.iload_n 2, 1) := by decide +kernel
theorem dX11_whoDid_108 : decode cX11_whoDid 108 = .ok (.istore 12, 2) := by decide +kernel
theorem dX11_whoDid_110 : decode cX11_whoDid 110 = .ok (.iconst 0, 1) := by decide +kernel
theorem dX11_whoDid_111 : decode cX11_whoDid 111 = .ok (.istore 13, 2) := by decide +kernel
theorem dX11_whoDid_113 : decode cX11_whoDid 113 = .ok (.iload 13, 2) := by decide +kernel
theorem dX11_whoDid_115 : decode cX11_whoDid 115 = .ok (.iload_n 2, 1) := by decide +kernel
theorem dX11_whoDid_116 : decode cX11_whoDid 116 = .ok (.if_icmp .gt 47, 3) := by decide +kernel
theorem dX11_whoDid_119 : decode cX11_whoDid 119 = .ok (.iload 13, 2) := by decide +kernel
theorem dX11_whoDid_121 : decode cX11_whoDid 121 = .ok (.iload_n 2, 1) := by decide +kernel
theorem dX11_whoDid_122 : decode cX11_whoDid 122 = .ok (.iand, 1) := by decide +kernel
theorem dX11_whoDid_123 : decode cX11_whoDid 123 = .ok (.iload 13, 2) := by decide +kernel
theorem dX11_whoDid_125 : decode cX11_whoDid 125 = .ok (.if_icmp .ne 32, 3) := by decide +kernel
theorem dX11_whoDid_128 : decode cX11_whoDid 128 = .ok (.aload_n 0, 1) := by decide +kernel
theorem dX11_whoDid_129 : decode cX11_whoDid 129 = .ok (.iload 10, 2) := by decide +kernel
theorem dX11_whoDid_131 : decode cX11_whoDid 131 = .ok (.iload 13, 2) := by decide +kernel
theorem dX11_whoDid_133 : decode cX11_whoDid 133 = .ok (.invokestatic 160, 3) := by decide +kernel
theorem dX11_whoDid_136 : decode cX11_whoDid 136 = .ok (.iload_n 3, 1) := by decide +kernel
theorem dX11_whoDid_137 : decode cX11_whoDid 137 = .ok (.imul, 1) := by decide +kernel
theorem dX11_whoDid_138 : decode cX11_whoDid 138 = .ok (.iload 4, 2) := by decide +kernel
theorem dX11_whoDid_140 : decode cX11_whoDid 140 = .ok (.isub, 1) := by decide +kernel
theorem dX11_whoDid_141 : decode cX11_whoDid 141 = .ok (.invokevirtual 320, 3) := by decide +kernel
theorem dX11_whoDid_144 : decode cX11_whoDid 144 = .ok (.ifCond .eq 13, 3) := by decide +kernel
theorem dX11_whoDid_147 : decode cX11_whoDid 147 = .ok (.iinc 11 1, 3) := by decide +kernel
theorem dX11_whoDid_150 : decode cX11_whoDid 150 = .ok (.iload 12, 2) := by decide +kernel
theorem dX11_whoDid_152 : decode cX11_whoDid 152 = .ok (.iload 13, 2) := by decide +kernel
theorem dX11_whoDid_154 : decode cX11_whoDid 154 = .ok (.iand, 1) := by decide +kernel
theorem dX11_whoDid_155 : decode cX11_whoDid 155 = .ok (.istore 12, 2) := by decide +kernel
theorem dX11_whoDid_157 : decode cX11_whoDid 157 = .ok (.iinc 13 1, 3) := by decide +kernel
theorem dX11_whoDid_160 : decode cX11_whoDid 160 = .ok (.goto (-47), 3) := by decide +kernel
theorem dX11_whoDid_163 : decode cX11_whoDid 163 = .ok (.iload 11, 2) := by decide +kernel
theorem dX11_whoDid_165 : decode cX11_whoDid 165 = .ok (.ifCond .ne 15, 3) := by decide +kernel
theorem dX11_whoDid_168 : decode cX11_whoDid 168 = .ok (.iload 8, 2) := by decide +kernel
theorem dX11_whoDid_170 : decode cX11_whoDid 170 = .ok (.bipush (-2), 2) := by decide +kernel
theorem dX11_whoDid_172 : decode cX11_whoDid 172 = .ok (.if_icmp .ne 8, 3) := by decide +kernel
theorem dX11_whoDid_175 : decode cX11_whoDid 175 = .ok (.iload 10, 2) := by decide +kernel
theorem dX11_whoDid_177 : decode cX11_whoDid 177 = .ok (.goto 5, 3) := by decide +kernel
theorem dX11_whoDid_180 : decode cX11_whoDid 180 = .ok (.iload 8, 2) := by decide +kernel
theorem dX11_whoDid_182 : decode cX11_whoDid 182 = .ok (.istore 8, 2) := by decide +kernel
theorem dX11_whoDid_184 : decode cX11_whoDid 184 = .ok (.lload 6, 2) := by decide +kernel
theorem dX11_whoDid_186 : decode cX11_whoDid 186 = .ok (.iload 11, 2) := by decide +kernel
theorem dX11_whoDid_188 : decode cX11_whoDid 188 = .ok (.i2l, 1) := by decide +kernel
theorem dX11_whoDid_189 : decode cX11_whoDid 189 = .ok (.lmul, 1) := by decide +kernel
theorem dX11_whoDid_190 : decode cX11_whoDid 190 = .ok (.lstore 6, 2) := by decide +kernel
theorem dX11_whoDid_192 : decode cX11_whoDid 192 = .ok (.iload 9, 2) := by decide +kernel
theorem dX11_whoDid_194 : decode cX11_whoDid 194 = .ok (.iload 12, 2) := by decide +kernel
theorem dX11_whoDid_196 : decode cX11_whoDid 196 = .ok (.ior, 1) := by decide +kernel
theorem dX11_whoDid_197 : decode cX11_whoDid 197 = .ok (.istore 9, 2) := by decide +kernel
theorem dX11_whoDid_199 : decode cX11_whoDid 199 = .ok (.iinc 10 1, 3) := by decide +kernel
theorem dX11_whoDid_202 : decode cX11_whoDid 202 = .ok (.goto (-104), 3) := by decide +kernel
theorem dX11_whoDid_205 : decode cX11_whoDid 205 = .ok (.aload_n 0, 1) := by decide +kernel
theorem dX11_whoDid_206 : decode cX11_whoDid 206 = .ok (.getfield 25, 3) := by decide +kernel
theorem dX11_whoDid_209 : decode cX11_whoDid 209 = .ok (.iconst 0, 1) := by decide +kernel
theorem dX11_whoDid_210 : decode cX11_whoDid 210 = .ok (.putfield 120, 3) := by decide +kernel
theorem dX11_whoDid_213 : decode cX11_whoDid 213 = .ok (.iload 5, 2) := by decide +kernel
theorem dX11_whoDid_215 : decode cX11_whoDid 215 = .ok (.ifCond .ne 6, 3) := by decide +kernel
theorem dX11_whoDid_218 : decode cX11_whoDid 218 = .ok (.lload 6, 2) := by decide +kernel
theorem dX11_whoDid_220 : decode cX11_whoDid 220 = .ok (.lreturn, 1) := by decide +kernel
theorem dX11_whoDid_221 : decode cX11_whoDid 221 = .ok (.iload 5, 2) := by decide +kernel
theorem dX11_whoDid_223 : decode cX11_whoDid 223 = .ok (.iconst 1, 1) := by decide +kernel
theorem dX11_whoDid_224 : decode cX11_whoDid 224 = .ok (.if_icmp .ne 9, 3) := by decide +kernel
theorem dX11_whoDid_227 : decode cX11_whoDid 227 = .ok (.iload 8, 2) := by decide +kernel
theorem dX11_whoDid_229 : decode cX11_whoDid 229 = .ok (.i2l, 1) := by decide +kernel
theorem dX11_whoDid_230 : decode cX11_whoDid 230 = .ok (.goto 17, 3) := by decide +kernel
theorem dX11_whoDid_233 : decode cX11_whoDid 233 = .ok (.lload 6, 2) := by decide +kernel
theorem dX11_whoDid_235 : decode cX11_whoDid 235 = .ok (.lconst 0, 1) := by decide +kernel
theorem dX11_whoDid_236 : decode cX11_whoDid 236 = .ok (.lcmp, 1) := by decide +kernel
theorem dX11_whoDid_237 : decode cX11_whoDid 237 = .ok (.ifCond .ne 7, 3) := by decide +kernel
theorem dX11_whoDid_240 : decode cX11_whoDid 240 = .ok (.lconst 0, 1) := by decide +kernel
theorem dX11_whoDid_241 : decode cX11_whoDid 241 = .ok (.goto 6, 3) := by decide +kernel
theorem dX11_whoDid_244 : decode cX11_whoDid 244 = .ok (.iload 9, 2) := by decide +kernel
theorem dX11_whoDid_246 : decode cX11_whoDid 246 = .ok (.i2l, 1) := by decide +kernel
theorem dX11_whoDid_247 : decode cX11_whoDid 247 = .ok (.lreturn, 1) := by decide +kernel
set_option maxRecDepth 100000 in
def f_s_whoDid (x1 : Int) (x2 : Int) (x3 : Int) (x4 : Int) (x5 : Int) (V : Nat → Nat → Int) (J : Nat → Nat → Int) (Rr : Nat → Nat → Nat) : (Int × (Nat → Nat → Int)) → Prop :=
  calR (f_s_isWithin x1 1 6) fun z1 => fct (0 ≤ z1 ∧ z1 ≤ 1) <| (if z1 = 0 then rtn ((-1), V) else calR (f_s_isWithin x2 1 255) fun z4 => fct (0 ≤ z4 ∧ z4 ≤ 1) <| (if z4 = 0 then rtn ((-1), V) else calR (f_s_bitCount x2) fun z7 => fct (0 ≤ z7 ∧ z7 ≤ 63) <| (if z7 ≤ 5 then calR (f_s_isWithin x3 1 9) fun z9 => fct (0 ≤ z9 ∧ z9 ≤ 1) <| (if z9 = 0 then rtn ((-1), V) else calR (f_s_isWithin x4 0 9) fun z12 => fct (0 ≤ z12 ∧ z12 ≤ 1) <| (if z12 = 0 then rtn ((-1), V) else calR (f_s_isWithin x5 0 2) fun z15 => fct (0 ≤ z15 ∧ z15 ≤ 1) <| (if ¬ z15 = 0 then rdb (V 58 1) fun z18 => fct (0 ≤ z18 ∧ z18 ≤ 220) <| (if x1 + 1 ≤ z18 then lop4 (8) (fun rc3726 (z3722 : Int) (z3723 : Int) (z3724 : Int) (z3725 : Int) => (if x1 ≤ z3722 then rdb (up2 V 58 1 0) fun V4748 => (if ¬ x5 = 0 then (if ¬ x5 = 1 then (if ¬ (lcI z3725 0) = 0 then rtn (z3723, V4748) else rtn (0, V4748)) else rtn (z3724, V4748)) else rtn (z3725, V4748)) else lop3 (258) (fun rc5006 (z5003 : Int) (z5004 : Int) (z5005 : Int) => (if x2 < z5003 then jnk (fun (z5068 : Int) => rdb (wrJ (z3725 * z5005)) fun z5070 => rdb (iOr z3723 z5004) fun z5071 => rc3726 (z3722 + 1) z5071 z5068 z5070) fun jf5069 => (if ¬ z5005 = 0 then jf5069 z3724 else (if ¬ z3724 = (-2) then jf5069 z3724 else jf5069 z3722)) else rdb (iAnd z5003 x2) fun z5074 => fct (0 ≤ z5074 ∧ z5074 ≤ 255) <| jnk (fun (z5081 : Int) (z5082 : Int) => rc5006 (z5003 + 1) z5081 z5082) fun jf5083 => (if ¬ z5074 = z5003 then jf5083 z5004 z5005 else calR (f_s_bitCount z5003) fun z5085 => fct (0 ≤ z5085 ∧ z5085 ≤ 63) <| rdb (z5085 * x3) fun z5086 => fct (0 ≤ z5086 ∧ z5086 ≤ 567) <| calR (f_s_fits z3722 (z5086 - x4) V J Rr) fun z5087 => fct (0 ≤ z5087 ∧ z5087 ≤ 1) <| (if z5087 = 0 then jf5083 z5004 z5005 else rdb (wr (z5005 + 1)) fun z5089 => rdb (iAnd z5004 z5003) fun z5090 => fct (0 ≤ z5090 ∧ z5090 ≤ 255) <| jf5083 z5090 z5089)))) 0 x2 0)) 0 0 ((-2)) 1 else rtn ((-1), V)) else rtn ((-1), V)))) else rtn ((-1), V))))
set_option maxHeartbeats 8000000 in
set_option maxRecDepth 100000 in
theorem s_whoDid (l : Launch) (D : va_G) (cy : Nat → ClassId) (ad : Nat → Nat) (G : Nat → Nat → Int) (V J : Nat → Nat → Int) (Rr : Nat → Nat → Nat) (hI : XI G V) (hJ : VJ J) (hR : XR Rr) (x1 : Int) (bx1 : -2147483648 ≤ x1 ∧ x1 ≤ 2147483647) (x2 : Int) (bx2 : -2147483648 ≤ x2 ∧ x2 ≤ 2147483647) (x3 : Int) (bx3 : -2147483648 ≤ x3 ∧ x3 ≤ 2147483647) (x4 : Int) (bx4 : -2147483648 ≤ x4 ∧ x4 ≤ 2147483647) (x5 : Int) (bx5 : -2147483648 ≤ x5 ∧ x5 ≤ 2147483647) : xMl l D (xTY cy) yX11_whoDid cX11_whoDid 14 (some .long) 2 43 0 0 [.ref (ad 0), vI x1, vI x2, vI x3, vI x4, vI x5] (XW cy ad V J Rr) (fun u : Nat → Nat → Int => XW cy ad u J Rr) (fun a (u : Nat → Nat → Int) => XI G u ∧ FB (fun i k : Nat => (58 ≤ i ∧ i ≤ 59)) V u ∧ (f_s_whoDid x1 x2 x3 x4 x5 V J Rr) (a, u)) := by
  refine xMl.mk (lv0 := [(0, .ref (ad 0)), (1, vI x1), (2, vI x2), (3, vI x3), (4, vI x4), (5, vI x5)]) (by decide) rfl (Nat.le_of_ble_eq_true rfl) (fun p e s m below meth c A C hr hnm hAe => ?_)
  have C : xC2 p s m _ meth c D A s.heap 14 cX11_whoDid RX11 (xTY cy) := C
  have hB : FB (fun i k : Nat => (58 ≤ i ∧ i ≤ 59)) V V := FB.rf _ _
  have hF := Imp.of_eq (f_s_whoDid.eq_def x1 x2 x3 x4 x5 V J Rr)
  refine x_iload_n C.1 dX11_whoDid_0 1 rfl ?_
  refine x_iconst C.1 (n := 1) dX11_whoDid_1 ?_
  refine x_bipush C.1 (n := 6) dX11_whoDid_2 ?_
  refine x_callSi C (As := [vI x1, vI 1, vI 6]) (rest := []) (s_isWithin l D cy x1 ⟨by omega, by omega⟩ 1 ⟨by decide, by decide⟩ 6 ⟨by decide, by decide⟩) (l1 := []) (l2 := _) rfl (w2 := fun _ => _) (fun _ => rfl) rfl wm_yX11_isWithin wn_X11 wl_X11_74 wi_yX11_isWithin hd_yX11_isWithin rfl ⟨Nat.le_of_ble_eq_true rfl, Nat.le_of_ble_eq_true rfl⟩ (Nat.le_of_ble_eq_true rfl) ⟨Nat.le_of_ble_eq_true rfl, Nat.le_of_ble_eq_true rfl⟩ dX11_whoDid_4 (fun z1 u1 bz1 h1 => ?_)
  obtain ⟨bq1, hx1_0, hFc1⟩ := h1
  replace hF := calR_i hF hFc1
  replace hF := hF.fc bq1
  refine x_if_eq C.1 (tgt := 29) dX11_whoDid_7 (by decide) (by omega) (fun hc2 => ?_) (fun hc2 => ?_)
  · replace hF := hF.to (if_pos hc2)
    refine x_ldc2 C.1 (n := -1) wq_X11_201 dX11_whoDid_29 ?_
    exact x_lret (S := (Nat → Nat → Int)) (post := (fun a (u : Nat → Nat → Int) => XI G u ∧ FB (fun i k : Nat => (58 ≤ i ∧ i ≤ 59)) V u ∧ (f_s_whoDid x1 x2 x3 x4 x5 V J Rr) (a, u))) (w1 := (fun u : Nat → Nat → Int => XW cy ad u J Rr)) (a := (-1)) C hr rfl dX11_whoDid_32 (by decide) V rfl ⟨hI, hB, hF _ rfl⟩
  · replace hF := hF.to (if_neg hc2)
    have hon3 := Sq.on hx1_0 (by omega)
    refine x_iload_n C.1 dX11_whoDid_10 2 rfl ?_
    refine x_iconst C.1 (n := 1) dX11_whoDid_11 ?_
    refine x_sipush C.1 (n := 255) dX11_whoDid_12 ?_
    refine x_callSi C (As := [vI x2, vI 1, vI 255]) (rest := []) (s_isWithin l D cy x2 ⟨by omega, by omega⟩ 1 ⟨by decide, by decide⟩ 255 ⟨by decide, by decide⟩) (l1 := []) (l2 := _) rfl (w2 := fun _ => _) (fun _ => rfl) rfl wm_yX11_isWithin wn_X11 wl_X11_74 wi_yX11_isWithin hd_yX11_isWithin rfl ⟨Nat.le_of_ble_eq_true rfl, Nat.le_of_ble_eq_true rfl⟩ (Nat.le_of_ble_eq_true rfl) ⟨Nat.le_of_ble_eq_true rfl, Nat.le_of_ble_eq_true rfl⟩ dX11_whoDid_15 (fun z4 u4 bz4 h4 => ?_)
    obtain ⟨bq4, hx4_0, hFc4⟩ := h4
    replace hF := calR_i hF hFc4
    replace hF := hF.fc bq4
    refine x_if_eq C.1 (tgt := 29) dX11_whoDid_18 (by decide) (by omega) (fun hc5 => ?_) (fun hc5 => ?_)
    · replace hF := hF.to (if_pos hc5)
      refine x_ldc2 C.1 (n := -1) wq_X11_201 dX11_whoDid_29 ?_
      exact x_lret (S := (Nat → Nat → Int)) (post := (fun a (u : Nat → Nat → Int) => XI G u ∧ FB (fun i k : Nat => (58 ≤ i ∧ i ≤ 59)) V u ∧ (f_s_whoDid x1 x2 x3 x4 x5 V J Rr) (a, u))) (w1 := (fun u : Nat → Nat → Int => XW cy ad u J Rr)) (a := (-1)) C hr rfl dX11_whoDid_32 (by decide) V rfl ⟨hI, hB, hF _ rfl⟩
    · replace hF := hF.to (if_neg hc5)
      have hon6 := Sq.on hx4_0 (by omega)
      refine x_iload_n C.1 dX11_whoDid_21 2 rfl ?_
      refine x_callSi C (As := [vI x2]) (rest := []) (s_bitCount l D cy x2 ⟨by omega, by omega⟩) (l1 := []) (l2 := _) rfl (w2 := fun _ => _) (fun _ => rfl) rfl wm_yJ6_bitCount_0f7a4 wn_J6 wl_X11_160 wi_yJ6_bitCount_0f7a4 hd_yJ6_bitCount_0f7a4 rfl ⟨Nat.le_of_ble_eq_true rfl, Nat.le_of_ble_eq_true rfl⟩ (Nat.le_of_ble_eq_true rfl) ⟨Nat.le_of_ble_eq_true rfl, Nat.le_of_ble_eq_true rfl⟩ dX11_whoDid_22 (fun z7 u7 bz7 h7 => ?_)
      obtain ⟨bq7, hFc7⟩ := h7
      replace hF := calR_i hF hFc7
      replace hF := hF.fc bq7
      refine x_iconst C.1 (n := 5) dX11_whoDid_25 ?_
      refine x_icmp_le C.1 (tgt := 33) dX11_whoDid_26 (by decide) (by omega) (by decide) (fun hc8 => ?_) (fun hc8 => ?_)
      · replace hF := hF.to (if_pos hc8)
        refine x_iload_n C.1 dX11_whoDid_33 3 rfl ?_
        refine x_iconst C.1 (n := 1) dX11_whoDid_34 ?_
        refine x_bipush C.1 (n := 9) dX11_whoDid_35 ?_
        refine x_callSi C (As := [vI x3, vI 1, vI 9]) (rest := []) (s_isWithin l D cy x3 ⟨by omega, by omega⟩ 1 ⟨by decide, by decide⟩ 9 ⟨by decide, by decide⟩) (l1 := []) (l2 := _) rfl (w2 := fun _ => _) (fun _ => rfl) rfl wm_yX11_isWithin wn_X11 wl_X11_74 wi_yX11_isWithin hd_yX11_isWithin rfl ⟨Nat.le_of_ble_eq_true rfl, Nat.le_of_ble_eq_true rfl⟩ (Nat.le_of_ble_eq_true rfl) ⟨Nat.le_of_ble_eq_true rfl, Nat.le_of_ble_eq_true rfl⟩ dX11_whoDid_37 (fun z9 u9 bz9 h9 => ?_)
        obtain ⟨bq9, hx9_0, hFc9⟩ := h9
        replace hF := calR_i hF hFc9
        replace hF := hF.fc bq9
        refine x_if_eq C.1 (tgt := 64) dX11_whoDid_40 (by decide) (by omega) (fun hc10 => ?_) (fun hc10 => ?_)
        · replace hF := hF.to (if_pos hc10)
          refine x_ldc2 C.1 (n := -1) wq_X11_201 dX11_whoDid_64 ?_
          exact x_lret (S := (Nat → Nat → Int)) (post := (fun a (u : Nat → Nat → Int) => XI G u ∧ FB (fun i k : Nat => (58 ≤ i ∧ i ≤ 59)) V u ∧ (f_s_whoDid x1 x2 x3 x4 x5 V J Rr) (a, u))) (w1 := (fun u : Nat → Nat → Int => XW cy ad u J Rr)) (a := (-1)) C hr rfl dX11_whoDid_67 (by decide) V rfl ⟨hI, hB, hF _ rfl⟩
        · replace hF := hF.to (if_neg hc10)
          have hon11 := Sq.on hx9_0 (by omega)
          refine x_iload C.1 dX11_whoDid_43 4 rfl ?_
          refine x_iconst C.1 (n := 0) dX11_whoDid_45 ?_
          refine x_bipush C.1 (n := 9) dX11_whoDid_46 ?_
          refine x_callSi C (As := [vI x4, vI 0, vI 9]) (rest := []) (s_isWithin l D cy x4 ⟨by omega, by omega⟩ 0 ⟨by decide, by decide⟩ 9 ⟨by decide, by decide⟩) (l1 := []) (l2 := _) rfl (w2 := fun _ => _) (fun _ => rfl) rfl wm_yX11_isWithin wn_X11 wl_X11_74 wi_yX11_isWithin hd_yX11_isWithin rfl ⟨Nat.le_of_ble_eq_true rfl, Nat.le_of_ble_eq_true rfl⟩ (Nat.le_of_ble_eq_true rfl) ⟨Nat.le_of_ble_eq_true rfl, Nat.le_of_ble_eq_true rfl⟩ dX11_whoDid_48 (fun z12 u12 bz12 h12 => ?_)
          obtain ⟨bq12, hx12_0, hFc12⟩ := h12
          replace hF := calR_i hF hFc12
          replace hF := hF.fc bq12
          refine x_if_eq C.1 (tgt := 64) dX11_whoDid_51 (by decide) (by omega) (fun hc13 => ?_) (fun hc13 => ?_)
          · replace hF := hF.to (if_pos hc13)
            refine x_ldc2 C.1 (n := -1) wq_X11_201 dX11_whoDid_64 ?_
            exact x_lret (S := (Nat → Nat → Int)) (post := (fun a (u : Nat → Nat → Int) => XI G u ∧ FB (fun i k : Nat => (58 ≤ i ∧ i ≤ 59)) V u ∧ (f_s_whoDid x1 x2 x3 x4 x5 V J Rr) (a, u))) (w1 := (fun u : Nat → Nat → Int => XW cy ad u J Rr)) (a := (-1)) C hr rfl dX11_whoDid_67 (by decide) V rfl ⟨hI, hB, hF _ rfl⟩
          · replace hF := hF.to (if_neg hc13)
            have hon14 := Sq.on hx12_0 (by omega)
            refine x_iload C.1 dX11_whoDid_54 5 rfl ?_
            refine x_iconst C.1 (n := 0) dX11_whoDid_56 ?_
            refine x_iconst C.1 (n := 2) dX11_whoDid_57 ?_
            refine x_callSi C (As := [vI x5, vI 0, vI 2]) (rest := []) (s_isWithin l D cy x5 ⟨by omega, by omega⟩ 0 ⟨by decide, by decide⟩ 2 ⟨by decide, by decide⟩) (l1 := []) (l2 := _) rfl (w2 := fun _ => _) (fun _ => rfl) rfl wm_yX11_isWithin wn_X11 wl_X11_74 wi_yX11_isWithin hd_yX11_isWithin rfl ⟨Nat.le_of_ble_eq_true rfl, Nat.le_of_ble_eq_true rfl⟩ (Nat.le_of_ble_eq_true rfl) ⟨Nat.le_of_ble_eq_true rfl, Nat.le_of_ble_eq_true rfl⟩ dX11_whoDid_58 (fun z15 u15 bz15 h15 => ?_)
            obtain ⟨bq15, hx15_0, hFc15⟩ := h15
            replace hF := calR_i hF hFc15
            replace hF := hF.fc bq15
            refine x_if_ne C.1 (tgt := 68) dX11_whoDid_61 (by decide) (by omega) (fun hc16 => ?_) (fun hc16 => ?_)
            · replace hF := hF.to (if_pos hc16)
              have hon17 := Sq.on hx15_0 (by omega)
              refine x_iload_n C.1 dX11_whoDid_68 1 rfl ?_
              refine x_iconst C.1 (n := 1) dX11_whoDid_69 ?_
              refine x_iadd C.1 (v := x1 + 1) (by omega) dX11_whoDid_70 ?_
              refine x_aload_n C.1 dX11_whoDid_71 0 rfl ?_
              refine x_getA C (N := 129) (i := 0) (by decide) rfl vc_X11 wx_X11 4 (by decide) wf_X11_25 (a := 58) rfl dX11_whoDid_72 ?_
              obtain ⟨z18, ez18, bz18⟩ := hI.rd 58 1 (x := 0) (y := 220) rfl
              replace hF := hF.to (rdb_e (z := z18) ez18)
              replace hF := hF.fc bz18
              refine x_getI C (N := 129) (i := 58) (by decide) rfl vc_X8 wx_X8 1 (by decide) wf_X11_120 rfl dX11_whoDid_75 (a := z18) ez18 ?_
              refine x_icmp_le C.1 (tgt := 85) dX11_whoDid_78 (by decide) (by omega) (by omega) (fun hc19 => ?_) (fun hc19 => ?_)
              · replace hF := hF.to (if_pos hc19)
                refine x_lconst1 C.1 dX11_whoDid_85 ?_
                refine x_lstore C.1 (lv' := [(6, vJ 1), (0, .ref (ad 0)), (1, vI x1), (2, vI x2), (3, vI x3), (4, vI x4), (5, vI x5)]) dX11_whoDid_86 (by decide) rfl ?_
                refine x_bipush C.1 (n := -2) dX11_whoDid_88 ?_
                refine x_istore C.1 (lv' := [(8, vI (-2)), (6, vJ 1), (0, .ref (ad 0)), (1, vI x1), (2, vI x2), (3, vI x3), (4, vI x4), (5, vI x5)]) dX11_whoDid_90 (by decide) rfl ?_
                refine x_iconst C.1 (n := 0) dX11_whoDid_92 ?_
                refine x_istore C.1 (lv' := [(9, vI 0), (8, vI (-2)), (6, vJ 1), (0, .ref (ad 0)), (1, vI x1), (2, vI x2), (3, vI x3), (4, vI x4), (5, vI x5)]) dX11_whoDid_93 (by decide) rfl ?_
                refine x_iconst C.1 (n := 0) dX11_whoDid_95 ?_
                refine x_istore C.1 (lv' := [(10, vI 0), (9, vI 0), (8, vI (-2)), (6, vJ 1), (0, .ref (ad 0)), (1, vI x1), (2, vI x2), (3, vI x3), (4, vI x4), (5, vI x5)]) dX11_whoDid_96 (by decide) rfl ?_
                obtain ⟨bd3726, hbd3726, hF⟩ := lop4_ex hF
                refine x_loop (I := fun x : Int × Int × Int × Int => match x with | (z3722, z3723, z3724, z3725) => (0 ≤ z3722 ∧ z3722 ≤ 6) ∧ (-2147483648 ≤ z3723 ∧ z3723 ≤ 2147483647) ∧ (-2 ≤ z3724 ∧ z3724 ≤ 2147483647) ∧ (-9223372036854775808 ≤ z3725 ∧ z3725 ≤ 9223372036854775807) ∧ (∃ nf : Nat, (7 - z3722).toNat < nf ∧ Imp (lop4 nf bd3726 z3722 z3723 z3724 z3725) (f_s_whoDid x1 x2 x3 x4 x5 V J Rr))) (μ := fun x : Int × Int × Int × Int => match x with | (z3722, z3723, z3724, z3725) => (7 - z3722).toNat) (wsf := fun x : Int × Int × Int × Int => match x with | (z3722, z3723, z3724, z3725) => XW cy ad V J Rr) (lvf := fun x : Int × Int × Int × Int => match x with | (z3722, z3723, z3724, z3725) => [(10, vI z3722), (9, vI z3723), (8, vI z3724), (6, vJ z3725), (0, .ref (ad 0)), (1, vI x1), (2, vI x2), (3, vI x3), (4, vI x4), (5, vI x5)]) (fun x hI3726x ih3726 => ?_) (0, 0, (-2), 1) ⟨⟨by decide, by decide⟩, ⟨by decide, by decide⟩, ⟨by decide, by decide⟩, ⟨by decide, by decide⟩, ⟨_, (by omega), hF⟩⟩ rfl rfl
                obtain ⟨z3722, z3723, z3724, z3725⟩ := x
                obtain ⟨bz3722, bz3723, bz3724, bz3725, nf3726, hn3726, hF⟩ := hI3726x
                try dsimp only
                obtain ⟨nf3726, rfl⟩ : ∃ mm, nf3726 = mm + 1 := ⟨nf3726 - 1, (Nat.succ_pred_eq_of_pos (Nat.lt_of_le_of_lt (Nat.zero_le _) hn3726)).symm⟩
                replace hF := hF.to (lop4_s hbd3726)
                refine x_iload C.1 dX11_whoDid_98 0 rfl ?_
                refine x_iload_n C.1 dX11_whoDid_100 5 rfl ?_
                refine x_icmp_ge C.1 (tgt := 205) dX11_whoDid_101 (by decide) (by omega) (by omega) (fun hc4747 => ?_) (fun hc4747 => ?_)
                · replace hF := hF.to (if_pos hc4747)
                  refine x_aload_n C.1 dX11_whoDid_205 4 rfl ?_
                  refine x_getA C (N := 129) (i := 0) (by decide) rfl vc_X11 wx_X11 4 (by decide) wf_X11_25 (a := 58) rfl dX11_whoDid_206 ?_
                  refine x_iconst C.1 (n := 0) dX11_whoDid_209 ?_
                  refine x_putI C (N := 129) (i := 58) (by decide) rfl vc_X8 wx_X8 1 (by decide) wf_X11_120 tyX8 tyX8_ok nmX8 rfl (tyX8_ok 1 (by decide)) rfl dX11_whoDid_210 rfl rfl ?_
                  refine x_gV ?_
                  intro V4748 hV4748
                  have hI4748 : XI G V4748 := hI.up hV4748 rfl (by decide) rfl
                  have hB4748 := hB.up hV4748 (⟨by decide, by decide⟩)
                  replace hF := hF.to (rdb_e (z := V4748) hV4748.symm)
                  refine x_iload C.1 dX11_whoDid_213 9 rfl ?_
                  refine x_if_ne C.1 (tgt := 221) dX11_whoDid_215 (by decide) (by omega) (fun hc4749 => ?_) (fun hc4749 => ?_)
                  · replace hF := hF.to (if_pos hc4749)
                    refine x_iload C.1 dX11_whoDid_221 9 rfl ?_
                    refine x_iconst C.1 (n := 1) dX11_whoDid_223 ?_
                    refine x_icmp_ne C.1 (tgt := 233) dX11_whoDid_224 (by decide) (by omega) (by decide) (fun hc4750 => ?_) (fun hc4750 => ?_)
                    · replace hF := hF.to (if_pos hc4750)
                      refine x_lload C.1 dX11_whoDid_233 3 rfl ?_
                      refine x_lconst0 C.1 dX11_whoDid_235 ?_
                      refine x_lcmp C.1 rfl dX11_whoDid_236 (by omega) (by decide) ?_
                      have bz4751 := lcI_r2 z3725 0
                      refine x_if_ne C.1 (tgt := 244) dX11_whoDid_237 (by decide) (by omega) (fun hc4752 => ?_) (fun hc4752 => ?_)
                      · replace hF := hF.to (if_pos hc4752)
                        rw [lcI_eq] at hc4752
                        refine x_iload C.1 dX11_whoDid_244 1 rfl ?_
                        refine x_i2l C.1 dX11_whoDid_246 (by omega) ?_
                        exact x_lret (S := (Nat → Nat → Int)) (post := (fun a (u : Nat → Nat → Int) => XI G u ∧ FB (fun i k : Nat => (58 ≤ i ∧ i ≤ 59)) V u ∧ (f_s_whoDid x1 x2 x3 x4 x5 V J Rr) (a, u))) (w1 := (fun u : Nat → Nat → Int => XW cy ad u J Rr)) (a := z3723) C hr rfl dX11_whoDid_247 (by omega) V4748 rfl ⟨hI4748, hB4748, hF _ rfl⟩
                      · replace hF := hF.to (if_neg (fun hh => hh hc4752))
                        rw [lcI_eq] at hc4752
                        refine x_lconst0 C.1 dX11_whoDid_240 ?_
                        refine x_goto C.1 (tgt := 247) dX11_whoDid_241 (by decide) ?_
                        exact x_lret (S := (Nat → Nat → Int)) (post := (fun a (u : Nat → Nat → Int) => XI G u ∧ FB (fun i k : Nat => (58 ≤ i ∧ i ≤ 59)) V u ∧ (f_s_whoDid x1 x2 x3 x4 x5 V J Rr) (a, u))) (w1 := (fun u : Nat → Nat → Int => XW cy ad u J Rr)) (a := 0) C hr rfl dX11_whoDid_247 (by decide) V4748 rfl ⟨hI4748, hB4748, hF _ rfl⟩
                    · replace hF := hF.to (if_neg (fun hh => hh hc4750))
                      refine x_iload C.1 dX11_whoDid_227 2 rfl ?_
                      refine x_i2l C.1 dX11_whoDid_229 (by omega) ?_
                      refine x_goto C.1 (tgt := 247) dX11_whoDid_230 (by decide) ?_
                      exact x_lret (S := (Nat → Nat → Int)) (post := (fun a (u : Nat → Nat → Int) => XI G u ∧ FB (fun i k : Nat => (58 ≤ i ∧ i ≤ 59)) V u ∧ (f_s_whoDid x1 x2 x3 x4 x5 V J Rr) (a, u))) (w1 := (fun u : Nat → Nat → Int => XW cy ad u J Rr)) (a := z3724) C hr rfl dX11_whoDid_247 (by omega) V4748 rfl ⟨hI4748, hB4748, hF _ rfl⟩
                  · replace hF := hF.to (if_neg (fun hh => hh hc4749))
                    refine x_lload C.1 dX11_whoDid_218 3 rfl ?_
                    exact x_lret (S := (Nat → Nat → Int)) (post := (fun a (u : Nat → Nat → Int) => XI G u ∧ FB (fun i k : Nat => (58 ≤ i ∧ i ≤ 59)) V u ∧ (f_s_whoDid x1 x2 x3 x4 x5 V J Rr) (a, u))) (w1 := (fun u : Nat → Nat → Int => XW cy ad u J Rr)) (a := z3725) C hr rfl dX11_whoDid_220 (by omega) V4748 rfl ⟨hI4748, hB4748, hF _ rfl⟩
                · replace hF := hF.to (if_neg hc4747)
                  refine x_iconst C.1 (n := 0) dX11_whoDid_104 ?_
                  refine x_istore C.1 (lv' := [(11, vI 0), (10, vI z3722), (9, vI z3723), (8, vI z3724), (6, vJ z3725), (0, .ref (ad 0)), (1, vI x1), (2, vI x2), (3, vI x3), (4, vI x4), (5, vI x5)]) dX11_whoDid_105 (by decide) rfl ?_
                  refine x_iload_n C.1 dX11_whoDid_107 7 rfl ?_
                  refine x_istore C.1 (lv' := [(12, vI x2), (11, vI 0), (10, vI z3722), (9, vI z3723), (8, vI z3724), (6, vJ z3725), (0, .ref (ad 0)), (1, vI x1), (2, vI x2), (3, vI x3), (4, vI x4), (5, vI x5)]) dX11_whoDid_108 (by decide) rfl ?_
                  refine x_iconst C.1 (n := 0) dX11_whoDid_110 ?_
                  refine x_istore C.1 (lv' := [(13, vI 0), (12, vI x2), (11, vI 0), (10, vI z3722), (9, vI z3723), (8, vI z3724), (6, vJ z3725), (0, .ref (ad 0)), (1, vI x1), (2, vI x2), (3, vI x3), (4, vI x4), (5, vI x5)]) dX11_whoDid_111 (by decide) rfl ?_
                  obtain ⟨bd5006, hbd5006, hF⟩ := lop3_ex hF
                  refine x_loop (I := fun x : Int × Int × Int => match x with | (z5003, z5004, z5005) => (0 ≤ z5003 ∧ z5003 ≤ 256) ∧ (0 ≤ z5004 ∧ z5004 ≤ 255) ∧ (-2147483648 ≤ z5005 ∧ z5005 ≤ 2147483647) ∧ (∃ nf : Nat, (257 - z5003).toNat < nf ∧ Imp (lop3 nf bd5006 z5003 z5004 z5005) (f_s_whoDid x1 x2 x3 x4 x5 V J Rr))) (μ := fun x : Int × Int × Int => match x with | (z5003, z5004, z5005) => (257 - z5003).toNat) (wsf := fun x : Int × Int × Int => match x with | (z5003, z5004, z5005) => XW cy ad V J Rr) (lvf := fun x : Int × Int × Int => match x with | (z5003, z5004, z5005) => [(13, vI z5003), (12, vI z5004), (11, vI z5005), (10, vI z3722), (9, vI z3723), (8, vI z3724), (6, vJ z3725), (0, .ref (ad 0)), (1, vI x1), (2, vI x2), (3, vI x3), (4, vI x4), (5, vI x5)]) (fun x hI5006x ih5006 => ?_) (0, x2, 0) ⟨⟨by decide, by decide⟩, ⟨by omega, by omega⟩, ⟨by decide, by decide⟩, ⟨_, (by omega), hF⟩⟩ rfl rfl
                  obtain ⟨z5003, z5004, z5005⟩ := x
                  obtain ⟨bz5003, bz5004, bz5005, nf5006, hn5006, hF⟩ := hI5006x
                  try dsimp only
                  obtain ⟨nf5006, rfl⟩ : ∃ mm, nf5006 = mm + 1 := ⟨nf5006 - 1, (Nat.succ_pred_eq_of_pos (Nat.lt_of_le_of_lt (Nat.zero_le _) hn5006)).symm⟩
                  replace hF := hF.to (lop3_s hbd5006)
                  refine x_iload C.1 dX11_whoDid_113 0 rfl ?_
                  refine x_iload_n C.1 dX11_whoDid_115 9 rfl ?_
                  refine x_icmp_gt C.1 (tgt := 163) dX11_whoDid_116 (by decide) (by omega) (by omega) (fun hc5066 => ?_) (fun hc5066 => ?_)
                  · replace hF := hF.to (if_pos hc5066)
                    refine x_iload C.1 dX11_whoDid_163 2 rfl ?_
                    obtain ⟨jf5069, hjf5069, hF⟩ := jn_ex hF
                    refine x_join (I := fun z5068 : Int => (-2 ≤ z5068 ∧ z5068 ≤ 2147483647) ∧ Imp (jf5069 z5068) (f_s_whoDid x1 x2 x3 x4 x5 V J Rr)) (wsf := fun z5068 : Int => XW cy ad V J Rr) (lvf := fun z5068 : Int => [(13, vI z5003), (12, vI z5004), (11, vI z5005), (10, vI z3722), (9, vI z3723), (8, vI z3724), (6, vJ z3725), (0, .ref (ad 0)), (1, vI x1), (2, vI x2), (3, vI x3), (4, vI x4), (5, vI x5)]) (stf := fun z5068 : Int => [vI z5068]) 182 (fun z5068 hI5069x => ?_) (fun jn5069 => ?_)
                    · obtain ⟨bz5068, hF⟩ := hI5069x
                      try dsimp only
                      replace hF := hF.to (jn_s1 hjf5069)
                      refine x_istore C.1 (lv' := [(8, vI z5068), (13, vI z5003), (12, vI z5004), (11, vI z5005), (10, vI z3722), (9, vI z3723), (6, vJ z3725), (0, .ref (ad 0)), (1, vI x1), (2, vI x2), (3, vI x3), (4, vI x4), (5, vI x5)]) dX11_whoDid_182 (by decide) rfl ?_
                      refine x_lload C.1 dX11_whoDid_184 6 rfl ?_
                      refine x_iload C.1 dX11_whoDid_186 3 rfl ?_
                      refine x_i2l C.1 dX11_whoDid_188 (by omega) ?_
                      refine x_lmul C.1 rfl dX11_whoDid_189 ?_
                      refine x_wrapJg ?_
                      intro z5070 bz5070 ew5070
                      replace hF := hF.to (rdb_e (z := z5070) ew5070.symm)
                      refine x_lstore C.1 (lv' := [(6, vJ z5070), (8, vI z5068), (13, vI z5003), (12, vI z5004), (11, vI z5005), (10, vI z3722), (9, vI z3723), (0, .ref (ad 0)), (1, vI x1), (2, vI x2), (3, vI x3), (4, vI x4), (5, vI x5)]) dX11_whoDid_190 (by decide) rfl ?_
                      refine x_iload C.1 dX11_whoDid_192 6 rfl ?_
                      refine x_iload C.1 dX11_whoDid_194 3 rfl ?_
                      obtain ⟨z5071, hz5071, bz5071⟩ : ∃ z : Int, iOr z3723 z5004 = z ∧ (-2147483648 ≤ z ∧ z ≤ 2147483647) := ⟨_, rfl, xi_r _⟩
                      replace hF := hF.to (rdb_e (z := z5071) hz5071)
                      refine x_ior C.1 (v := z5071) hz5071 dX11_whoDid_196 ?_
                      refine x_istore C.1 (lv' := [(9, vI z5071), (6, vJ z5070), (8, vI z5068), (13, vI z5003), (12, vI z5004), (11, vI z5005), (10, vI z3722), (0, .ref (ad 0)), (1, vI x1), (2, vI x2), (3, vI x3), (4, vI x4), (5, vI x5)]) dX11_whoDid_197 (by decide) rfl ?_
                      refine x_iinc C.1 (v := z3722 + 1) (lv' := [(10, vI (z3722 + 1)), (9, vI z5071), (6, vJ z5070), (8, vI z5068), (13, vI z5003), (12, vI z5004), (11, vI z5005), (0, .ref (ad 0)), (1, vI x1), (2, vI x2), (3, vI x3), (4, vI x4), (5, vI x5)]) (by omega) dX11_whoDid_199 6 rfl (by decide) rfl ?_
                      refine x_goto C.1 (tgt := 98) dX11_whoDid_202 (by decide) ?_
                      refine x_lv [(10, vI (z3722 + 1)), (9, vI z5071), (8, vI z5068), (6, vJ z5070), (0, .ref (ad 0)), (1, vI x1), (2, vI x2), (3, vI x3), (4, vI x4), (5, vI x5)] [0, 1, 3, 2, 7, 8, 9, 10, 11, 12] rfl ?_
                      have hmu3726 : (7 - (z3722 + 1)).toNat < (7 - z3722).toNat := (by omega)
                      exact ih3726 (z3722 + 1, z5071, z5068, z5070) ⟨⟨by omega, by omega⟩, ⟨by omega, by omega⟩, ⟨by omega, by omega⟩, ⟨by omega, by omega⟩, ⟨nf3726, Nat.lt_of_lt_of_le hmu3726 (Nat.le_of_lt_succ hn3726), hF⟩⟩ hmu3726
                    · refine x_if_ne C.1 (tgt := 180) dX11_whoDid_165 (by decide) (by omega) (fun hc5072 => ?_) (fun hc5072 => ?_)
                      · replace hF := hF.to (if_pos hc5072)
                        refine x_iload C.1 dX11_whoDid_180 5 rfl ?_
                        exact jn5069 z3724 ⟨⟨by omega, by omega⟩, hF⟩
                      · replace hF := hF.to (if_neg (fun hh => hh hc5072))
                        refine x_iload C.1 dX11_whoDid_168 5 rfl ?_
                        refine x_bipush C.1 (n := -2) dX11_whoDid_170 ?_
                        refine x_icmp_ne C.1 (tgt := 180) dX11_whoDid_172 (by decide) (by omega) (by decide) (fun hc5073 => ?_) (fun hc5073 => ?_)
                        · replace hF := hF.to (if_pos hc5073)
                          refine x_iload C.1 dX11_whoDid_180 5 rfl ?_
                          exact jn5069 z3724 ⟨⟨by omega, by omega⟩, hF⟩
                        · replace hF := hF.to (if_neg (fun hh => hh hc5073))
                          refine x_iload C.1 dX11_whoDid_175 3 rfl ?_
                          refine x_goto C.1 (tgt := 182) dX11_whoDid_177 (by decide) ?_
                          exact jn5069 z3722 ⟨⟨by omega, by omega⟩, hF⟩
                  · replace hF := hF.to (if_neg hc5066)
                    refine x_iload C.1 dX11_whoDid_119 0 rfl ?_
                    refine x_iload_n C.1 dX11_whoDid_121 9 rfl ?_
                    obtain ⟨z5074, hz5074, bz5074⟩ : ∃ z : Int, iAnd z5003 x2 = z ∧ (0 ≤ z ∧ z ≤ 255) := ⟨_, rfl, iAnd_leB _ (by omega)⟩
                    replace hF := hF.to (rdb_e (z := z5074) hz5074)
                    replace hF := hF.fc bz5074
                    refine x_iand C.1 (v := z5074) hz5074 dX11_whoDid_122 ?_
                    refine x_iload C.1 dX11_whoDid_123 0 rfl ?_
                    obtain ⟨jf5083, hjf5083, hF⟩ := jn_ex hF
                    refine x_join (I := fun x : Int × Int => match x with | (z5081, z5082) => (0 ≤ z5081 ∧ z5081 ≤ 255) ∧ (-2147483648 ≤ z5082 ∧ z5082 ≤ 2147483647) ∧ Imp (jf5083 z5081 z5082) (f_s_whoDid x1 x2 x3 x4 x5 V J Rr)) (wsf := fun x : Int × Int => match x with | (z5081, z5082) => XW cy ad V J Rr) (lvf := fun x : Int × Int => match x with | (z5081, z5082) => [(13, vI z5003), (12, vI z5081), (11, vI z5082), (10, vI z3722), (9, vI z3723), (8, vI z3724), (6, vJ z3725), (0, .ref (ad 0)), (1, vI x1), (2, vI x2), (3, vI x3), (4, vI x4), (5, vI x5)]) (stf := fun x : Int × Int => match x with | (z5081, z5082) => []) 157 (fun x hI5083x => ?_) (fun jn5083 => ?_)
                    · obtain ⟨z5081, z5082⟩ := x
                      obtain ⟨bz5081, bz5082, hF⟩ := hI5083x
                      try dsimp only
                      replace hF := hF.to (jn_s2 hjf5083)
                      refine x_iinc C.1 (v := z5003 + 1) (lv' := [(13, vI (z5003 + 1)), (12, vI z5081), (11, vI z5082), (10, vI z3722), (9, vI z3723), (8, vI z3724), (6, vJ z3725), (0, .ref (ad 0)), (1, vI x1), (2, vI x2), (3, vI x3), (4, vI x4), (5, vI x5)]) (by omega) dX11_whoDid_157 0 rfl (by decide) rfl ?_
                      refine x_goto C.1 (tgt := 113) dX11_whoDid_160 (by decide) ?_
                      have hmu5006 : (257 - (z5003 + 1)).toNat < (257 - z5003).toNat := (by omega)
                      exact ih5006 (z5003 + 1, z5081, z5082) ⟨⟨by omega, by omega⟩, ⟨by omega, by omega⟩, ⟨by omega, by omega⟩, ⟨nf5006, Nat.lt_of_lt_of_le hmu5006 (Nat.le_of_lt_succ hn5006), hF⟩⟩ hmu5006
                    · refine x_icmp_ne C.1 (tgt := 157) dX11_whoDid_125 (by decide) (by omega) (by omega) (fun hc5084 => ?_) (fun hc5084 => ?_)
                      · replace hF := hF.to (if_pos hc5084)
                        exact jn5083 (z5004, z5005) ⟨⟨by omega, by omega⟩, ⟨by omega, by omega⟩, hF⟩
                      · replace hF := hF.to (if_neg (fun hh => hh hc5084))
                        refine x_aload_n C.1 dX11_whoDid_128 7 rfl ?_
                        refine x_iload C.1 dX11_whoDid_129 3 rfl ?_
                        refine x_iload C.1 dX11_whoDid_131 0 rfl ?_
                        refine x_callSi C (As := [vI z5003]) (rest := [vI z3722, .ref (ad 0)]) (s_bitCount l D cy z5003 ⟨by omega, by omega⟩) (l1 := []) (l2 := _) rfl (w2 := fun _ => _) (fun _ => rfl) rfl wm_yJ6_bitCount_0f7a4 wn_J6 wl_X11_160 wi_yJ6_bitCount_0f7a4 hd_yJ6_bitCount_0f7a4 rfl ⟨Nat.le_of_ble_eq_true rfl, Nat.le_of_ble_eq_true rfl⟩ (Nat.le_of_ble_eq_true rfl) ⟨Nat.le_of_ble_eq_true rfl, Nat.le_of_ble_eq_true rfl⟩ dX11_whoDid_133 (fun z5085 u5085 bz5085 h5085 => ?_)
                        obtain ⟨bq5085, hFc5085⟩ := h5085
                        replace hF := calR_i hF hFc5085
                        replace hF := hF.fc bq5085
                        refine x_iload_n C.1 dX11_whoDid_136 10 rfl ?_
                        obtain ⟨z5086, hz5086, bz5086⟩ := mulB (x := z5085) (y := x3) (A := 63) (B := 9) (by omega) (by omega)
                        replace hF := hF.to (rdb_e (z := z5086) hz5086)
                        replace hF := hF.fc bz5086
                        refine x_imul C.1 (v := z5086) hz5086 dX11_whoDid_137 ?_
                        refine x_iload C.1 dX11_whoDid_138 11 rfl ?_
                        refine x_isub C.1 (v := z5086 - x4) (by omega) dX11_whoDid_140 ?_
                        refine x_callVi C (As := [vI z3722, vI (z5086 - x4)]) (rest := []) 0 (xw_at (N := 129) (i := 0) (by decide) rfl) vc_X11 (s_fits l D cy ad G V J Rr hI hJ hR z3722 ⟨by omega, by omega⟩ (z5086 - x4) ⟨by omega, by omega⟩) (l1 := []) (l2 := []) (List.append_nil _).symm (w2 := fun _ => XW cy ad V J Rr) (fun _ => List.append_nil _) rfl wm_yX11_fits wn_X11 wl_X11_320 wi_yX11_fits we_yX11_fits hd_yX11_fits rfl ⟨Nat.le_of_ble_eq_true rfl, Nat.le_of_ble_eq_true rfl⟩ (Nat.le_of_ble_eq_true rfl) ⟨Nat.le_of_ble_eq_true rfl, Nat.le_of_ble_eq_true rfl⟩ dX11_whoDid_141 (fun z5087 u5087 bz5087 h5087 => ?_)
                        obtain ⟨bq5087, hFc5087⟩ := h5087
                        replace hF := calR_i hF hFc5087
                        replace hF := hF.fc bq5087
                        refine x_if_eq C.1 (tgt := 157) dX11_whoDid_144 (by decide) (by omega) (fun hc5088 => ?_) (fun hc5088 => ?_)
                        · replace hF := hF.to (if_pos hc5088)
                          exact jn5083 (z5004, z5005) ⟨⟨by omega, by omega⟩, ⟨by omega, by omega⟩, hF⟩
                        · replace hF := hF.to (if_neg hc5088)
                          refine x_iinc C.1 (v := z5005 + 1) (lv' := [(11, vI (z5005 + 1)), (13, vI z5003), (12, vI z5004), (10, vI z3722), (9, vI z3723), (8, vI z3724), (6, vJ z3725), (0, .ref (ad 0)), (1, vI x1), (2, vI x2), (3, vI x3), (4, vI x4), (5, vI x5)]) (by omega) dX11_whoDid_147 2 rfl (by decide) rfl ?_
                          refine x_wrapl ?_
                          intro z5089 bz5089 ew5089
                          replace hF := hF.to (rdb_e (z := z5089) ew5089.symm)
                          refine x_iload C.1 dX11_whoDid_150 2 rfl ?_
                          refine x_iload C.1 dX11_whoDid_152 1 rfl ?_
                          obtain ⟨z5090, hz5090, bz5090⟩ : ∃ z : Int, iAnd z5004 z5003 = z ∧ (0 ≤ z ∧ z ≤ 255) := ⟨_, rfl, iAnd_leB _ (by omega)⟩
                          replace hF := hF.to (rdb_e (z := z5090) hz5090)
                          replace hF := hF.fc bz5090
                          refine x_iand C.1 (v := z5090) hz5090 dX11_whoDid_154 ?_
                          refine x_istore C.1 (lv' := [(12, vI z5090), (11, vI z5089), (13, vI z5003), (10, vI z3722), (9, vI z3723), (8, vI z3724), (6, vJ z3725), (0, .ref (ad 0)), (1, vI x1), (2, vI x2), (3, vI x3), (4, vI x4), (5, vI x5)]) dX11_whoDid_155 (by decide) rfl ?_
                          refine x_lv [(13, vI z5003), (12, vI z5090), (11, vI z5089), (10, vI z3722), (9, vI z3723), (8, vI z3724), (6, vJ z3725), (0, .ref (ad 0)), (1, vI x1), (2, vI x2), (3, vI x3), (4, vI x4), (5, vI x5)] [2, 0, 1, 3, 4, 5, 6, 7, 8, 9, 10, 11, 12] rfl ?_
                          exact jn5083 (z5090, z5089) ⟨⟨by omega, by omega⟩, ⟨by omega, by omega⟩, hF⟩
              · replace hF := hF.to (if_neg hc19)
                refine x_ldc2 C.1 (n := -1) wq_X11_201 dX11_whoDid_81 ?_
                exact x_lret (S := (Nat → Nat → Int)) (post := (fun a (u : Nat → Nat → Int) => XI G u ∧ FB (fun i k : Nat => (58 ≤ i ∧ i ≤ 59)) V u ∧ (f_s_whoDid x1 x2 x3 x4 x5 V J Rr) (a, u))) (w1 := (fun u : Nat → Nat → Int => XW cy ad u J Rr)) (a := (-1)) C hr rfl dX11_whoDid_84 (by decide) V rfl ⟨hI, hB, hF _ rfl⟩
            · replace hF := hF.to (if_neg (fun hh => hh hc16))
              refine x_ldc2 C.1 (n := -1) wq_X11_201 dX11_whoDid_64 ?_
              exact x_lret (S := (Nat → Nat → Int)) (post := (fun a (u : Nat → Nat → Int) => XI G u ∧ FB (fun i k : Nat => (58 ≤ i ∧ i ≤ 59)) V u ∧ (f_s_whoDid x1 x2 x3 x4 x5 V J Rr) (a, u))) (w1 := (fun u : Nat → Nat → Int => XW cy ad u J Rr)) (a := (-1)) C hr rfl dX11_whoDid_67 (by decide) V rfl ⟨hI, hB, hF _ rfl⟩
      · replace hF := hF.to (if_neg hc8)
        refine x_ldc2 C.1 (n := -1) wq_X11_201 dX11_whoDid_29 ?_
        exact x_lret (S := (Nat → Nat → Int)) (post := (fun a (u : Nat → Nat → Int) => XI G u ∧ FB (fun i k : Nat => (58 ≤ i ∧ i ≤ 59)) V u ∧ (f_s_whoDid x1 x2 x3 x4 x5 V J Rr) (a, u))) (w1 := (fun u : Nat → Nat → Int => XW cy ad u J Rr)) (a := (-1)) C hr rfl dX11_whoDid_32 (by decide) V rfl ⟨hI, hB, hF _ rfl⟩
theorem dX11_can_0 : decode cX11_can 0 = .ok (.iload_n 1, 1) := by decide +kernel
theorem dX11_can_1 : decode cX11_can 1 = .ok (.iconst 1, 1) := by decide +kernel
theorem dX11_can_2 : decode cX11_can 2 = .ok (.bipush 6, 2) := by decide +kernel
theorem dX11_can_4 : decode cX11_can 4 = .ok (.invokestatic 74, 3) := by decide +kernel
theorem dX11_can_7 : decode cX11_can 7 = .ok (.ifCond .eq 13, 3) := by decide +kernel
theorem dX11_can_10 : decode cX11_can 10 = .ok (.iload_n 2, 1) := by decide +kernel
theorem dX11_can_11 : decode cX11_can 11 = .ok (.iconst 1, 1) := by decide +kernel
theorem dX11_can_12 : decode cX11_can 12 = .ok (.bipush 9, 2) := by decide +kernel
theorem dX11_can_14 : decode cX11_can 14 = .ok (.invokestatic 74, 3) := by decide +kernel
theorem dX11_can_17 : decode cX11_can 17 = .ok (.ifCond .ne 7, 3) := by decide +kernel
theorem dX11_can_20 : decode cX11_can 20 = .ok (.ldc2_w 201, 3) := by decide +kernel
theorem dX11_can_23 : decode cX11_can 23 = .ok (.lreturn, 1) := by decide +kernel
theorem dX11_can_24 : decode cX11_can 24 = .ok (.iload_n 3, 1) := by decide +kernel
theorem dX11_can_25 : decode cX11_can 25 = .ok (.iconst 0, 1) := by decide +kernel
theorem dX11_can_26 : decode cX11_can 26 = .ok (.bipush 60, 2) := by decide +kernel
theorem dX11_can_28 : decode cX11_can 28 = .ok (.invokestatic 74, 3) := by decide +kernel
theorem dX11_can_31 : decode cX11_can 31 = .ok (.ifCond .eq 24, 3) := by decide +kernel
theorem dX11_can_34 : decode cX11_can 34 = .ok (.iload 4, 2) := by decide +kernel
theorem dX11_can_36 : decode cX11_can 36 = .ok (.iconst 0, 1) := by decide +kernel
theorem dX11_can_37 : decode cX11_can 37 = .ok (.iconst 1, 1) := by decide +kernel
theorem dX11_can_38 : decode cX11_can 38 = .ok (.invokestatic 74, 3) := by decide +kernel
theorem dX11_can_41 : decode cX11_can 41 = .ok (.ifCond .eq 14, 3) := by decide +kernel
theorem dX11_can_44 : decode cX11_can 44 = .ok (.iload_n 1, 1) := by decide +kernel
theorem dX11_can_45 : decode cX11_can 45 = .ok (.aload_n 0, 1) := by decide +kernel
theorem dX11_can_46 : decode cX11_can 46 = .ok (.getfield 25, 3) := by decide +kernel
theorem dX11_can_49 : decode cX11_can 49 = .ok (.getfield 120, 3) := by decide +kernel
theorem dX11_can_52 : decode cX11_can 52 = .ok (.if_icmp .le 7, 3) := by decide +kernel
theorem dX11_can_55 : decode cX11_can 55 = .ok (.ldc2_w 201, 3) := by decide +kernel
theorem dX11_can_58 : decode cX11_can 58 = .ok (.lreturn, 1) := by decide +kernel
theorem dX11_can_59 : decode cX11_can 59 = .ok (.aload_n 0, 1) := by decide +kernel
theorem dX11_can_60 : decode cX11_can 60 = .ok (.iload_n 1, 1) := by decide +kernel
theorem dX11_can_61 : decode cX11_can 61 = .ok (.invokevirtual 276, 3) := by decide +kernel
theorem dX11_can_64 : decode cX11_can 64 = .ok (.istore 5, 2) := by decide +kernel
theorem dX11_can_66 : decode cX11_can 66 = .ok (.aload_n 0, 1) := by decide +kernel
theorem dX11_can_67 : decode cX11_can 67 = .ok (.getfield 25, 3) := by decide +kernel
theorem dX11_can_70 : decode cX11_can 70 = .ok (.iconst 0, 1) := by decide +kernel
theorem dX11_can_71 : decode cX11_can 71 = .ok (.putfield 120, 3) := by decide +kernel
theorem dX11_can_74 : decode cX11_can 74 = .ok (.iload 5, 2) := by decide +kernel
theorem dX11_can_76 : decode cX11_can 76 = .ok (.ifCond .ne 7, 3) := by decide +kernel
theorem dX11_can_79 : decode cX11_can 79 = .ok (.ldc2_w 286, 3) := by decide +kernel
theorem dX11_can_82 : decode cX11_can 82 = .ok (.lreturn, 1) := by decide +kernel
theorem dX11_can_83 : decode cX11_can 83 = .ok (.lconst 0, 1) := by decide +kernel
theorem dX11_can_84 : decode cX11_can 84 = .ok (.lstore 6, 2) := by decide +kernel
theorem dX11_can_86 : decode cX11_can 86 = .ok (.iconst 0, 1) := by decide +kernel
theorem dX11_can_87 : decode cX11_can 87 = .ok (.istore 8, 2) := by decide +kernel
theorem dX11_can_89 : decode cX11_can 89 = .ok (.iload 8, 2) := by decide +kernel
theorem dX11_can_91 : decode cX11_can 91 = .ok (.iload_n 1, 1) := by decide +kernel
theorem dX11_can_92 : decode cX11_can 92 = .ok (.if_icmp .gt 56, 3) := by decide +kernel
theorem dX11_can_95 : decode cX11_can 95 = .ok (.iconst 0, 1) := by decide +kernel
theorem dX11_can_96 : decode cX11_can 96 = .ok (.iload_n 2, 1) := by decide +kernel
theorem dX11_can_97 : decode cX11_can 97 = .ok (.iload 8, 2) := by decide +kernel
theorem dX11_can_99 : decode cX11_can 99 = .ok (.imul, 1) := by decide +kernel
theorem dX11_can_100 : decode cX11_can 100 = .ok (.iload_n 3, 1) := by decide +kernel
theorem dX11_can_101 : decode cX11_can 101 = .ok (.isub, 1) := by decide +kernel
theorem dX11_can_102 : decode cX11_can 102 = .ok (.invokestatic 291, 3) := by decide +kernel
theorem dX11_can_105 : decode cX11_can 105 = .ok (.istore 9, 2) := by decide +kernel
theorem dX11_can_107 : decode cX11_can 107 = .ok (.iconst 0, 1) := by decide +kernel
theorem dX11_can_108 : decode cX11_can 108 = .ok (.iload_n 2, 1) := by decide +kernel
theorem dX11_can_109 : decode cX11_can 109 = .ok (.iload 8, 2) := by decide +kernel
theorem dX11_can_111 : decode cX11_can 111 = .ok (.iconst 1, 1) := by decide +kernel
theorem dX11_can_112 : decode cX11_can 112 = .ok (.invokestatic 323, 3) := by decide +kernel
theorem dX11_can_115 : decode cX11_can 115 = .ok (.imul, 1) := by decide +kernel
theorem dX11_can_116 : decode cX11_can 116 = .ok (.iload_n 3, 1) := by decide +kernel
theorem dX11_can_117 : decode cX11_can 117 = .ok (.isub, 1) := by decide +kernel
theorem dX11_can_118 : decode cX11_can 118 = .ok (.invokestatic 291, 3) := by decide +kernel
theorem dX11_can_121 : decode cX11_can 121 = .ok (.istore 10, 2) := by decide +kernel
theorem dX11_can_123 : decode cX11_can 123 = .ok (.lload 6, 2) := by decide +kernel
theorem dX11_can_125 : decode cX11_can 125 = .ok (.aload_n 0, 1) := by decide +kernel
theorem dX11_can_126 : decode cX11_can 126 = .ok (.getfield 66, 3) := by decide +kernel
theorem dX11_can_129 : decode cX11_can 129 = .ok (.iload 8, 2) := by decide +kernel
theorem dX11_can_131 : decode cX11_can 131 = .ok (.laload, 1) := by decide +kernel
theorem dX11_can_132 : decode cX11_can 132 = .ok (.iload 9, 2) := by decide +kernel
theorem dX11_can_134 : decode cX11_can 134 = .ok (.iload 10, 2) := by decide +kernel
theorem dX11_can_136 : decode cX11_can 136 = .ok (.isub, 1) := by decide +kernel
theorem dX11_can_137 : decode cX11_can 137 = .ok (.i2l, 1) := by decide +kernel
theorem dX11_can_138 : decode cX11_can 138 = .ok (.lmul, 1) := by decide +kernel
theorem dX11_can_139 : decode cX11_can 139 = .ok (.ladd, 1) := by decide +kernel
theorem dX11_can_140 : decode cX11_can 140 = .ok (.lstore 6, 2) := by decide +kernel
theorem dX11_can_142 : decode cX11_can 142 = .ok (.iinc 8 1, 3) := by decide +kernel
theorem dX11_can_145 : decode cX11_can 145 = .ok (.goto (-56), 3) := by decide +kernel
theorem dX11_can_148 : decode cX11_can 148 = .ok (.lload 6, 2) := by decide +kernel
theorem dX11_can_150 : decode cX11_can 150 = .ok (.iload_n 1, 1) := by decide +kernel
theorem dX11_can_151 : decode cX11_can 151 = .ok (.invokestatic 279, 3) := by decide +kernel
theorem dX11_can_154 : decode cX11_can 154 = .ok (.iload 4, 2) := by decide +kernel
theorem dX11_can_156 : decode cX11_can 156 = .ok (.invokestatic 282, 3) := by decide +kernel
theorem dX11_can_159 : decode cX11_can 159 = .ok (.lreturn, 1) := by decide +kernel
set_option maxRecDepth 100000 in
def f_s_can (x1 : Int) (x2 : Int) (x3 : Int) (x4 : Int) (V : Nat → Nat → Int) (J : Nat → Nat → Int) (Rr : Nat → Nat → Nat) : (Int × xS) → Prop :=
  calR (f_s_isWithin x1 1 6) fun z1 => fct (0 ≤ z1 ∧ z1 ≤ 1) <| (if z1 = 0 then rtn ((-1), (V, J, Rr)) else calR (f_s_isWithin x2 1 9) fun z4 => fct (0 ≤ z4 ∧ z4 ≤ 1) <| (if ¬ z4 = 0 then calR (f_s_isWithin x3 0 60) fun z7 => fct (0 ≤ z7 ∧ z7 ≤ 1) <| (if z7 = 0 then rtn ((-1), (V, J, Rr)) else calR (f_s_isWithin x4 0 1) fun z10 => fct (0 ≤ z10 ∧ z10 ≤ 1) <| (if z10 = 0 then rtn ((-1), (V, J, Rr)) else rdb (V 58 1) fun z13 => fct (0 ≤ z13 ∧ z13 ≤ 220) <| (if x1 ≤ z13 then calSX (fun _ _ => False) V (f_s_fillOdds x1 V J Rr) fun z15 V15 J15 R15 => fct (0 ≤ z15 ∧ z15 ≤ 1) <| rdb (up2 V15 58 1 0) fun V16 => (if ¬ z15 = 0 then lop2 (9) (fun rc120 (z118 : Int) (z119 : Int) => (if x1 < z118 then calR (f_s_power x1) fun z149 => calR (f_s_part z119 z149 x4) fun z150 => rtn (z150, (V16, J15, R15)) else rdb (x2 * z118) fun z151 => fct (0 ≤ z151 ∧ z151 ≤ 54) <| rdb (max 0 (z151 - x3)) fun z152 => fct (0 ≤ z152 ∧ z152 ≤ 54) <| rdb (min z118 1) fun z153 => fct (0 ≤ z153 ∧ z153 ≤ 1) <| rdb (x2 * z153) fun z154 => fct (0 ≤ z154 ∧ z154 ≤ 9) <| rdb (max 0 (z154 - x3)) fun z155 => fct (0 ≤ z155 ∧ z155 ≤ 9) <| rdb (J15 128 z118.toNat) fun z156 => rdb (wrJ (z156 * (z152 - z155))) fun z157 => rdb (wrJ (z119 + z157)) fun z158 => rc120 (z118 + 1) z158)) 0 0 else rtn ((-2), (V16, J15, R15))) else rtn ((-1), (V, J, Rr))))) else rtn ((-1), (V, J, Rr))))
set_option maxHeartbeats 8000000 in
set_option maxRecDepth 100000 in
theorem s_can (l : Launch) (D : va_G) (cy : Nat → ClassId) (ad : Nat → Nat) (G : Nat → Nat → Int) (V J : Nat → Nat → Int) (Rr : Nat → Nat → Nat) (hI : XI G V) (hJ : VJ J) (hR : XR Rr) (x1 : Int) (bx1 : -2147483648 ≤ x1 ∧ x1 ≤ 2147483647) (x2 : Int) (bx2 : -2147483648 ≤ x2 ∧ x2 ≤ 2147483647) (x3 : Int) (bx3 : -2147483648 ≤ x3 ∧ x3 ≤ 2147483647) (x4 : Int) (bx4 : -2147483648 ≤ x4 ∧ x4 ≤ 2147483647) : xMl l D (xTY cy) yX11_can cX11_can 11 (some .long) 2 50 0 0 [.ref (ad 0), vI x1, vI x2, vI x3, vI x4] (XW cy ad V J Rr) (fun u : xS => XW cy ad u.1 u.2.1 u.2.2) (fun a (u : xS) => XS G u ∧ FB (fun i k : Nat => (58 ≤ i ∧ i ≤ 59)) V u.1 ∧ RK u.2.2 Rr ∧ (f_s_can x1 x2 x3 x4 V J Rr) (a, u)) := by
  refine xMl.mk (lv0 := [(0, .ref (ad 0)), (1, vI x1), (2, vI x2), (3, vI x3), (4, vI x4)]) (by decide) rfl (Nat.le_of_ble_eq_true rfl) (fun p e s m below meth c A C hr hnm hAe => ?_)
  have C : xC2 p s m _ meth c D A s.heap 11 cX11_can RX11 (xTY cy) := C
  have hB : FB (fun i k : Nat => (58 ≤ i ∧ i ≤ 59)) V V := FB.rf _ _
  have hF := Imp.of_eq (f_s_can.eq_def x1 x2 x3 x4 V J Rr)
  refine x_iload_n C.1 dX11_can_0 1 rfl ?_
  refine x_iconst C.1 (n := 1) dX11_can_1 ?_
  refine x_bipush C.1 (n := 6) dX11_can_2 ?_
  refine x_callSi C (As := [vI x1, vI 1, vI 6]) (rest := []) (s_isWithin l D cy x1 ⟨by omega, by omega⟩ 1 ⟨by decide, by decide⟩ 6 ⟨by decide, by decide⟩) (l1 := []) (l2 := _) rfl (w2 := fun _ => _) (fun _ => rfl) rfl wm_yX11_isWithin wn_X11 wl_X11_74 wi_yX11_isWithin hd_yX11_isWithin rfl ⟨Nat.le_of_ble_eq_true rfl, Nat.le_of_ble_eq_true rfl⟩ (Nat.le_of_ble_eq_true rfl) ⟨Nat.le_of_ble_eq_true rfl, Nat.le_of_ble_eq_true rfl⟩ dX11_can_4 (fun z1 u1 bz1 h1 => ?_)
  obtain ⟨bq1, hx1_0, hFc1⟩ := h1
  replace hF := calR_i hF hFc1
  replace hF := hF.fc bq1
  refine x_if_eq C.1 (tgt := 20) dX11_can_7 (by decide) (by omega) (fun hc2 => ?_) (fun hc2 => ?_)
  · replace hF := hF.to (if_pos hc2)
    refine x_ldc2 C.1 (n := -1) wq_X11_201 dX11_can_20 ?_
    exact x_lret (S := xS) (post := (fun a (u : xS) => XS G u ∧ FB (fun i k : Nat => (58 ≤ i ∧ i ≤ 59)) V u.1 ∧ RK u.2.2 Rr ∧ (f_s_can x1 x2 x3 x4 V J Rr) (a, u))) (w1 := (fun u : xS => XW cy ad u.1 u.2.1 u.2.2)) (a := (-1)) C hr rfl dX11_can_23 (by decide) (V, J, Rr) rfl ⟨⟨hI, hJ, hR⟩, hB, (RK.rf _), hF _ rfl⟩
  · replace hF := hF.to (if_neg hc2)
    have hon3 := Sq.on hx1_0 (by omega)
    refine x_iload_n C.1 dX11_can_10 2 rfl ?_
    refine x_iconst C.1 (n := 1) dX11_can_11 ?_
    refine x_bipush C.1 (n := 9) dX11_can_12 ?_
    refine x_callSi C (As := [vI x2, vI 1, vI 9]) (rest := []) (s_isWithin l D cy x2 ⟨by omega, by omega⟩ 1 ⟨by decide, by decide⟩ 9 ⟨by decide, by decide⟩) (l1 := []) (l2 := _) rfl (w2 := fun _ => _) (fun _ => rfl) rfl wm_yX11_isWithin wn_X11 wl_X11_74 wi_yX11_isWithin hd_yX11_isWithin rfl ⟨Nat.le_of_ble_eq_true rfl, Nat.le_of_ble_eq_true rfl⟩ (Nat.le_of_ble_eq_true rfl) ⟨Nat.le_of_ble_eq_true rfl, Nat.le_of_ble_eq_true rfl⟩ dX11_can_14 (fun z4 u4 bz4 h4 => ?_)
    obtain ⟨bq4, hx4_0, hFc4⟩ := h4
    replace hF := calR_i hF hFc4
    replace hF := hF.fc bq4
    refine x_if_ne C.1 (tgt := 24) dX11_can_17 (by decide) (by omega) (fun hc5 => ?_) (fun hc5 => ?_)
    · replace hF := hF.to (if_pos hc5)
      have hon6 := Sq.on hx4_0 (by omega)
      refine x_iload_n C.1 dX11_can_24 3 rfl ?_
      refine x_iconst C.1 (n := 0) dX11_can_25 ?_
      refine x_bipush C.1 (n := 60) dX11_can_26 ?_
      refine x_callSi C (As := [vI x3, vI 0, vI 60]) (rest := []) (s_isWithin l D cy x3 ⟨by omega, by omega⟩ 0 ⟨by decide, by decide⟩ 60 ⟨by decide, by decide⟩) (l1 := []) (l2 := _) rfl (w2 := fun _ => _) (fun _ => rfl) rfl wm_yX11_isWithin wn_X11 wl_X11_74 wi_yX11_isWithin hd_yX11_isWithin rfl ⟨Nat.le_of_ble_eq_true rfl, Nat.le_of_ble_eq_true rfl⟩ (Nat.le_of_ble_eq_true rfl) ⟨Nat.le_of_ble_eq_true rfl, Nat.le_of_ble_eq_true rfl⟩ dX11_can_28 (fun z7 u7 bz7 h7 => ?_)
      obtain ⟨bq7, hx7_0, hFc7⟩ := h7
      replace hF := calR_i hF hFc7
      replace hF := hF.fc bq7
      refine x_if_eq C.1 (tgt := 55) dX11_can_31 (by decide) (by omega) (fun hc8 => ?_) (fun hc8 => ?_)
      · replace hF := hF.to (if_pos hc8)
        refine x_ldc2 C.1 (n := -1) wq_X11_201 dX11_can_55 ?_
        exact x_lret (S := xS) (post := (fun a (u : xS) => XS G u ∧ FB (fun i k : Nat => (58 ≤ i ∧ i ≤ 59)) V u.1 ∧ RK u.2.2 Rr ∧ (f_s_can x1 x2 x3 x4 V J Rr) (a, u))) (w1 := (fun u : xS => XW cy ad u.1 u.2.1 u.2.2)) (a := (-1)) C hr rfl dX11_can_58 (by decide) (V, J, Rr) rfl ⟨⟨hI, hJ, hR⟩, hB, (RK.rf _), hF _ rfl⟩
      · replace hF := hF.to (if_neg hc8)
        have hon9 := Sq.on hx7_0 (by omega)
        refine x_iload C.1 dX11_can_34 4 rfl ?_
        refine x_iconst C.1 (n := 0) dX11_can_36 ?_
        refine x_iconst C.1 (n := 1) dX11_can_37 ?_
        refine x_callSi C (As := [vI x4, vI 0, vI 1]) (rest := []) (s_isWithin l D cy x4 ⟨by omega, by omega⟩ 0 ⟨by decide, by decide⟩ 1 ⟨by decide, by decide⟩) (l1 := []) (l2 := _) rfl (w2 := fun _ => _) (fun _ => rfl) rfl wm_yX11_isWithin wn_X11 wl_X11_74 wi_yX11_isWithin hd_yX11_isWithin rfl ⟨Nat.le_of_ble_eq_true rfl, Nat.le_of_ble_eq_true rfl⟩ (Nat.le_of_ble_eq_true rfl) ⟨Nat.le_of_ble_eq_true rfl, Nat.le_of_ble_eq_true rfl⟩ dX11_can_38 (fun z10 u10 bz10 h10 => ?_)
        obtain ⟨bq10, hx10_0, hFc10⟩ := h10
        replace hF := calR_i hF hFc10
        replace hF := hF.fc bq10
        refine x_if_eq C.1 (tgt := 55) dX11_can_41 (by decide) (by omega) (fun hc11 => ?_) (fun hc11 => ?_)
        · replace hF := hF.to (if_pos hc11)
          refine x_ldc2 C.1 (n := -1) wq_X11_201 dX11_can_55 ?_
          exact x_lret (S := xS) (post := (fun a (u : xS) => XS G u ∧ FB (fun i k : Nat => (58 ≤ i ∧ i ≤ 59)) V u.1 ∧ RK u.2.2 Rr ∧ (f_s_can x1 x2 x3 x4 V J Rr) (a, u))) (w1 := (fun u : xS => XW cy ad u.1 u.2.1 u.2.2)) (a := (-1)) C hr rfl dX11_can_58 (by decide) (V, J, Rr) rfl ⟨⟨hI, hJ, hR⟩, hB, (RK.rf _), hF _ rfl⟩
        · replace hF := hF.to (if_neg hc11)
          have hon12 := Sq.on hx10_0 (by omega)
          refine x_iload_n C.1 dX11_can_44 1 rfl ?_
          refine x_aload_n C.1 dX11_can_45 0 rfl ?_
          refine x_getA C (N := 129) (i := 0) (by decide) rfl vc_X11 wx_X11 4 (by decide) wf_X11_25 (a := 58) rfl dX11_can_46 ?_
          obtain ⟨z13, ez13, bz13⟩ := hI.rd 58 1 (x := 0) (y := 220) rfl
          replace hF := hF.to (rdb_e (z := z13) ez13)
          replace hF := hF.fc bz13
          refine x_getI C (N := 129) (i := 58) (by decide) rfl vc_X8 wx_X8 1 (by decide) wf_X11_120 rfl dX11_can_49 (a := z13) ez13 ?_
          refine x_icmp_le C.1 (tgt := 59) dX11_can_52 (by decide) (by omega) (by omega) (fun hc14 => ?_) (fun hc14 => ?_)
          · replace hF := hF.to (if_pos hc14)
            refine x_aload_n C.1 dX11_can_59 0 rfl ?_
            refine x_iload_n C.1 dX11_can_60 1 rfl ?_
            refine x_callVi C (As := [vI x1]) (rest := []) 0 (xw_at (N := 129) (i := 0) (by decide) rfl) vc_X11 (s_fillOdds l D cy ad G V J Rr hI hJ hR x1 ⟨by omega, by omega⟩) (l1 := []) (l2 := []) (List.append_nil _).symm (w2 := fun u : xS => XW cy ad u.1 u.2.1 u.2.2) (fun _ => List.append_nil _) rfl wm_yX11_fillOdds wn_X11 wl_X11_276 wi_yX11_fillOdds we_yX11_fillOdds hd_yX11_fillOdds rfl ⟨Nat.le_of_ble_eq_true rfl, Nat.le_of_ble_eq_true rfl⟩ (Nat.le_of_ble_eq_true rfl) ⟨Nat.le_of_ble_eq_true rfl, Nat.le_of_ble_eq_true rfl⟩ dX11_can_61 (fun z15 u15 bz15 h15 => ?_)
            obtain ⟨V15, J15, R15⟩ := u15
            obtain ⟨hS15, bq15, hBc15, hEc15, hFc15⟩ := h15
            replace hF := calSX_i hF hFc15 hBc15
            replace hF := hF.fc bq15
            have hB15 := hB.tr hBc15 (fun _ _ h => h.elim)
            have hE15 : RK R15 Rr := RK.tr (RK.rf _) hEc15
            obtain ⟨hI15, hJ15, hR15⟩ := hS15
            dsimp only at hI15 hJ15 hR15 ⊢
            refine x_istore C.1 (lv' := [(5, vI z15), (0, .ref (ad 0)), (1, vI x1), (2, vI x2), (3, vI x3), (4, vI x4)]) dX11_can_64 (by decide) rfl ?_
            refine x_aload_n C.1 dX11_can_66 1 rfl ?_
            refine x_getA C (N := 129) (i := 0) (by decide) rfl vc_X11 wx_X11 4 (by decide) wf_X11_25 (a := 58) rfl dX11_can_67 ?_
            refine x_iconst C.1 (n := 0) dX11_can_70 ?_
            refine x_putI C (N := 129) (i := 58) (by decide) rfl vc_X8 wx_X8 1 (by decide) wf_X11_120 tyX8 tyX8_ok nmX8 rfl (tyX8_ok 1 (by decide)) rfl dX11_can_71 rfl rfl ?_
            refine x_gV ?_
            intro V16 hV16
            have hI16 : XI G V16 := hI15.up hV16 rfl (by decide) rfl
            have hB16 := hB15.up hV16 (⟨by decide, by decide⟩)
            replace hF := hF.to (rdb_e (z := V16) hV16.symm)
            refine x_iload C.1 dX11_can_74 0 rfl ?_
            refine x_if_ne C.1 (tgt := 83) dX11_can_76 (by decide) (by omega) (fun hc17 => ?_) (fun hc17 => ?_)
            · replace hF := hF.to (if_pos hc17)
              refine x_lconst0 C.1 dX11_can_83 ?_
              refine x_lstore C.1 (lv' := [(6, vJ 0), (5, vI z15), (0, .ref (ad 0)), (1, vI x1), (2, vI x2), (3, vI x3), (4, vI x4)]) dX11_can_84 (by decide) rfl ?_
              refine x_iconst C.1 (n := 0) dX11_can_86 ?_
              refine x_istore C.1 (lv' := [(8, vI 0), (6, vJ 0), (5, vI z15), (0, .ref (ad 0)), (1, vI x1), (2, vI x2), (3, vI x3), (4, vI x4)]) dX11_can_87 (by decide) rfl ?_
              obtain ⟨bd120, hbd120, hF⟩ := lop2_ex hF
              refine x_loop (I := fun x : Int × Int => match x with | (z118, z119) => (0 ≤ z118 ∧ z118 ≤ 7) ∧ (-9223372036854775808 ≤ z119 ∧ z119 ≤ 9223372036854775807) ∧ (∃ nf : Nat, (8 - z118).toNat < nf ∧ Imp (lop2 nf bd120 z118 z119) (f_s_can x1 x2 x3 x4 V J Rr))) (μ := fun x : Int × Int => match x with | (z118, z119) => (8 - z118).toNat) (wsf := fun x : Int × Int => match x with | (z118, z119) => XW cy ad V16 J15 R15) (lvf := fun x : Int × Int => match x with | (z118, z119) => [(8, vI z118), (6, vJ z119), (5, vI z15), (0, .ref (ad 0)), (1, vI x1), (2, vI x2), (3, vI x3), (4, vI x4)]) (fun x hI120x ih120 => ?_) (0, 0) ⟨⟨by decide, by decide⟩, ⟨by decide, by decide⟩, ⟨_, (by omega), hF⟩⟩ rfl rfl
              obtain ⟨z118, z119⟩ := x
              obtain ⟨bz118, bz119, nf120, hn120, hF⟩ := hI120x
              try dsimp only
              obtain ⟨nf120, rfl⟩ : ∃ mm, nf120 = mm + 1 := ⟨nf120 - 1, (Nat.succ_pred_eq_of_pos (Nat.lt_of_le_of_lt (Nat.zero_le _) hn120)).symm⟩
              replace hF := hF.to (lop2_s hbd120)
              refine x_iload C.1 dX11_can_89 0 rfl ?_
              refine x_iload_n C.1 dX11_can_91 4 rfl ?_
              refine x_icmp_gt C.1 (tgt := 148) dX11_can_92 (by decide) (by omega) (by omega) (fun hc148 => ?_) (fun hc148 => ?_)
              · replace hF := hF.to (if_pos hc148)
                refine x_lload C.1 dX11_can_148 1 rfl ?_
                refine x_iload_n C.1 dX11_can_150 4 rfl ?_
                refine x_callSl C (As := [vI x1]) (rest := [vJ z119]) (s_power l D cy x1 ⟨by omega, by omega⟩) (l1 := []) (l2 := _) rfl (w2 := fun _ => _) (fun _ => rfl) rfl wm_yX11_power wn_X11 wl_X11_279 wi_yX11_power hd_yX11_power rfl ⟨Nat.le_of_ble_eq_true rfl, Nat.le_of_ble_eq_true rfl⟩ (Nat.le_of_ble_eq_true rfl) ⟨Nat.le_of_ble_eq_true rfl, Nat.le_of_ble_eq_true rfl⟩ dX11_can_151 (fun z149 u149 bz149 h149 => ?_)
                have hFc149 := h149
                replace hF := calR_i hF hFc149
                refine x_iload C.1 dX11_can_154 7 rfl ?_
                refine x_callSl C (As := [vJ z119, vJ z149, vI x4]) (rest := []) (s_part l D cy z119 ⟨by omega, by omega⟩ z149 ⟨by omega, by omega⟩ x4 ⟨by omega, by omega⟩) (l1 := []) (l2 := _) rfl (w2 := fun _ => _) (fun _ => rfl) rfl wm_yX11_part wn_X11 wl_X11_282 wi_yX11_part hd_yX11_part rfl ⟨Nat.le_of_ble_eq_true rfl, Nat.le_of_ble_eq_true rfl⟩ (Nat.le_of_ble_eq_true rfl) ⟨Nat.le_of_ble_eq_true rfl, Nat.le_of_ble_eq_true rfl⟩ dX11_can_156 (fun z150 u150 bz150 h150 => ?_)
                have hFc150 := h150
                replace hF := calR_i hF hFc150
                exact x_lret (S := xS) (post := (fun a (u : xS) => XS G u ∧ FB (fun i k : Nat => (58 ≤ i ∧ i ≤ 59)) V u.1 ∧ RK u.2.2 Rr ∧ (f_s_can x1 x2 x3 x4 V J Rr) (a, u))) (w1 := (fun u : xS => XW cy ad u.1 u.2.1 u.2.2)) (a := z150) C hr rfl dX11_can_159 (by omega) (V16, J15, R15) rfl ⟨⟨hI16, hJ15, hR15⟩, hB16, hE15, hF _ rfl⟩
              · replace hF := hF.to (if_neg hc148)
                refine x_iconst C.1 (n := 0) dX11_can_95 ?_
                refine x_iload_n C.1 dX11_can_96 5 rfl ?_
                refine x_iload C.1 dX11_can_97 0 rfl ?_
                obtain ⟨z151, hz151, bz151⟩ := mulB (x := x2) (y := z118) (A := 9) (B := 6) (by omega) (by omega)
                replace hF := hF.to (rdb_e (z := z151) hz151)
                replace hF := hF.fc bz151
                refine x_imul C.1 (v := z151) hz151 dX11_can_99 ?_
                refine x_iload_n C.1 dX11_can_100 6 rfl ?_
                refine x_isub C.1 (v := z151 - x3) (by omega) dX11_can_101 ?_
                refine x_mmax C wl_X11_291 (by decide) (by omega) dX11_can_102 ⟨Nat.le_of_ble_eq_true rfl, Nat.le_of_ble_eq_true rfl⟩ (Nat.le_of_ble_eq_true rfl) ⟨Nat.le_of_ble_eq_true rfl, Nat.le_of_ble_eq_true rfl⟩ (fun z152 hx152 => ?_)
                have bz152 : 0 ≤ z152 ∧ z152 ≤ 54 := by omega
                replace hF := hF.to (rdb_e (z := z152) (by omega))
                replace hF := hF.fc bz152
                clear hx152
                refine x_istore C.1 (lv' := [(9, vI z152), (8, vI z118), (6, vJ z119), (5, vI z15), (0, .ref (ad 0)), (1, vI x1), (2, vI x2), (3, vI x3), (4, vI x4)]) dX11_can_105 (by decide) rfl ?_
                refine x_iconst C.1 (n := 0) dX11_can_107 ?_
                refine x_iload_n C.1 dX11_can_108 6 rfl ?_
                refine x_iload C.1 dX11_can_109 1 rfl ?_
                refine x_iconst C.1 (n := 1) dX11_can_111 ?_
                refine x_mmin C wl_X11_323 (by omega) (by decide) dX11_can_112 ⟨Nat.le_of_ble_eq_true rfl, Nat.le_of_ble_eq_true rfl⟩ (Nat.le_of_ble_eq_true rfl) ⟨Nat.le_of_ble_eq_true rfl, Nat.le_of_ble_eq_true rfl⟩ (fun z153 hx153 => ?_)
                have bz153 : 0 ≤ z153 ∧ z153 ≤ 1 := by omega
                replace hF := hF.to (rdb_e (z := z153) (by omega))
                replace hF := hF.fc bz153
                clear hx153
                obtain ⟨z154, hz154, bz154⟩ := mulB (x := x2) (y := z153) (A := 9) (B := 1) (by omega) (by omega)
                replace hF := hF.to (rdb_e (z := z154) hz154)
                replace hF := hF.fc bz154
                refine x_imul C.1 (v := z154) hz154 dX11_can_115 ?_
                refine x_iload_n C.1 dX11_can_116 7 rfl ?_
                refine x_isub C.1 (v := z154 - x3) (by omega) dX11_can_117 ?_
                refine x_mmax C wl_X11_291 (by decide) (by omega) dX11_can_118 ⟨Nat.le_of_ble_eq_true rfl, Nat.le_of_ble_eq_true rfl⟩ (Nat.le_of_ble_eq_true rfl) ⟨Nat.le_of_ble_eq_true rfl, Nat.le_of_ble_eq_true rfl⟩ (fun z155 hx155 => ?_)
                have bz155 : 0 ≤ z155 ∧ z155 ≤ 9 := by omega
                replace hF := hF.to (rdb_e (z := z155) (by omega))
                replace hF := hF.fc bz155
                clear hx155
                refine x_istore C.1 (lv' := [(10, vI z155), (9, vI z152), (8, vI z118), (6, vJ z119), (5, vI z15), (0, .ref (ad 0)), (1, vI x1), (2, vI x2), (3, vI x3), (4, vI x4)]) dX11_can_121 (by decide) rfl ?_
                refine x_lload C.1 dX11_can_123 3 rfl ?_
                refine x_aload_n C.1 dX11_can_125 5 rfl ?_
                refine x_getA C (N := 129) (i := 0) (by decide) rfl vc_X11 wx_X11 11 (by decide) wf_X11_66 (a := 128) rfl dX11_can_126 ?_
                refine x_iload C.1 dX11_can_129 2 rfl ?_
                obtain ⟨z156, ez156, bz156⟩ := hJ15.rd 128 z118.toNat
                replace hF := hF.to (rdb_e (z := z156) ez156)
                refine x_lald C (N := 129) (i := 128) (q := z118) (by decide) rfl (by omega) (by decide) dX11_can_131 (a := z156) ez156 ?_
                refine x_iload C.1 dX11_can_132 1 rfl ?_
                refine x_iload C.1 dX11_can_134 0 rfl ?_
                refine x_isub C.1 (v := z152 - z155) (by omega) dX11_can_136 ?_
                refine x_i2l C.1 dX11_can_137 (by omega) ?_
                refine x_lmul C.1 rfl dX11_can_138 ?_
                refine x_wrapJg ?_
                intro z157 bz157 ew157
                replace hF := hF.to (rdb_e (z := z157) ew157.symm)
                refine x_ladd C.1 (v := z119 + z157) (by omega) dX11_can_139 ?_
                refine x_wrapJg ?_
                intro z158 bz158 ew158
                replace hF := hF.to (rdb_e (z := z158) ew158.symm)
                refine x_lstore C.1 (lv' := [(6, vJ z158), (10, vI z155), (9, vI z152), (8, vI z118), (5, vI z15), (0, .ref (ad 0)), (1, vI x1), (2, vI x2), (3, vI x3), (4, vI x4)]) dX11_can_140 (by decide) rfl ?_
                refine x_iinc C.1 (v := z118 + 1) (lv' := [(8, vI (z118 + 1)), (6, vJ z158), (10, vI z155), (9, vI z152), (5, vI z15), (0, .ref (ad 0)), (1, vI x1), (2, vI x2), (3, vI x3), (4, vI x4)]) (by omega) dX11_can_142 3 rfl (by decide) rfl ?_
                refine x_goto C.1 (tgt := 89) dX11_can_145 (by decide) ?_
                refine x_lv [(8, vI (z118 + 1)), (6, vJ z158), (5, vI z15), (0, .ref (ad 0)), (1, vI x1), (2, vI x2), (3, vI x3), (4, vI x4)] [0, 1, 4, 5, 6, 7, 8, 9] rfl ?_
                have hmu120 : (8 - (z118 + 1)).toNat < (8 - z118).toNat := (by omega)
                exact ih120 (z118 + 1, z158) ⟨⟨by omega, by omega⟩, ⟨by omega, by omega⟩, ⟨nf120, Nat.lt_of_lt_of_le hmu120 (Nat.le_of_lt_succ hn120), hF⟩⟩ hmu120
            · replace hF := hF.to (if_neg (fun hh => hh hc17))
              refine x_ldc2 C.1 (n := -2) wq_X11_286 dX11_can_79 ?_
              exact x_lret (S := xS) (post := (fun a (u : xS) => XS G u ∧ FB (fun i k : Nat => (58 ≤ i ∧ i ≤ 59)) V u.1 ∧ RK u.2.2 Rr ∧ (f_s_can x1 x2 x3 x4 V J Rr) (a, u))) (w1 := (fun u : xS => XW cy ad u.1 u.2.1 u.2.2)) (a := (-2)) C hr rfl dX11_can_82 (by decide) (V16, J15, R15) rfl ⟨⟨hI16, hJ15, hR15⟩, hB16, hE15, hF _ rfl⟩
          · replace hF := hF.to (if_neg hc14)
            refine x_ldc2 C.1 (n := -1) wq_X11_201 dX11_can_55 ?_
            exact x_lret (S := xS) (post := (fun a (u : xS) => XS G u ∧ FB (fun i k : Nat => (58 ≤ i ∧ i ≤ 59)) V u.1 ∧ RK u.2.2 Rr ∧ (f_s_can x1 x2 x3 x4 V J Rr) (a, u))) (w1 := (fun u : xS => XW cy ad u.1 u.2.1 u.2.2)) (a := (-1)) C hr rfl dX11_can_58 (by decide) (V, J, Rr) rfl ⟨⟨hI, hJ, hR⟩, hB, (RK.rf _), hF _ rfl⟩
    · replace hF := hF.to (if_neg (fun hh => hh hc5))
      refine x_ldc2 C.1 (n := -1) wq_X11_201 dX11_can_20 ?_
      exact x_lret (S := xS) (post := (fun a (u : xS) => XS G u ∧ FB (fun i k : Nat => (58 ≤ i ∧ i ≤ 59)) V u.1 ∧ RK u.2.2 Rr ∧ (f_s_can x1 x2 x3 x4 V J Rr) (a, u))) (w1 := (fun u : xS => XW cy ad u.1 u.2.1 u.2.2)) (a := (-1)) C hr rfl dX11_can_23 (by decide) (V, J, Rr) rfl ⟨⟨hI, hJ, hR⟩, hB, (RK.rf _), hF _ rfl⟩
theorem hd_yX8_number : yX8_number.cls ≠ "java/lang/invoke/MethodHandle" ∧ yX8_number.cls ≠ "java/lang/invoke/VarHandle" ∧ (parseMethodDescriptor yX8_number.desc).map (fun d => d.parameters.length) = some 1 := by decide +kernel
theorem dX11_check_0 : decode cX11_check 0 = .ok (.aload_n 0, 1) := by decide +kernel
theorem dX11_check_1 : decode cX11_check 1 = .ok (.getfield 10, 3) := by decide +kernel
theorem dX11_check_4 : decode cX11_check 4 = .ok (.iload_n 1, 1) := by decide +kernel
theorem dX11_check_5 : decode cX11_check 5 = .ok (.invokevirtual 91, 3) := by decide +kernel
theorem dX11_check_8 : decode cX11_check 8 = .ok (.ifCond .eq 26, 3) := by decide +kernel
theorem dX11_check_11 : decode cX11_check 11 = .ok (.iload_n 2, 1) := by decide +kernel
theorem dX11_check_12 : decode cX11_check 12 = .ok (.iconst 0, 1) := by decide +kernel
theorem dX11_check_13 : decode cX11_check 13 = .ok (.bipush 7, 2) := by decide +kernel
theorem dX11_check_15 : decode cX11_check 15 = .ok (.invokestatic 74, 3) := by decide +kernel
theorem dX11_check_18 : decode cX11_check 18 = .ok (.ifCond .eq 16, 3) := by decide +kernel
theorem dX11_check_21 : decode cX11_check 21 = .ok (.iconst 4, 1) := by decide +kernel
theorem dX11_check_22 : decode cX11_check 22 = .ok (.iload_n 2, 1) := by decide +kernel
theorem dX11_check_23 : decode cX11_check 23 = .ok (.imul, 1) := by decide +kernel
theorem dX11_check_24 : decode cX11_check 24 = .ok (.aload_n 0, 1) := by decide +kernel
theorem dX11_check_25 : decode cX11_check 25 = .ok (.getfield 25, 3) := by decide +kernel
theorem dX11_check_28 : decode cX11_check 28 = .ok (.getfield 120, 3) := by decide +kernel
theorem dX11_check_31 : decode cX11_check 31 = .ok (.if_icmp .le 6, 3) := by decide +kernel
theorem dX11_check_34 : decode cX11_check 34 = .ok (.bipush (-2), 2) := by decide +kernel
theorem dX11_check_36 : decode cX11_check 36 = .ok (.ireturn, 1) := by decide +kernel
theorem dX11_check_37 : decode cX11_check 37 = .ok (.iconst (-1), 1) := by decide +kernel
theorem dX11_check_38 : decode cX11_check 38 = .ok (.istore_n 3, 1) := by decide +kernel
theorem dX11_check_39 : decode cX11_check 39 = .ok (.iconst 0, 1) := by decide +kernel
theorem dX11_check_40 : decode cX11_check 40 = .ok (.istore 4, 2) := by decide +kernel
theorem dX11_check_42 : decode cX11_check 42 = .ok (.iload 4, 2) := by decide +kernel
theorem dX11_check_44 : decode cX11_check 44 = .ok (.iload_n 2, 1) := by decide +kernel
theorem dX11_check_45 : decode cX11_check 45 = .ok (.if_icmp .ge 47, 3) := by decide +kernel
theorem dX11_check_48 : decode cX11_check 48 = .ok (.iload_n 3, 1) := by decide +kernel
theorem dX11_check_49 : decode cX11_check 49 = .ok (.iconst (-1), 1) := by decide +kernel
theorem dX11_check_50 : decode cX11_check 50 = .ok (.if_icmp .ne 42, 3) := by decide +kernel
theorem dX11_check_53 : decode cX11_check 53 = .ok (.aload_n 0, 1) := by decide +kernel
theorem dX11_check_54 : decode cX11_check 54 = .ok (.getfield 25, 3) := by decide +kernel
theorem dX11_check_57 : decode cX11_check 57 = .ok (.iload 4, 2) := by decide +kernel
theorem dX11_check_59 : decode cX11_check 59 = .ok (.invokevirtual 333, 3) := by decide +kernel
theorem dX11_check_62 : decode cX11_check 62 = .ok (.aload_n 0, 1) := by decide +kernel
theorem dX11_check_63 : decode cX11_check 63 = .ok (.getfield 10, 3) := by decide +kernel
theorem dX11_check_66 : decode cX11_check 66 = .ok (.getfield 78, 3) := by decide +kernel
theorem dX11_check_69 : decode cX11_check 69 = .ok (.iload_n 1, 1) := by decide +kernel
theorem dX11_check_70 : decode cX11_check 70 = .ok (.aaload, 1) := by decide +kernel
theorem dX11_check_71 : decode cX11_check 71 = .ok (.getfield 171, 3) := by decide +kernel
theorem dX11_check_74 : decode cX11_check 74 = .ok (.bipush 6, 2) := by decide +kernel
theorem dX11_check_76 : decode cX11_check 76 = .ok (.iload 4, 2) := by decide +kernel
theorem dX11_check_78 : decode cX11_check 78 = .ok (.isub, 1) := by decide +kernel
theorem dX11_check_79 : decode cX11_check 79 = .ok (.iaload, 1) := by decide +kernel
theorem dX11_check_80 : decode cX11_check 80 = .ok (.if_icmp .eq 6, 3) := by decide +kernel
theorem dX11_check_83 : decode cX11_check 83 = .ok (.iload 4, 2) := by decide +kernel
theorem dX11_check_85 : decode cX11_check 85 = .ok (.istore_n 3, 1) := by decide +kernel
theorem dX11_check_86 : decode cX11_check 86 = .ok (.iinc 4 1, 3) := by decide +kernel
theorem dX11_check_89 : decode cX11_check 89 = .ok (.goto (-47), 3) := by decide +kernel
theorem dX11_check_92 : decode cX11_check 92 = .ok (.aload_n 0, 1) := by decide +kernel
theorem dX11_check_93 : decode cX11_check 93 = .ok (.getfield 25, 3) := by decide +kernel
theorem dX11_check_96 : decode cX11_check 96 = .ok (.iconst 0, 1) := by decide +kernel
theorem dX11_check_97 : decode cX11_check 97 = .ok (.putfield 120, 3) := by decide +kernel
theorem dX11_check_100 : decode cX11_check 100 = .ok (.iload_n 3, 1) := by decide +kernel
theorem dX11_check_101 : decode cX11_check 101 = .ok (.ireturn, 1) := by decide +kernel
set_option maxRecDepth 100000 in
def f_s_check (x1 : Int) (x2 : Int) (V : Nat → Nat → Int) (J : Nat → Nat → Int) (Rr : Nat → Nat → Nat) : (Int × (Nat → Nat → Int)) → Prop :=
  calR (f_s_isPlant 1 x1 V J Rr) fun z1 => fct (0 ≤ z1 ∧ z1 ≤ 1) <| (if z1 = 0 then rtn ((-2), V) else calR (f_s_isWithin x2 0 7) fun z4 => fct (0 ≤ z4 ∧ z4 ≤ 1) <| (if z4 = 0 then rtn ((-2), V) else rdb (V 58 1) fun z7 => fct (0 ≤ z7 ∧ z7 ≤ 220) <| (if 4 * x2 ≤ z7 then lop2 (9) (fun rc79 (z77 : Int) (z78 : Int) => (if x2 ≤ z77 then rdb (up2 V 58 1 0) fun V91 => rtn (z78, V91) else (if ¬ z78 = (-1) then rdb (up2 V 58 1 0) fun V93 => rtn (z78, V93) else calR (f_s_number z77 V J Rr) fun z94 => rdb (1 + 3 + 2 * x1.toNat) fun c95 => rdb (V (c95 + 1) ((-z77 + 6).toNat)) fun z96 => jnk (fun (z97 : Int) => rc79 (z77 + 1) z97) fun jf98 => (if z94 = z96 then jf98 z78 else jf98 z77)))) 0 ((-1)) else rtn ((-2), V))))
set_option maxHeartbeats 8000000 in
set_option maxRecDepth 100000 in
theorem s_check (l : Launch) (D : va_G) (cy : Nat → ClassId) (ad : Nat → Nat) (G : Nat → Nat → Int) (V J : Nat → Nat → Int) (Rr : Nat → Nat → Nat) (hI : XI G V) (hJ : VJ J) (hR : XR Rr) (x1 : Int) (bx1 : -2147483648 ≤ x1 ∧ x1 ≤ 2147483647) (x2 : Int) (bx2 : -2147483648 ≤ x2 ∧ x2 ≤ 2147483647) : xMi l D (xTY cy) yX11_check cX11_check 5 (some .int) 2 44 0 0 [.ref (ad 0), vI x1, vI x2] (XW cy ad V J Rr) (fun u : Nat → Nat → Int => XW cy ad u J Rr) (fun a (u : Nat → Nat → Int) => XI G u ∧ FB (fun i k : Nat => (58 ≤ i ∧ i ≤ 59)) V u ∧ (f_s_check x1 x2 V J Rr) (a, u)) := by
  refine xMi.mk (lv0 := [(0, .ref (ad 0)), (1, vI x1), (2, vI x2)]) (by decide) rfl (Nat.le_of_ble_eq_true rfl) (fun p e s m below meth c A C hr hnm hAe => ?_)
  have C : xC2 p s m _ meth c D A s.heap 5 cX11_check RX11 (xTY cy) := C
  have hB : FB (fun i k : Nat => (58 ≤ i ∧ i ≤ 59)) V V := FB.rf _ _
  have hF := Imp.of_eq (f_s_check.eq_def x1 x2 V J Rr)
  refine x_aload_n C.1 dX11_check_0 0 rfl ?_
  refine x_getA C (N := 129) (i := 0) (by decide) rfl vc_X11 wx_X11 0 (by decide) wf_X11_10 (a := 1) rfl dX11_check_1 ?_
  refine x_iload_n C.1 dX11_check_4 1 rfl ?_
  refine x_callVi C (As := [vI x1]) (rest := []) 1 (xw_at (N := 129) (i := 1) (by omega) (xd_L (Or.inl rfl))) vc_X3 (s_isPlant l D cy ad G V J Rr hI hJ hR 1 (Or.inl rfl) x1 ⟨by omega, by omega⟩) (l1 := []) (l2 := []) (List.append_nil _).symm (w2 := fun _ => XW cy ad V J Rr) (fun _ => List.append_nil _) rfl wm_yX3_isPlant wn_X3 wl_X11_91 wi_yX3_isPlant we_yX3_isPlant hd_yX3_isPlant rfl ⟨Nat.le_of_ble_eq_true rfl, Nat.le_of_ble_eq_true rfl⟩ (Nat.le_of_ble_eq_true rfl) ⟨Nat.le_of_ble_eq_true rfl, Nat.le_of_ble_eq_true rfl⟩ dX11_check_5 (fun z1 u1 bz1 h1 => ?_)
  obtain ⟨hon1, hFc1⟩ := h1
  replace hF := calR_i hF hFc1
  replace hF := hF.fc hon1.r
  have bq1 := Sp.r hon1
  refine x_if_eq C.1 (tgt := 34) dX11_check_8 (by decide) (by omega) (fun hc2 => ?_) (fun hc2 => ?_)
  · replace hF := hF.to (if_pos hc2)
    refine x_bipush C.1 (n := -2) dX11_check_34 ?_
    exact x_iret (S := (Nat → Nat → Int)) (post := (fun a (u : Nat → Nat → Int) => XI G u ∧ FB (fun i k : Nat => (58 ≤ i ∧ i ≤ 59)) V u ∧ (f_s_check x1 x2 V J Rr) (a, u))) (w1 := (fun u : Nat → Nat → Int => XW cy ad u J Rr)) (a := (-2)) C hr rfl dX11_check_36 (by decide) V rfl ⟨hI, hB, hF _ rfl⟩
  · replace hF := hF.to (if_neg hc2)
    have hon3 := Sp.on hon1 (by omega)
    refine x_iload_n C.1 dX11_check_11 2 rfl ?_
    refine x_iconst C.1 (n := 0) dX11_check_12 ?_
    refine x_bipush C.1 (n := 7) dX11_check_13 ?_
    refine x_callSi C (As := [vI x2, vI 0, vI 7]) (rest := []) (s_isWithin l D cy x2 ⟨by omega, by omega⟩ 0 ⟨by decide, by decide⟩ 7 ⟨by decide, by decide⟩) (l1 := []) (l2 := _) rfl (w2 := fun _ => _) (fun _ => rfl) rfl wm_yX11_isWithin wn_X11 wl_X11_74 wi_yX11_isWithin hd_yX11_isWithin rfl ⟨Nat.le_of_ble_eq_true rfl, Nat.le_of_ble_eq_true rfl⟩ (Nat.le_of_ble_eq_true rfl) ⟨Nat.le_of_ble_eq_true rfl, Nat.le_of_ble_eq_true rfl⟩ dX11_check_15 (fun z4 u4 bz4 h4 => ?_)
    obtain ⟨bq4, hx4_0, hFc4⟩ := h4
    replace hF := calR_i hF hFc4
    replace hF := hF.fc bq4
    refine x_if_eq C.1 (tgt := 34) dX11_check_18 (by decide) (by omega) (fun hc5 => ?_) (fun hc5 => ?_)
    · replace hF := hF.to (if_pos hc5)
      refine x_bipush C.1 (n := -2) dX11_check_34 ?_
      exact x_iret (S := (Nat → Nat → Int)) (post := (fun a (u : Nat → Nat → Int) => XI G u ∧ FB (fun i k : Nat => (58 ≤ i ∧ i ≤ 59)) V u ∧ (f_s_check x1 x2 V J Rr) (a, u))) (w1 := (fun u : Nat → Nat → Int => XW cy ad u J Rr)) (a := (-2)) C hr rfl dX11_check_36 (by decide) V rfl ⟨hI, hB, hF _ rfl⟩
    · replace hF := hF.to (if_neg hc5)
      have hon6 := Sq.on hx4_0 (by omega)
      refine x_iconst C.1 (n := 4) dX11_check_21 ?_
      refine x_iload_n C.1 dX11_check_22 2 rfl ?_
      refine x_imul C.1 (v := 4 * x2) (by omega) dX11_check_23 ?_
      refine x_aload_n C.1 dX11_check_24 0 rfl ?_
      refine x_getA C (N := 129) (i := 0) (by decide) rfl vc_X11 wx_X11 4 (by decide) wf_X11_25 (a := 58) rfl dX11_check_25 ?_
      obtain ⟨z7, ez7, bz7⟩ := hI.rd 58 1 (x := 0) (y := 220) rfl
      replace hF := hF.to (rdb_e (z := z7) ez7)
      replace hF := hF.fc bz7
      refine x_getI C (N := 129) (i := 58) (by decide) rfl vc_X8 wx_X8 1 (by decide) wf_X11_120 rfl dX11_check_28 (a := z7) ez7 ?_
      refine x_icmp_le C.1 (tgt := 37) dX11_check_31 (by decide) (by omega) (by omega) (fun hc8 => ?_) (fun hc8 => ?_)
      · replace hF := hF.to (if_pos hc8)
        refine x_iconst C.1 (n := -1) dX11_check_37 ?_
        refine x_istore_n C.1 (lv' := [(3, vI (-1)), (0, .ref (ad 0)), (1, vI x1), (2, vI x2)]) dX11_check_38 (by decide) rfl ?_
        refine x_iconst C.1 (n := 0) dX11_check_39 ?_
        refine x_istore C.1 (lv' := [(4, vI 0), (3, vI (-1)), (0, .ref (ad 0)), (1, vI x1), (2, vI x2)]) dX11_check_40 (by decide) rfl ?_
        obtain ⟨bd79, hbd79, hF⟩ := lop2_ex hF
        refine x_loop (I := fun x : Int × Int => match x with | (z77, z78) => (0 ≤ z77 ∧ z77 ≤ 7) ∧ (-1 ≤ z78 ∧ z78 ≤ 6) ∧ (∃ nf : Nat, (8 - z77).toNat < nf ∧ Imp (lop2 nf bd79 z77 z78) (f_s_check x1 x2 V J Rr))) (μ := fun x : Int × Int => match x with | (z77, z78) => (8 - z77).toNat) (wsf := fun x : Int × Int => match x with | (z77, z78) => XW cy ad V J Rr) (lvf := fun x : Int × Int => match x with | (z77, z78) => [(4, vI z77), (3, vI z78), (0, .ref (ad 0)), (1, vI x1), (2, vI x2)]) (fun x hI79x ih79 => ?_) (0, (-1)) ⟨⟨by decide, by decide⟩, ⟨by decide, by decide⟩, ⟨_, (by omega), hF⟩⟩ rfl rfl
        obtain ⟨z77, z78⟩ := x
        obtain ⟨bz77, bz78, nf79, hn79, hF⟩ := hI79x
        try dsimp only
        obtain ⟨nf79, rfl⟩ : ∃ mm, nf79 = mm + 1 := ⟨nf79 - 1, (Nat.succ_pred_eq_of_pos (Nat.lt_of_le_of_lt (Nat.zero_le _) hn79)).symm⟩
        replace hF := hF.to (lop2_s hbd79)
        refine x_iload C.1 dX11_check_42 0 rfl ?_
        refine x_iload_n C.1 dX11_check_44 4 rfl ?_
        refine x_icmp_ge C.1 (tgt := 92) dX11_check_45 (by decide) (by omega) (by omega) (fun hc90 => ?_) (fun hc90 => ?_)
        · replace hF := hF.to (if_pos hc90)
          refine x_aload_n C.1 dX11_check_92 2 rfl ?_
          refine x_getA C (N := 129) (i := 0) (by decide) rfl vc_X11 wx_X11 4 (by decide) wf_X11_25 (a := 58) rfl dX11_check_93 ?_
          refine x_iconst C.1 (n := 0) dX11_check_96 ?_
          refine x_putI C (N := 129) (i := 58) (by decide) rfl vc_X8 wx_X8 1 (by decide) wf_X11_120 tyX8 tyX8_ok nmX8 rfl (tyX8_ok 1 (by decide)) rfl dX11_check_97 rfl rfl ?_
          refine x_gV ?_
          intro V91 hV91
          have hI91 : XI G V91 := hI.up hV91 rfl (by decide) rfl
          have hB91 := hB.up hV91 (⟨by decide, by decide⟩)
          replace hF := hF.to (rdb_e (z := V91) hV91.symm)
          refine x_iload_n C.1 dX11_check_100 1 rfl ?_
          exact x_iret (S := (Nat → Nat → Int)) (post := (fun a (u : Nat → Nat → Int) => XI G u ∧ FB (fun i k : Nat => (58 ≤ i ∧ i ≤ 59)) V u ∧ (f_s_check x1 x2 V J Rr) (a, u))) (w1 := (fun u : Nat → Nat → Int => XW cy ad u J Rr)) (a := z78) C hr rfl dX11_check_101 (by omega) V91 rfl ⟨hI91, hB91, hF _ rfl⟩
        · replace hF := hF.to (if_neg hc90)
          refine x_iload_n C.1 dX11_check_48 1 rfl ?_
          refine x_iconst C.1 (n := -1) dX11_check_49 ?_
          refine x_icmp_ne C.1 (tgt := 92) dX11_check_50 (by decide) (by omega) (by decide) (fun hc92 => ?_) (fun hc92 => ?_)
          · replace hF := hF.to (if_pos hc92)
            refine x_aload_n C.1 dX11_check_92 2 rfl ?_
            refine x_getA C (N := 129) (i := 0) (by decide) rfl vc_X11 wx_X11 4 (by decide) wf_X11_25 (a := 58) rfl dX11_check_93 ?_
            refine x_iconst C.1 (n := 0) dX11_check_96 ?_
            refine x_putI C (N := 129) (i := 58) (by decide) rfl vc_X8 wx_X8 1 (by decide) wf_X11_120 tyX8 tyX8_ok nmX8 rfl (tyX8_ok 1 (by decide)) rfl dX11_check_97 rfl rfl ?_
            refine x_gV ?_
            intro V93 hV93
            have hI93 : XI G V93 := hI.up hV93 rfl (by decide) rfl
            have hB93 := hB.up hV93 (⟨by decide, by decide⟩)
            replace hF := hF.to (rdb_e (z := V93) hV93.symm)
            refine x_iload_n C.1 dX11_check_100 1 rfl ?_
            exact x_iret (S := (Nat → Nat → Int)) (post := (fun a (u : Nat → Nat → Int) => XI G u ∧ FB (fun i k : Nat => (58 ≤ i ∧ i ≤ 59)) V u ∧ (f_s_check x1 x2 V J Rr) (a, u))) (w1 := (fun u : Nat → Nat → Int => XW cy ad u J Rr)) (a := z78) C hr rfl dX11_check_101 (by omega) V93 rfl ⟨hI93, hB93, hF _ rfl⟩
          · replace hF := hF.to (if_neg (fun hh => hh hc92))
            refine x_aload_n C.1 dX11_check_53 2 rfl ?_
            refine x_getA C (N := 129) (i := 0) (by decide) rfl vc_X11 wx_X11 4 (by decide) wf_X11_25 (a := 58) rfl dX11_check_54 ?_
            refine x_iload C.1 dX11_check_57 0 rfl ?_
            refine x_callVi C (As := [vI z77]) (rest := []) 58 (xw_at (N := 129) (i := 58) (by decide) rfl) vc_X8 (s_number l D cy ad G V J Rr hI hJ hR z77 ⟨by omega, by omega⟩) (l1 := []) (l2 := []) (List.append_nil _).symm (w2 := fun _ => XW cy ad V J Rr) (fun _ => List.append_nil _) rfl wm_yX8_number wn_X8 wl_X11_333 wi_yX8_number we_yX8_number hd_yX8_number rfl ⟨Nat.le_of_ble_eq_true rfl, Nat.le_of_ble_eq_true rfl⟩ (Nat.le_of_ble_eq_true rfl) ⟨Nat.le_of_ble_eq_true rfl, Nat.le_of_ble_eq_true rfl⟩ dX11_check_59 (fun z94 u94 bz94 h94 => ?_)
            have hFc94 := h94
            replace hF := calR_i hF hFc94
            refine x_aload_n C.1 dX11_check_62 2 rfl ?_
            refine x_getA C (N := 129) (i := 0) (by decide) rfl vc_X11 wx_X11 0 (by decide) wf_X11_10 (a := 1) rfl dX11_check_63 ?_
            refine x_getA C (N := 129) (i := 1) (by omega) (xd_L (Or.inl rfl)) vc_X3 wx_X3 0 (by decide) wf_X11_78 (a := 2) rfl dX11_check_66 ?_
            refine x_iload_n C.1 dX11_check_69 3 rfl ?_
            obtain ⟨c95, ec95, hc95⟩ : ∃ cx : Nat, 1 + 3 + 2 * x1.toNat = cx ∧ isPl cx := ⟨_, rfl, isPl_L (Or.inl rfl) (by omega)⟩
            replace hF := hF.to (rdb_e (z := c95) ec95)
            refine x_aldS C (N := 129) (i := 2) (q := x1) (t := 4) rfl (by omega) (xd_La (Or.inl rfl)) (by omega) (by decide) dX11_check_70 (a := c95) ec95 ?_
            refine x_getA C (N := 129) (i := c95) (Nat.lt_of_succ_lt hc95.1) hc95.2.1 vc_X5 wx_X5 8 (by decide) wf_X11_171 (a := c95 + 1) rfl dX11_check_71 ?_
            refine x_bipush C.1 (n := 6) dX11_check_74 ?_
            refine x_iload C.1 dX11_check_76 0 rfl ?_
            refine x_isub C.1 (v := -z77 + 6) (by omega) dX11_check_78 ?_
            obtain ⟨z96, ez96, bz96⟩ := hI.rd (c95 + 1) ((-z77 + 6).toNat) (x := -2147483648) (y := 2147483647) (rg_K hc95 _)
            replace hF := hF.to (rdb_e (z := z96) ez96)
            refine x_iald C (N := 129) (i := c95 + 1) (q := -z77 + 6) hc95.1 hc95.2.2 (by omega) (by decide) dX11_check_79 (a := z96) ez96 ?_
            obtain ⟨jf98, hjf98, hF⟩ := jn_ex hF
            refine x_join (I := fun z97 : Int => (-1 ≤ z97 ∧ z97 ≤ 6) ∧ Imp (jf98 z97) (f_s_check x1 x2 V J Rr)) (wsf := fun z97 : Int => XW cy ad V J Rr) (lvf := fun z97 : Int => [(4, vI z77), (3, vI z97), (0, .ref (ad 0)), (1, vI x1), (2, vI x2)]) (stf := fun z97 : Int => []) 86 (fun z97 hI98x => ?_) (fun jn98 => ?_)
            · obtain ⟨bz97, hF⟩ := hI98x
              try dsimp only
              replace hF := hF.to (jn_s1 hjf98)
              refine x_iinc C.1 (v := z77 + 1) (lv' := [(4, vI (z77 + 1)), (3, vI z97), (0, .ref (ad 0)), (1, vI x1), (2, vI x2)]) (by omega) dX11_check_86 0 rfl (by decide) rfl ?_
              refine x_goto C.1 (tgt := 42) dX11_check_89 (by decide) ?_
              have hmu79 : (8 - (z77 + 1)).toNat < (8 - z77).toNat := (by omega)
              exact ih79 (z77 + 1, z97) ⟨⟨by omega, by omega⟩, ⟨by omega, by omega⟩, ⟨nf79, Nat.lt_of_lt_of_le hmu79 (Nat.le_of_lt_succ hn79), hF⟩⟩ hmu79
            · refine x_icmp_eq C.1 (tgt := 86) dX11_check_80 (by decide) (by omega) (by omega) (fun hc99 => ?_) (fun hc99 => ?_)
              · replace hF := hF.to (if_pos hc99)
                exact jn98 z78 ⟨⟨by omega, by omega⟩, hF⟩
              · replace hF := hF.to (if_neg hc99)
                refine x_iload C.1 dX11_check_83 0 rfl ?_
                refine x_istore_n C.1 (lv' := [(3, vI z77), (4, vI z77), (0, .ref (ad 0)), (1, vI x1), (2, vI x2)]) dX11_check_85 (by decide) rfl ?_
                refine x_lv [(4, vI z77), (3, vI z77), (0, .ref (ad 0)), (1, vI x1), (2, vI x2)] [1, 0, 2, 3, 4] rfl ?_
                exact jn98 z77 ⟨⟨by omega, by omega⟩, hF⟩
      · replace hF := hF.to (if_neg hc8)
        refine x_bipush C.1 (n := -2) dX11_check_34 ?_
        exact x_iret (S := (Nat → Nat → Int)) (post := (fun a (u : Nat → Nat → Int) => XI G u ∧ FB (fun i k : Nat => (58 ≤ i ∧ i ≤ 59)) V u ∧ (f_s_check x1 x2 V J Rr) (a, u))) (w1 := (fun u : Nat → Nat → Int => XW cy ad u J Rr)) (a := (-2)) C hr rfl dX11_check_36 (by decide) V rfl ⟨hI, hB, hF _ rfl⟩
theorem dX11_countPerson_0 : decode cX11_countPerson 0 = .ok (.aload_n 0, 1) := by decide +kernel
theorem dX11_countPerson_1 : decode cX11_countPerson 1 = .ok (.getfield 10, 3) := by decide +kernel
theorem dX11_countPerson_4 : decode cX11_countPerson 4 = .ok (.iload_n 2, 1) := by decide +kernel
theorem dX11_countPerson_5 : decode cX11_countPerson 5 = .ok (.invokevirtual 168, 3) := by decide +kernel
theorem dX11_countPerson_8 : decode cX11_countPerson 8 = .ok (.ifCond .ne 5, 3) := by decide +kernel
theorem dX11_countPerson_11 : decode cX11_countPerson 11 = .ok (.iconst (-1), 1) := by decide +kernel
theorem dX11_countPerson_12 : decode cX11_countPerson 12 = .ok (.ireturn, 1) := by decide +kernel
theorem dX11_countPerson_13 : decode cX11_countPerson 13 = .ok (.iload_n 1, 1) := by decide +kernel
theorem dX11_countPerson_14 : decode cX11_countPerson 14 = .ok (.tableswitch 65 2 4 #[26, 39, 52], 26) := by decide +kernel
theorem dX11_countPerson_40 : decode cX11_countPerson 40 = .ok (.aload_n 0, 1) := by decide +kernel
theorem dX11_countPerson_41 : decode cX11_countPerson 41 = .ok (.getfield 10, 3) := by decide +kernel
theorem dX11_countPerson_44 : decode cX11_countPerson 44 = .ok (.getfield 146, 3) := by decide +kernel
theorem dX11_countPerson_47 : decode cX11_countPerson 47 = .ok (.iload_n 2, 1) := by decide +kernel
theorem dX11_countPerson_48 : decode cX11_countPerson 48 = .ok (.aaload, 1) := by decide +kernel
theorem dX11_countPerson_49 : decode cX11_countPerson 49 = .ok (.getfield 353, 3) := by decide +kernel
theorem dX11_countPerson_52 : decode cX11_countPerson 52 = .ok (.ireturn, 1) := by decide +kernel
theorem dX11_countPerson_53 : decode cX11_countPerson 53 = .ok (.aload_n 0, 1) := by decide +kernel
theorem dX11_countPerson_54 : decode cX11_countPerson 54 = .ok (.getfield 10, 3) := by decide +kernel
theorem dX11_countPerson_57 : decode cX11_countPerson 57 = .ok (.getfield 146, 3) := by decide +kernel
theorem dX11_countPerson_60 : decode cX11_countPerson 60 = .ok (.iload_n 2, 1) := by decide +kernel
theorem dX11_countPerson_61 : decode cX11_countPerson 61 = .ok (.aaload, 1) := by decide +kernel
theorem dX11_countPerson_62 : decode cX11_countPerson 62 = .ok (.getfield 355, 3) := by decide +kernel
theorem dX11_countPerson_65 : decode cX11_countPerson 65 = .ok (.ireturn, 1) := by decide +kernel
theorem dX11_countPerson_66 : decode cX11_countPerson 66 = .ok (.aload_n 0, 1) := by decide +kernel
theorem dX11_countPerson_67 : decode cX11_countPerson 67 = .ok (.getfield 10, 3) := by decide +kernel
theorem dX11_countPerson_70 : decode cX11_countPerson 70 = .ok (.getfield 146, 3) := by decide +kernel
theorem dX11_countPerson_73 : decode cX11_countPerson 73 = .ok (.iload_n 2, 1) := by decide +kernel
theorem dX11_countPerson_74 : decode cX11_countPerson 74 = .ok (.aaload, 1) := by decide +kernel
theorem dX11_countPerson_75 : decode cX11_countPerson 75 = .ok (.getfield 150, 3) := by decide +kernel
theorem dX11_countPerson_78 : decode cX11_countPerson 78 = .ok (.ireturn, 1) := by decide +kernel
theorem dX11_countPerson_79 : decode cX11_countPerson 79 = .ok (.iconst (-1), 1) := by decide +kernel
theorem dX11_countPerson_80 : decode cX11_countPerson 80 = .ok (.ireturn, 1) := by decide +kernel
set_option maxRecDepth 100000 in
def f_s_countPerson (x1 : Int) (x2 : Int) (V : Nat → Nat → Int) (J : Nat → Nat → Int) (Rr : Nat → Nat → Nat) : (Int) → Prop :=
  calR (f_s_isPerson 1 x2 V J Rr) fun z1 => fct (0 ≤ z1 ∧ z1 ≤ 1) <| (if ¬ z1 = 0 then (if x1 = 2 then rdb (1 + 11 + 1 * x2.toNat) fun c5 => rdb (V c5 1) fun z6 => rtn z6 else (if x1 = 3 then rdb (1 + 11 + 1 * x2.toNat) fun c8 => rdb (V c8 2) fun z9 => fct (0 ≤ z9 ∧ z9 ≤ 3) <| rtn z9 else (if x1 = 4 then rdb (1 + 11 + 1 * x2.toNat) fun c11 => rdb (V c11 3) fun z12 => rtn z12 else rtn ((-1))))) else rtn ((-1)))
set_option maxHeartbeats 8000000 in
set_option maxRecDepth 100000 in
theorem s_countPerson (l : Launch) (D : va_G) (cy : Nat → ClassId) (ad : Nat → Nat) (G : Nat → Nat → Int) (V J : Nat → Nat → Int) (Rr : Nat → Nat → Nat) (hI : XI G V) (hJ : VJ J) (hR : XR Rr) (x1 : Int) (bx1 : -2147483648 ≤ x1 ∧ x1 ≤ 2147483647) (x2 : Int) (bx2 : -2147483648 ≤ x2 ∧ x2 ≤ 2147483647) : xMi l D (xTY cy) yX11_countPerson cX11_countPerson 3 (some .int) 2 42 0 0 [.ref (ad 0), vI x1, vI x2] (XW cy ad V J Rr) (fun _ : Unit => XW cy ad V J Rr) (fun a (u : Unit) => (f_s_countPerson x1 x2 V J Rr) a) := by
  refine xMi.mk (lv0 := [(0, .ref (ad 0)), (1, vI x1), (2, vI x2)]) (by decide) rfl (Nat.le_of_ble_eq_true rfl) (fun p e s m below meth c A C hr hnm hAe => ?_)
  have C : xC2 p s m _ meth c D A s.heap 3 cX11_countPerson RX11 (xTY cy) := C
  have hF := Imp.of_eq (f_s_countPerson.eq_def x1 x2 V J Rr)
  refine x_aload_n C.1 dX11_countPerson_0 0 rfl ?_
  refine x_getA C (N := 129) (i := 0) (by decide) rfl vc_X11 wx_X11 0 (by decide) wf_X11_10 (a := 1) rfl dX11_countPerson_1 ?_
  refine x_iload_n C.1 dX11_countPerson_4 2 rfl ?_
  refine x_callVi C (As := [vI x2]) (rest := []) 1 (xw_at (N := 129) (i := 1) (by omega) (xd_L (Or.inl rfl))) vc_X3 (s_isPerson l D cy ad G V J Rr hI hJ hR 1 (Or.inl rfl) x2 ⟨by omega, by omega⟩) (l1 := []) (l2 := []) (List.append_nil _).symm (w2 := fun _ => XW cy ad V J Rr) (fun _ => List.append_nil _) rfl wm_yX3_isPerson wn_X3 wl_X11_168 wi_yX3_isPerson we_yX3_isPerson hd_yX3_isPerson rfl ⟨Nat.le_of_ble_eq_true rfl, Nat.le_of_ble_eq_true rfl⟩ (Nat.le_of_ble_eq_true rfl) ⟨Nat.le_of_ble_eq_true rfl, Nat.le_of_ble_eq_true rfl⟩ dX11_countPerson_5 (fun z1 u1 bz1 h1 => ?_)
  obtain ⟨hon1, hFc1⟩ := h1
  replace hF := calR_i hF hFc1
  replace hF := hF.fc hon1.r
  have bq1 := Sp.r hon1
  refine x_if_ne C.1 (tgt := 13) dX11_countPerson_8 (by decide) (by omega) (fun hc2 => ?_) (fun hc2 => ?_)
  · replace hF := hF.to (if_pos hc2)
    have hon3 := Sp.on hon1 (by omega)
    refine x_iload_n C.1 dX11_countPerson_13 1 rfl ?_
    by_cases hs4 : x1 = 2
    · replace hF := hF.to (if_pos hs4)
      refine x_tabIn C.1 2 hs4 (by decide) (tgt := 40) dX11_countPerson_14 (by decide) (by decide) rfl (by decide) ?_
      refine x_aload_n C.1 dX11_countPerson_40 0 rfl ?_
      refine x_getA C (N := 129) (i := 0) (by decide) rfl vc_X11 wx_X11 0 (by decide) wf_X11_10 (a := 1) rfl dX11_countPerson_41 ?_
      refine x_getA C (N := 129) (i := 1) (by omega) (xd_L (Or.inl rfl)) vc_X3 wx_X3 1 (by decide) wf_X11_146 (a := 3) rfl dX11_countPerson_44 ?_
      refine x_iload_n C.1 dX11_countPerson_47 2 rfl ?_
      obtain ⟨c5, ec5, hc5⟩ : ∃ cx : Nat, 1 + 11 + 1 * x2.toNat = cx ∧ isPe cx := ⟨_, rfl, isPe_L (Or.inl rfl) (by omega)⟩
      replace hF := hF.to (rdb_e (z := c5) ec5)
      refine x_aldS C (N := 129) (i := 3) (q := x2) (t := 5) rfl (by omega) (xd_Lb (Or.inl rfl)) (by omega) (by decide) dX11_countPerson_48 (a := c5) ec5 ?_
      obtain ⟨z6, ez6, bz6⟩ := hI.rd c5 1 (x := -2147483648) (y := 2147483647) (rg_E hc5 1)
      replace hF := hF.to (rdb_e (z := z6) ez6)
      refine x_getI C (N := 129) (i := c5) hc5.1 hc5.2 vc_X4 wx_X4 1 (by decide) wf_X11_353 rfl dX11_countPerson_49 (a := z6) ez6 ?_
      exact x_iret (S := Unit) (post := (fun a (u : Unit) => (f_s_countPerson x1 x2 V J Rr) a)) (w1 := (fun _ : Unit => XW cy ad V J Rr)) (a := z6) C hr rfl dX11_countPerson_52 (by omega) () rfl (hF _ rfl)
    replace hF := hF.to (if_neg hs4)
    by_cases hs7 : x1 = 3
    · replace hF := hF.to (if_pos hs7)
      refine x_tabIn C.1 3 hs7 (by decide) (tgt := 53) dX11_countPerson_14 (by decide) (by decide) rfl (by decide) ?_
      refine x_aload_n C.1 dX11_countPerson_53 0 rfl ?_
      refine x_getA C (N := 129) (i := 0) (by decide) rfl vc_X11 wx_X11 0 (by decide) wf_X11_10 (a := 1) rfl dX11_countPerson_54 ?_
      refine x_getA C (N := 129) (i := 1) (by omega) (xd_L (Or.inl rfl)) vc_X3 wx_X3 1 (by decide) wf_X11_146 (a := 3) rfl dX11_countPerson_57 ?_
      refine x_iload_n C.1 dX11_countPerson_60 2 rfl ?_
      obtain ⟨c8, ec8, hc8⟩ : ∃ cx : Nat, 1 + 11 + 1 * x2.toNat = cx ∧ isPe cx := ⟨_, rfl, isPe_L (Or.inl rfl) (by omega)⟩
      replace hF := hF.to (rdb_e (z := c8) ec8)
      refine x_aldS C (N := 129) (i := 3) (q := x2) (t := 5) rfl (by omega) (xd_Lb (Or.inl rfl)) (by omega) (by decide) dX11_countPerson_61 (a := c8) ec8 ?_
      obtain ⟨z9, ez9, bz9⟩ := hI.rd c8 2 (x := 0) (y := 3) (rg_E hc8 2)
      replace hF := hF.to (rdb_e (z := z9) ez9)
      replace hF := hF.fc bz9
      refine x_getI C (N := 129) (i := c8) hc8.1 hc8.2 vc_X4 wx_X4 2 (by decide) wf_X11_355 rfl dX11_countPerson_62 (a := z9) ez9 ?_
      exact x_iret (S := Unit) (post := (fun a (u : Unit) => (f_s_countPerson x1 x2 V J Rr) a)) (w1 := (fun _ : Unit => XW cy ad V J Rr)) (a := z9) C hr rfl dX11_countPerson_65 (by omega) () rfl (hF _ rfl)
    replace hF := hF.to (if_neg hs7)
    by_cases hs10 : x1 = 4
    · replace hF := hF.to (if_pos hs10)
      refine x_tabIn C.1 4 hs10 (by decide) (tgt := 66) dX11_countPerson_14 (by decide) (by decide) rfl (by decide) ?_
      refine x_aload_n C.1 dX11_countPerson_66 0 rfl ?_
      refine x_getA C (N := 129) (i := 0) (by decide) rfl vc_X11 wx_X11 0 (by decide) wf_X11_10 (a := 1) rfl dX11_countPerson_67 ?_
      refine x_getA C (N := 129) (i := 1) (by omega) (xd_L (Or.inl rfl)) vc_X3 wx_X3 1 (by decide) wf_X11_146 (a := 3) rfl dX11_countPerson_70 ?_
      refine x_iload_n C.1 dX11_countPerson_73 2 rfl ?_
      obtain ⟨c11, ec11, hc11⟩ : ∃ cx : Nat, 1 + 11 + 1 * x2.toNat = cx ∧ isPe cx := ⟨_, rfl, isPe_L (Or.inl rfl) (by omega)⟩
      replace hF := hF.to (rdb_e (z := c11) ec11)
      refine x_aldS C (N := 129) (i := 3) (q := x2) (t := 5) rfl (by omega) (xd_Lb (Or.inl rfl)) (by omega) (by decide) dX11_countPerson_74 (a := c11) ec11 ?_
      obtain ⟨z12, ez12, bz12⟩ := hI.rd c11 3 (x := -2147483648) (y := 2147483647) (rg_E hc11 3)
      replace hF := hF.to (rdb_e (z := z12) ez12)
      refine x_getI C (N := 129) (i := c11) hc11.1 hc11.2 vc_X4 wx_X4 3 (by decide) wf_X11_150 rfl dX11_countPerson_75 (a := z12) ez12 ?_
      exact x_iret (S := Unit) (post := (fun a (u : Unit) => (f_s_countPerson x1 x2 V J Rr) a)) (w1 := (fun _ : Unit => XW cy ad V J Rr)) (a := z12) C hr rfl dX11_countPerson_78 (by omega) () rfl (hF _ rfl)
    replace hF := hF.to (if_neg hs10)
    refine x_tabOut C.1 (tgt := 79) (by omega) dX11_countPerson_14 (by omega) (by decide) ?_
    refine x_iconst C.1 (n := -1) dX11_countPerson_79 ?_
    exact x_iret (S := Unit) (post := (fun a (u : Unit) => (f_s_countPerson x1 x2 V J Rr) a)) (w1 := (fun _ : Unit => XW cy ad V J Rr)) (a := (-1)) C hr rfl dX11_countPerson_80 (by decide) () rfl (hF _ rfl)
  · replace hF := hF.to (if_neg (fun hh => hh hc2))
    refine x_iconst C.1 (n := -1) dX11_countPerson_11 ?_
    exact x_iret (S := Unit) (post := (fun a (u : Unit) => (f_s_countPerson x1 x2 V J Rr) a)) (w1 := (fun _ : Unit => XW cy ad V J Rr)) (a := (-1)) C hr rfl dX11_countPerson_12 (by decide) () rfl (hF _ rfl)
theorem hd_yX11_countPerson : yX11_countPerson.cls ≠ "java/lang/invoke/MethodHandle" ∧ yX11_countPerson.cls ≠ "java/lang/invoke/VarHandle" ∧ (parseMethodDescriptor yX11_countPerson.desc).map (fun d => d.parameters.length) = some 2 := by decide +kernel
theorem hd_yX3_toldPeople : yX3_toldPeople.cls ≠ "java/lang/invoke/MethodHandle" ∧ yX3_toldPeople.cls ≠ "java/lang/invoke/VarHandle" ∧ (parseMethodDescriptor yX3_toldPeople.desc).map (fun d => d.parameters.length) = some 0 := by decide +kernel
theorem dX11_count_0 : decode cX11_count 0 = .ok (.iload_n 1, 1) := by decide +kernel
theorem dX11_count_1 : decode cX11_count 1 = .ok (.bipush 10, 2) := by decide +kernel
theorem dX11_count_3 : decode cX11_count 3 = .ok (.isub, 1) := by decide +kernel
theorem dX11_count_4 : decode cX11_count 4 = .ok (.iconst 4, 1) := by decide +kernel
theorem dX11_count_5 : decode cX11_count 5 = .ok (.invokestatic 70, 3) := by decide +kernel
theorem dX11_count_8 : decode cX11_count 8 = .ok (.ifCond .eq 19, 3) := by decide +kernel
theorem dX11_count_11 : decode cX11_count 11 = .ok (.aload_n 0, 1) := by decide +kernel
theorem dX11_count_12 : decode cX11_count 12 = .ok (.getfield 34, 3) := by decide +kernel
theorem dX11_count_15 : decode cX11_count 15 = .ok (.getfield 336, 3) := by decide +kernel
theorem dX11_count_18 : decode cX11_count 18 = .ok (.iload_n 1, 1) := by decide +kernel
theorem dX11_count_19 : decode cX11_count 19 = .ok (.bipush 10, 2) := by decide +kernel
theorem dX11_count_21 : decode cX11_count 21 = .ok (.isub, 1) := by decide +kernel
theorem dX11_count_22 : decode cX11_count 22 = .ok (.aaload, 1) := by decide +kernel
theorem dX11_count_23 : decode cX11_count 23 = .ok (.getfield 340, 3) := by decide +kernel
theorem dX11_count_26 : decode cX11_count 26 = .ok (.ireturn, 1) := by decide +kernel
theorem dX11_count_27 : decode cX11_count 27 = .ok (.iload_n 1, 1) := by decide +kernel
theorem dX11_count_28 : decode cX11_count 28 = .ok (.bipush 20, 2) := by decide +kernel
theorem dX11_count_30 : decode cX11_count 30 = .ok (.if_icmp .lt 16, 3) := by decide +kernel
theorem dX11_count_33 : decode cX11_count 33 = .ok (.aload_n 0, 1) := by decide +kernel
theorem dX11_count_34 : decode cX11_count 34 = .ok (.iload_n 1, 1) := by decide +kernel
theorem dX11_count_35 : decode cX11_count 35 = .ok (.bipush 10, 2) := by decide +kernel
theorem dX11_count_37 : decode cX11_count 37 = .ok (.idiv, 1) := by decide +kernel
theorem dX11_count_38 : decode cX11_count 38 = .ok (.iload_n 1, 1) := by decide +kernel
theorem dX11_count_39 : decode cX11_count 39 = .ok (.bipush 10, 2) := by decide +kernel
theorem dX11_count_41 : decode cX11_count 41 = .ok (.irem, 1) := by decide +kernel
theorem dX11_count_42 : decode cX11_count 42 = .ok (.invokevirtual 343, 3) := by decide +kernel
theorem dX11_count_45 : decode cX11_count 45 = .ok (.ireturn, 1) := by decide +kernel
theorem dX11_count_46 : decode cX11_count 46 = .ok (.iload_n 1, 1) := by decide +kernel
theorem dX11_count_47 : decode cX11_count 47 = .ok (.tableswitch 100 0 6 #[41, 49, 57, 65, 73, 84, 92], 41) := by decide +kernel
theorem dX11_count_88 : decode cX11_count 88 = .ok (.aload_n 0, 1) := by decide +kernel
theorem dX11_count_89 : decode cX11_count 89 = .ok (.getfield 10, 3) := by decide +kernel
theorem dX11_count_92 : decode cX11_count 92 = .ok (.getfield 296, 3) := by decide +kernel
theorem dX11_count_95 : decode cX11_count 95 = .ok (.ireturn, 1) := by decide +kernel
theorem dX11_count_96 : decode cX11_count 96 = .ok (.aload_n 0, 1) := by decide +kernel
theorem dX11_count_97 : decode cX11_count 97 = .ok (.getfield 10, 3) := by decide +kernel
theorem dX11_count_100 : decode cX11_count 100 = .ok (.invokevirtual 267, 3) := by decide +kernel
theorem dX11_count_103 : decode cX11_count 103 = .ok (.ireturn, 1) := by decide +kernel
theorem dX11_count_104 : decode cX11_count 104 = .ok (.aload_n 0, 1) := by decide +kernel
theorem dX11_count_105 : decode cX11_count 105 = .ok (.getfield 10, 3) := by decide +kernel
theorem dX11_count_108 : decode cX11_count 108 = .ok (.invokevirtual 156, 3) := by decide +kernel
theorem dX11_count_111 : decode cX11_count 111 = .ok (.ireturn, 1) := by decide +kernel
theorem dX11_count_112 : decode cX11_count 112 = .ok (.aload_n 0, 1) := by decide +kernel
theorem dX11_count_113 : decode cX11_count 113 = .ok (.getfield 10, 3) := by decide +kernel
theorem dX11_count_116 : decode cX11_count 116 = .ok (.invokevirtual 346, 3) := by decide +kernel
theorem dX11_count_119 : decode cX11_count 119 = .ok (.ireturn, 1) := by decide +kernel
theorem dX11_count_120 : decode cX11_count 120 = .ok (.aload_n 0, 1) := by decide +kernel
theorem dX11_count_121 : decode cX11_count 121 = .ok (.getfield 34, 3) := by decide +kernel
theorem dX11_count_124 : decode cX11_count 124 = .ok (.getfield 349, 3) := by decide +kernel
theorem dX11_count_127 : decode cX11_count 127 = .ok (.getfield 340, 3) := by decide +kernel
theorem dX11_count_130 : decode cX11_count 130 = .ok (.ireturn, 1) := by decide +kernel
theorem dX11_count_131 : decode cX11_count 131 = .ok (.aload_n 0, 1) := by decide +kernel
theorem dX11_count_132 : decode cX11_count 132 = .ok (.getfield 25, 3) := by decide +kernel
theorem dX11_count_135 : decode cX11_count 135 = .ok (.getfield 120, 3) := by decide +kernel
theorem dX11_count_138 : decode cX11_count 138 = .ok (.ireturn, 1) := by decide +kernel
theorem dX11_count_139 : decode cX11_count 139 = .ok (.aload_n 0, 1) := by decide +kernel
theorem dX11_count_140 : decode cX11_count 140 = .ok (.getfield 10, 3) := by decide +kernel
theorem dX11_count_143 : decode cX11_count 143 = .ok (.getfield 327, 3) := by decide +kernel
theorem dX11_count_146 : decode cX11_count 146 = .ok (.ireturn, 1) := by decide +kernel
theorem dX11_count_147 : decode cX11_count 147 = .ok (.iconst (-1), 1) := by decide +kernel
theorem dX11_count_148 : decode cX11_count 148 = .ok (.ireturn, 1) := by decide +kernel
set_option maxRecDepth 100000 in
def f_s_count (x1 : Int) (V : Nat → Nat → Int) (J : Nat → Nat → Int) (Rr : Nat → Nat → Nat) : (Int) → Prop :=
  rdb (wr (x1 - 10)) fun z1 => calR (f_s_isPlace z1 4) fun z2 => fct (0 ≤ z2 ∧ z2 ≤ 1) <| (if z2 = 0 then (if x1 < 20 then (if x1 = 0 then rdb (V 1 3) fun z6 => rtn z6 else (if x1 = 1 then calR (f_s_toldPlants 1 V J Rr) fun z8 => rtn z8 else (if x1 = 2 then calR (f_s_deadBits 1 V J Rr) fun z10 => rtn z10 else (if x1 = 3 then calR (f_s_toldPeople 1 V J Rr) fun z12 => rtn z12 else (if x1 = 4 then rdb (Rr 60 0) fun t14 => rdb (V t14 5) fun z15 => fct (0 ≤ z15 ∧ z15 ≤ 14) <| rtn z15 else (if x1 = 5 then rdb (V 58 1) fun z17 => fct (0 ≤ z17 ∧ z17 ≤ 220) <| rtn z17 else (if x1 = 6 then rdb (V 1 4) fun z19 => rtn z19 else rtn ((-1))))))))) else rdb (iDiv x1 10) fun z20 => fct (0 ≤ z20 ∧ z20 ≤ 2147483647) <| rdb (iRem x1 10) fun z21 => fct (0 ≤ z21 ∧ z21 ≤ 9) <| calR (f_s_countPerson z20 z21 V J Rr) fun z22 => rtn z22) else rdb (wr (x1 - 10)) fun z24 => rdb (Rr 66 z24.toNat) fun t25 => rdb (V t25 5) fun z26 => fct (0 ≤ z26 ∧ z26 ≤ 14) <| rtn z26)
set_option maxHeartbeats 8000000 in
set_option maxRecDepth 100000 in
theorem s_count (l : Launch) (D : va_G) (cy : Nat → ClassId) (ad : Nat → Nat) (G : Nat → Nat → Int) (V J : Nat → Nat → Int) (Rr : Nat → Nat → Nat) (hI : XI G V) (hJ : VJ J) (hR : XR Rr) (x1 : Int) (bx1 : -2147483648 ≤ x1 ∧ x1 ≤ 2147483647) : xMi l D (xTY cy) yX11_count cX11_count 2 (some .int) 3 64 0 0 [.ref (ad 0), vI x1] (XW cy ad V J Rr) (fun _ : Unit => XW cy ad V J Rr) (fun a (u : Unit) => (f_s_count x1 V J Rr) a) := by
  refine xMi.mk (lv0 := [(0, .ref (ad 0)), (1, vI x1)]) (by decide) rfl (Nat.le_of_ble_eq_true rfl) (fun p e s m below meth c A C hr hnm hAe => ?_)
  have C : xC2 p s m _ meth c D A s.heap 2 cX11_count RX11 (xTY cy) := C
  have hF := Imp.of_eq (f_s_count.eq_def x1 V J Rr)
  refine x_iload_n C.1 dX11_count_0 1 rfl ?_
  refine x_bipush C.1 (n := 10) dX11_count_1 ?_
  refine x_isub C.1 (v := x1 - 10) (by omega) dX11_count_3 ?_
  refine x_wrapg ?_
  intro z1 bz1 ew1
  replace hF := hF.to (rdb_e (z := z1) ew1.symm)
  refine x_iconst C.1 (n := 4) dX11_count_4 ?_
  refine x_callSi C (As := [vI z1, vI 4]) (rest := []) (s_isPlace l D cy z1 ⟨by omega, by omega⟩ 4 ⟨by decide, by decide⟩) (l1 := []) (l2 := _) rfl (w2 := fun _ => _) (fun _ => rfl) rfl wm_yX11_isPlace wn_X11 wl_X11_70 wi_yX11_isPlace hd_yX11_isPlace rfl ⟨Nat.le_of_ble_eq_true rfl, Nat.le_of_ble_eq_true rfl⟩ (Nat.le_of_ble_eq_true rfl) ⟨Nat.le_of_ble_eq_true rfl, Nat.le_of_ble_eq_true rfl⟩ dX11_count_5 (fun z2 u2 bz2 h2 => ?_)
  obtain ⟨bq2, hx2_0, hFc2⟩ := h2
  replace hF := calR_i hF hFc2
  replace hF := hF.fc bq2
  refine x_if_eq C.1 (tgt := 27) dX11_count_8 (by decide) (by omega) (fun hc3 => ?_) (fun hc3 => ?_)
  · replace hF := hF.to (if_pos hc3)
    refine x_iload_n C.1 dX11_count_27 1 rfl ?_
    refine x_bipush C.1 (n := 20) dX11_count_28 ?_
    refine x_icmp_lt C.1 (tgt := 46) dX11_count_30 (by decide) (by omega) (by decide) (fun hc4 => ?_) (fun hc4 => ?_)
    · replace hF := hF.to (if_pos hc4)
      refine x_iload_n C.1 dX11_count_46 1 rfl ?_
      by_cases hs5 : x1 = 0
      · replace hF := hF.to (if_pos hs5)
        refine x_tabIn C.1 0 hs5 (by decide) (tgt := 88) dX11_count_47 (by decide) (by decide) rfl (by decide) ?_
        refine x_aload_n C.1 dX11_count_88 0 rfl ?_
        refine x_getA C (N := 129) (i := 0) (by decide) rfl vc_X11 wx_X11 0 (by decide) wf_X11_10 (a := 1) rfl dX11_count_89 ?_
        obtain ⟨z6, ez6, bz6⟩ := hI.rd 1 3 (x := -2147483648) (y := 2147483647) (rg_L (Or.inl rfl) _)
        replace hF := hF.to (rdb_e (z := z6) ez6)
        refine x_getI C (N := 129) (i := 1) (by omega) (xd_L (Or.inl rfl)) vc_X3 wx_X3 3 (by decide) wf_X11_296 rfl dX11_count_92 (a := z6) ez6 ?_
        exact x_iret (S := Unit) (post := (fun a (u : Unit) => (f_s_count x1 V J Rr) a)) (w1 := (fun _ : Unit => XW cy ad V J Rr)) (a := z6) C hr rfl dX11_count_95 (by omega) () rfl (hF _ rfl)
      replace hF := hF.to (if_neg hs5)
      by_cases hs7 : x1 = 1
      · replace hF := hF.to (if_pos hs7)
        refine x_tabIn C.1 1 hs7 (by decide) (tgt := 96) dX11_count_47 (by decide) (by decide) rfl (by decide) ?_
        refine x_aload_n C.1 dX11_count_96 0 rfl ?_
        refine x_getA C (N := 129) (i := 0) (by decide) rfl vc_X11 wx_X11 0 (by decide) wf_X11_10 (a := 1) rfl dX11_count_97 ?_
        refine x_callVi C (As := []) (rest := []) 1 (xw_at (N := 129) (i := 1) (by omega) (xd_L (Or.inl rfl))) vc_X3 (s_toldPlants l D cy ad G V J Rr hI hJ hR 1 (Or.inl rfl)) (l1 := []) (l2 := []) (List.append_nil _).symm (w2 := fun _ => XW cy ad V J Rr) (fun _ => List.append_nil _) rfl wm_yX3_toldPlants wn_X3 wl_X11_267 wi_yX3_toldPlants we_yX3_toldPlants hd_yX3_toldPlants rfl ⟨Nat.le_of_ble_eq_true rfl, Nat.le_of_ble_eq_true rfl⟩ (Nat.le_of_ble_eq_true rfl) ⟨Nat.le_of_ble_eq_true rfl, Nat.le_of_ble_eq_true rfl⟩ dX11_count_100 (fun z8 u8 bz8 h8 => ?_)
        have hFc8 := h8
        replace hF := calR_i hF hFc8
        exact x_iret (S := Unit) (post := (fun a (u : Unit) => (f_s_count x1 V J Rr) a)) (w1 := (fun _ : Unit => XW cy ad V J Rr)) (a := z8) C hr rfl dX11_count_103 (by omega) () rfl (hF _ rfl)
      replace hF := hF.to (if_neg hs7)
      by_cases hs9 : x1 = 2
      · replace hF := hF.to (if_pos hs9)
        refine x_tabIn C.1 2 hs9 (by decide) (tgt := 104) dX11_count_47 (by decide) (by decide) rfl (by decide) ?_
        refine x_aload_n C.1 dX11_count_104 0 rfl ?_
        refine x_getA C (N := 129) (i := 0) (by decide) rfl vc_X11 wx_X11 0 (by decide) wf_X11_10 (a := 1) rfl dX11_count_105 ?_
        refine x_callVi C (As := []) (rest := []) 1 (xw_at (N := 129) (i := 1) (by omega) (xd_L (Or.inl rfl))) vc_X3 (s_deadBits l D cy ad G V J Rr hI hJ hR 1 (Or.inl rfl)) (l1 := []) (l2 := []) (List.append_nil _).symm (w2 := fun _ => XW cy ad V J Rr) (fun _ => List.append_nil _) rfl wm_yX3_deadBits wn_X3 wl_X11_156 wi_yX3_deadBits we_yX3_deadBits hd_yX3_deadBits rfl ⟨Nat.le_of_ble_eq_true rfl, Nat.le_of_ble_eq_true rfl⟩ (Nat.le_of_ble_eq_true rfl) ⟨Nat.le_of_ble_eq_true rfl, Nat.le_of_ble_eq_true rfl⟩ dX11_count_108 (fun z10 u10 bz10 h10 => ?_)
        have hFc10 := h10
        replace hF := calR_i hF hFc10
        exact x_iret (S := Unit) (post := (fun a (u : Unit) => (f_s_count x1 V J Rr) a)) (w1 := (fun _ : Unit => XW cy ad V J Rr)) (a := z10) C hr rfl dX11_count_111 (by omega) () rfl (hF _ rfl)
      replace hF := hF.to (if_neg hs9)
      by_cases hs11 : x1 = 3
      · replace hF := hF.to (if_pos hs11)
        refine x_tabIn C.1 3 hs11 (by decide) (tgt := 112) dX11_count_47 (by decide) (by decide) rfl (by decide) ?_
        refine x_aload_n C.1 dX11_count_112 0 rfl ?_
        refine x_getA C (N := 129) (i := 0) (by decide) rfl vc_X11 wx_X11 0 (by decide) wf_X11_10 (a := 1) rfl dX11_count_113 ?_
        refine x_callVi C (As := []) (rest := []) 1 (xw_at (N := 129) (i := 1) (by omega) (xd_L (Or.inl rfl))) vc_X3 (s_toldPeople l D cy ad G V J Rr hI hJ hR 1 (Or.inl rfl)) (l1 := []) (l2 := []) (List.append_nil _).symm (w2 := fun _ => XW cy ad V J Rr) (fun _ => List.append_nil _) rfl wm_yX3_toldPeople wn_X3 wl_X11_346 wi_yX3_toldPeople we_yX3_toldPeople hd_yX3_toldPeople rfl ⟨Nat.le_of_ble_eq_true rfl, Nat.le_of_ble_eq_true rfl⟩ (Nat.le_of_ble_eq_true rfl) ⟨Nat.le_of_ble_eq_true rfl, Nat.le_of_ble_eq_true rfl⟩ dX11_count_116 (fun z12 u12 bz12 h12 => ?_)
        have hFc12 := h12
        replace hF := calR_i hF hFc12
        exact x_iret (S := Unit) (post := (fun a (u : Unit) => (f_s_count x1 V J Rr) a)) (w1 := (fun _ : Unit => XW cy ad V J Rr)) (a := z12) C hr rfl dX11_count_119 (by omega) () rfl (hF _ rfl)
      replace hF := hF.to (if_neg hs11)
      by_cases hs13 : x1 = 4
      · replace hF := hF.to (if_pos hs13)
        refine x_tabIn C.1 4 hs13 (by decide) (tgt := 120) dX11_count_47 (by decide) (by decide) rfl (by decide) ?_
        refine x_aload_n C.1 dX11_count_120 0 rfl ?_
        refine x_getA C (N := 129) (i := 0) (by decide) rfl vc_X11 wx_X11 5 (by decide) wf_X11_34 (a := 60) rfl dX11_count_121 ?_
        obtain ⟨t14, et14, ht14⟩ := XR.law hR
        replace hF := hF.to (rdb_e (z := t14) et14)
        refine x_getR C (N := 129) (i := 60) (by decide) rfl vc_X1 wx_X1 0 (by decide) wf_X11_349 rfl dX11_count_124 (a := t14) et14 ?_
        obtain ⟨z15, ez15, bz15⟩ := hI.rd t14 5 (x := 0) (y := 14) (rg_T ht14 5)
        replace hF := hF.to (rdb_e (z := z15) ez15)
        replace hF := hF.fc bz15
        refine x_getI C (N := 129) (i := t14) (by omega) (xd_T ht14) vc_X9 wx_X9 5 (by decide) wf_X11_340 rfl dX11_count_127 (a := z15) ez15 ?_
        exact x_iret (S := Unit) (post := (fun a (u : Unit) => (f_s_count x1 V J Rr) a)) (w1 := (fun _ : Unit => XW cy ad V J Rr)) (a := z15) C hr rfl dX11_count_130 (by omega) () rfl (hF _ rfl)
      replace hF := hF.to (if_neg hs13)
      by_cases hs16 : x1 = 5
      · replace hF := hF.to (if_pos hs16)
        refine x_tabIn C.1 5 hs16 (by decide) (tgt := 131) dX11_count_47 (by decide) (by decide) rfl (by decide) ?_
        refine x_aload_n C.1 dX11_count_131 0 rfl ?_
        refine x_getA C (N := 129) (i := 0) (by decide) rfl vc_X11 wx_X11 4 (by decide) wf_X11_25 (a := 58) rfl dX11_count_132 ?_
        obtain ⟨z17, ez17, bz17⟩ := hI.rd 58 1 (x := 0) (y := 220) rfl
        replace hF := hF.to (rdb_e (z := z17) ez17)
        replace hF := hF.fc bz17
        refine x_getI C (N := 129) (i := 58) (by decide) rfl vc_X8 wx_X8 1 (by decide) wf_X11_120 rfl dX11_count_135 (a := z17) ez17 ?_
        exact x_iret (S := Unit) (post := (fun a (u : Unit) => (f_s_count x1 V J Rr) a)) (w1 := (fun _ : Unit => XW cy ad V J Rr)) (a := z17) C hr rfl dX11_count_138 (by omega) () rfl (hF _ rfl)
      replace hF := hF.to (if_neg hs16)
      by_cases hs18 : x1 = 6
      · replace hF := hF.to (if_pos hs18)
        refine x_tabIn C.1 6 hs18 (by decide) (tgt := 139) dX11_count_47 (by decide) (by decide) rfl (by decide) ?_
        refine x_aload_n C.1 dX11_count_139 0 rfl ?_
        refine x_getA C (N := 129) (i := 0) (by decide) rfl vc_X11 wx_X11 0 (by decide) wf_X11_10 (a := 1) rfl dX11_count_140 ?_
        obtain ⟨z19, ez19, bz19⟩ := hI.rd 1 4 (x := -2147483648) (y := 2147483647) (rg_L (Or.inl rfl) _)
        replace hF := hF.to (rdb_e (z := z19) ez19)
        refine x_getI C (N := 129) (i := 1) (by omega) (xd_L (Or.inl rfl)) vc_X3 wx_X3 4 (by decide) wf_X11_327 rfl dX11_count_143 (a := z19) ez19 ?_
        exact x_iret (S := Unit) (post := (fun a (u : Unit) => (f_s_count x1 V J Rr) a)) (w1 := (fun _ : Unit => XW cy ad V J Rr)) (a := z19) C hr rfl dX11_count_146 (by omega) () rfl (hF _ rfl)
      replace hF := hF.to (if_neg hs18)
      refine x_tabOut C.1 (tgt := 147) (by omega) dX11_count_47 (by omega) (by decide) ?_
      refine x_iconst C.1 (n := -1) dX11_count_147 ?_
      exact x_iret (S := Unit) (post := (fun a (u : Unit) => (f_s_count x1 V J Rr) a)) (w1 := (fun _ : Unit => XW cy ad V J Rr)) (a := (-1)) C hr rfl dX11_count_148 (by decide) () rfl (hF _ rfl)
    · replace hF := hF.to (if_neg hc4)
      refine x_aload_n C.1 dX11_count_33 0 rfl ?_
      refine x_iload_n C.1 dX11_count_34 1 rfl ?_
      refine x_bipush C.1 (n := 10) dX11_count_35 ?_
      obtain ⟨z20, hz20, bz20⟩ : ∃ z : Int, iDiv x1 10 = z ∧ (0 ≤ z ∧ z ≤ 2147483647) := ⟨_, rfl, iDiv_n (by omega) (by omega)⟩
      replace hF := hF.to (rdb_e (z := z20) hz20)
      replace hF := hF.fc bz20
      refine x_idiv C.1 (v := z20) hz20 dX11_count_37 (by decide) (by decide) ?_
      refine x_iload_n C.1 dX11_count_38 1 rfl ?_
      refine x_bipush C.1 (n := 10) dX11_count_39 ?_
      obtain ⟨z21, hz21, bz21⟩ : ∃ z : Int, iRem x1 10 = z ∧ (0 ≤ z ∧ z ≤ 9) := ⟨_, rfl, iRem_n (by omega) (by omega)⟩
      replace hF := hF.to (rdb_e (z := z21) hz21)
      replace hF := hF.fc bz21
      refine x_irem C.1 (v := z21) hz21 dX11_count_41 (by decide) (by decide) ?_
      refine x_callVi C (As := [vI z20, vI z21]) (rest := []) 0 (xw_at (N := 129) (i := 0) (by decide) rfl) vc_X11 (s_countPerson l D cy ad G V J Rr hI hJ hR z20 ⟨by omega, by omega⟩ z21 ⟨by omega, by omega⟩) (l1 := []) (l2 := []) (List.append_nil _).symm (w2 := fun _ => XW cy ad V J Rr) (fun _ => List.append_nil _) rfl wm_yX11_countPerson wn_X11 wl_X11_343 wi_yX11_countPerson we_yX11_countPerson hd_yX11_countPerson rfl ⟨Nat.le_of_ble_eq_true rfl, Nat.le_of_ble_eq_true rfl⟩ (Nat.le_of_ble_eq_true rfl) ⟨Nat.le_of_ble_eq_true rfl, Nat.le_of_ble_eq_true rfl⟩ dX11_count_42 (fun z22 u22 bz22 h22 => ?_)
      have hFc22 := h22
      replace hF := calR_i hF hFc22
      exact x_iret (S := Unit) (post := (fun a (u : Unit) => (f_s_count x1 V J Rr) a)) (w1 := (fun _ : Unit => XW cy ad V J Rr)) (a := z22) C hr rfl dX11_count_45 (by omega) () rfl (hF _ rfl)
  · replace hF := hF.to (if_neg hc3)
    have hon23 := Sq.on hx2_0 (by omega)
    refine x_aload_n C.1 dX11_count_11 0 rfl ?_
    refine x_getA C (N := 129) (i := 0) (by decide) rfl vc_X11 wx_X11 5 (by decide) wf_X11_34 (a := 60) rfl dX11_count_12 ?_
    refine x_getA C (N := 129) (i := 60) (by decide) rfl vc_X1 wx_X1 1 (by decide) wf_X11_336 (a := 66) rfl dX11_count_15 ?_
    refine x_iload_n C.1 dX11_count_18 1 rfl ?_
    refine x_bipush C.1 (n := 10) dX11_count_19 ?_
    refine x_isub C.1 (v := x1 - 10) (by omega) dX11_count_21 ?_
    refine x_wrapg ?_
    intro z24 bz24 ew24
    replace hF := hF.to (rdb_e (z := z24) ew24.symm)
    obtain ⟨t25, et25, ht25⟩ := hR.rule (k := z24.toNat) (by omega)
    replace hF := hF.to (rdb_e (z := t25) et25)
    refine x_aldR C (N := 129) (i := 66) (q := z24) (t := 6) rfl (by decide) rfl (by omega) (by decide) dX11_count_22 (a := t25) et25 ?_
    obtain ⟨z26, ez26, bz26⟩ := hI.rd t25 5 (x := 0) (y := 14) (rg_T ht25 5)
    replace hF := hF.to (rdb_e (z := z26) ez26)
    replace hF := hF.fc bz26
    refine x_getI C (N := 129) (i := t25) (by omega) (xd_T ht25) vc_X9 wx_X9 5 (by decide) wf_X11_340 rfl dX11_count_23 (a := z26) ez26 ?_
    exact x_iret (S := Unit) (post := (fun a (u : Unit) => (f_s_count x1 V J Rr) a)) (w1 := (fun _ : Unit => XW cy ad V J Rr)) (a := z26) C hr rfl dX11_count_26 (by omega) () rfl (hF _ rfl)
